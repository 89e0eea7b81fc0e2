/-! THE MODEL's tape and its reader (laid by wip/whole/gen/gm6.py). -/
section M6
theorem z_u_c {σ : z_S} {k k' : Nat} {i i' v v' : Int} (h : k ≠ k') : z_u (z_u σ k i v) k' i' v' = z_u (z_u σ k' i' v') k i v := by
  funext q j
  unfold z_u
  by_cases h1 : q = k
  · by_cases h2 : q = k'
    · exact absurd (h1.symm.trans h2) h
    · rw [if_neg h2, if_pos h1, if_pos h1, if_neg h2]
  · by_cases h2 : q = k'
    · rw [if_pos h2, if_neg h1, if_neg h1, if_pos h2]
    · rw [if_neg h2, if_neg h1, if_neg h1, if_neg h2]
theorem zN4 {σ : z_S} {a b c w t : Int} : z_u (z_u (z_u (z_u (z_u σ 7 0 a) 5 0 b) 4 0 c) 6 0 w) 4 0 t = z_u (z_u (z_u (z_u σ 7 0 a) 5 0 b) 4 0 t) 6 0 w := by
  rw [z_u_c (k := 6) (k' := 4) (by decide), z_u_u]
theorem zN3 {σ : z_S} {a b c w f : Int} : z_u (z_u (z_u (z_u (z_u σ 7 0 a) 5 0 b) 4 0 c) 6 0 w) 7 0 f = z_u (z_u (z_u (z_u σ 7 0 f) 5 0 b) 4 0 c) 6 0 w := by
  rw [z_u_c (k := 6) (k' := 7) (by decide), z_u_c (k := 4) (k' := 7) (by decide), z_u_c (k := 5) (k' := 7) (by decide), z_u_u]
theorem zN2 {σ : z_S} {a b c w w' f : Int} : z_u (z_u (z_u (z_u (z_u (z_u σ 7 0 a) 5 0 b) 4 0 c) 6 0 w) 6 0 w') 7 0 f = z_u (z_u (z_u (z_u σ 7 0 f) 5 0 b) 4 0 c) 6 0 w' := by
  rw [z_u_u, zN3]
theorem zN1 {σ : z_S} {a b c w t f : Int} : z_u (z_u (z_u (z_u (z_u (z_u σ 7 0 a) 5 0 b) 4 0 c) 6 0 w) 4 0 t) 7 0 f = z_u (z_u (z_u (z_u σ 7 0 f) 5 0 b) 4 0 t) 6 0 w := by
  rw [zN4, zN3]
/-- what holds while the model reads: at, the tape, the value, newCriteria, the token -/
def mP0 (σ : z_S) : Prop := (0 ≤ σ 7 0 ∧ σ 7 0 ≤ σ 2 0 ∧ σ 2 0 ≤ 100) ∧ (∀ i : Int, 0 ≤ σ 1 i ∧ σ 1 i ≤ 255) ∧ (0 ≤ σ 13 0 ∧ σ 13 0 ≤ 4)
def mP (σ : z_S) : Prop := mP0 σ ∧ (-1000000 ≤ σ 6 0 ∧ σ 6 0 ≤ 1000000) ∧ (0 ≤ σ 4 0 ∧ σ 4 0 ≤ 4) ∧ (σ 4 0 = 3 → 97 ≤ σ 6 0 ∧ σ 6 0 ≤ 100)
/-- behind the blanks; behind the digits; what the first three digits say -/
def ySk (σ : z_S) : Nat → Int → Int
  | 0, i => i
  | f + 1, i => if σ 1 i = 32 ∨ σ 1 i = 10 then ySk σ f (i + 1) else i
abbrev yDi (σ : z_S) (i : Int) : Prop := 48 ≤ σ 1 i ∧ σ 1 i ≤ 57
def yDe (σ : z_S) : Nat → Int → Int
  | 0, i => i
  | f + 1, i => if yDi σ i then yDe σ f (i + 1) else i
def yDv (σ : z_S) : Nat → Int → Int → Int → Int
  | 0, _, _, v => v
  | f + 1, i, d, v => if yDi σ i then yDv σ f (i + 1) (d + 1) (if d < 3 then 10 * v + σ 1 i - 48 else v) else v
def yA (σ : z_S) : Int := ySk σ (σ 2 0 - σ 7 0).toNat (σ 7 0)
def yE (σ : z_S) : Int := yDe σ (σ 2 0 - yA σ).toNat (yA σ)
def yW (σ : z_S) : Int := yDv σ (σ 2 0 - yA σ).toNat (yA σ) 0 0
/-- the token's kind at a byte that is no digit -/
def yTo (b : Int) : Int := if sgn b then 1 else if 97 ≤ b ∧ b ≤ 100 then 3 else 4
/-- the state behind reads() -/
def yRd (σ : z_S) : z_S := if yA σ = σ 2 0 then z_u (z_u (z_u σ 7 0 (yA σ)) 5 0 (yA σ)) 4 0 0
  else if 48 ≤ σ 1 (yA σ) ∧ σ 1 (yA σ) ≤ 57 then z_u (z_u (z_u (z_u σ 7 0 (yE σ)) 5 0 (yA σ)) 4 0 (if yE σ - yA σ ≤ 3 then 2 else 4)) 6 0 (yW σ)
  else z_u (z_u (z_u (z_u σ 7 0 (yA σ + 1)) 5 0 (yA σ)) 4 0 (yTo (σ 1 (yA σ)))) 6 0 (σ 1 (yA σ))
theorem ySk_t {σ : z_S} {m i : Int} (h : i < m) (hp : σ 1 i = 32 ∨ σ 1 i = 10) : ySk σ (m - i).toNat i = ySk σ (m - (i + 1)).toNat (i + 1) := by
  rw [show (m - i).toNat = (m - (i + 1)).toNat + 1 by omega]
  exact if_pos hp
theorem ySk_f {σ : z_S} {m i : Int} (h : m ≤ i ∨ ¬ (σ 1 i = 32 ∨ σ 1 i = 10)) : ySk σ (m - i).toNat i = i := by
  by_cases hm : m ≤ i
  · rw [show (m - i).toNat = 0 by omega]; rfl
  · rw [show (m - i).toNat = (m - (i + 1)).toNat + 1 by omega]
    exact if_neg (h.resolve_left hm)
theorem yDe_t {σ : z_S} {m i : Int} (h : i < m) (hp : yDi σ i) : yDe σ (m - i).toNat i = yDe σ (m - (i + 1)).toNat (i + 1) := by
  rw [show (m - i).toNat = (m - (i + 1)).toNat + 1 by omega]
  exact if_pos hp
theorem yDe_f {σ : z_S} {m i : Int} (h : m ≤ i ∨ ¬ yDi σ i) : yDe σ (m - i).toNat i = i := by
  by_cases hm : m ≤ i
  · rw [show (m - i).toNat = 0 by omega]; rfl
  · rw [show (m - i).toNat = (m - (i + 1)).toNat + 1 by omega]
    exact if_neg (h.resolve_left hm)
theorem yDv_t {σ : z_S} {m i d v : Int} (h : i < m) (hp : yDi σ i) : yDv σ (m - i).toNat i d v = yDv σ (m - (i + 1)).toNat (i + 1) (d + 1) (if d < 3 then 10 * v + σ 1 i - 48 else v) := by
  rw [show (m - i).toNat = (m - (i + 1)).toNat + 1 by omega]
  exact if_pos hp
theorem yDv_f {σ : z_S} {m i d v : Int} (h : m ≤ i ∨ ¬ yDi σ i) : yDv σ (m - i).toNat i d v = v := by
  by_cases hm : m ≤ i
  · rw [show (m - i).toNat = 0 by omega]; rfl
  · rw [show (m - i).toNat = (m - (i + 1)).toNat + 1 by omega]
    exact if_neg (h.resolve_left hm)
theorem ySk_b {σ : z_S} : ∀ (f : Nat) (i : Int), i ≤ ySk σ f i ∧ ySk σ f i ≤ i + f := by
  intro f
  induction f with
  | zero => intro i; exact ⟨by show i ≤ i; omega, by show i ≤ i + ((0 : Nat) : Int); omega⟩
  | succ f ih =>
    intro i
    show i ≤ ite _ _ _ ∧ ite _ _ _ ≤ _
    have := ih (i + 1)
    split <;> omega
theorem yDe_b {σ : z_S} : ∀ (f : Nat) (i : Int), i ≤ yDe σ f i ∧ yDe σ f i ≤ i + f := by
  intro f
  induction f with
  | zero => intro i; exact ⟨by show i ≤ i; omega, by show i ≤ i + ((0 : Nat) : Int); omega⟩
  | succ f ih =>
    intro i
    show i ≤ ite _ _ _ ∧ ite _ _ _ ≤ _
    have := ih (i + 1)
    split <;> omega
theorem yDv_b {σ : z_S} : ∀ (f : Nat) (i d v : Int), 0 ≤ d → 0 ≤ v → v ≤ 10 ^ (min d 3).toNat - 1 → 0 ≤ yDv σ f i d v ∧ yDv σ f i d v ≤ 999 := by
  intro f
  induction f with
  | zero =>
    intro i d v h0 h1 h2
    show 0 ≤ v ∧ v ≤ 999
    refine ⟨h1, Int.le_trans h2 ?_⟩
    rcases (show (min d 3).toNat = 0 ∨ (min d 3).toNat = 1 ∨ (min d 3).toNat = 2 ∨ (min d 3).toNat = 3 by omega) with e | e | e | e <;> rw [e] <;> decide
  | succ f ih =>
    intro i d v h0 h1 h2
    show 0 ≤ ite _ _ _ ∧ ite _ _ _ ≤ _
    split
    · rename_i hd
      refine ih _ _ _ (by omega) (by split <;> omega) ?_
      rcases (show d = 0 ∨ d = 1 ∨ d = 2 ∨ 3 ≤ d by omega) with rfl | rfl | rfl | e
      · rw [if_pos (by omega)]
        have h3 : v ≤ 0 := h2
        show _ ≤ (10 : Int) - 1
        omega
      · rw [if_pos (by omega)]
        have h3 : v ≤ 9 := h2
        show _ ≤ (100 : Int) - 1
        omega
      · rw [if_pos (by omega)]
        have h3 : v ≤ 99 := h2
        show _ ≤ (1000 : Int) - 1
        omega
      · rw [if_neg (by omega), show min (d + 1) 3 = 3 by omega]
        rw [show min d 3 = 3 by omega] at h2
        exact h2
    · refine ⟨h1, Int.le_trans h2 ?_⟩
      rcases (show (min d 3).toNat = 0 ∨ (min d 3).toNat = 1 ∨ (min d 3).toNat = 2 ∨ (min d 3).toNat = 3 by omega) with e | e | e | e <;> rw [e] <;> decide
theorem yA_b {σ : z_S} (hP : mP0 σ) : σ 7 0 ≤ yA σ ∧ yA σ ≤ σ 2 0 := by
  have := ySk_b (σ := σ) (σ 2 0 - σ 7 0).toNat (σ 7 0)
  have := hP.1
  unfold yA
  omega
theorem yE_b {σ : z_S} (hP : mP0 σ) : yA σ ≤ yE σ ∧ yE σ ≤ σ 2 0 := by
  have := yDe_b (σ := σ) (σ 2 0 - yA σ).toNat (yA σ)
  have := yA_b hP
  unfold yE
  omega
theorem yW_b {σ : z_S} : 0 ≤ yW σ ∧ yW σ ≤ 999 := yDv_b _ _ _ _ (by omega) (by omega) (by decide)
theorem mP_yRd {σ : z_S} (hP : mP0 σ) (q3 : -1000000 ≤ σ 6 0 ∧ σ 6 0 ≤ 1000000) : mP (yRd σ) := by
  have ha := yA_b hP
  have he := yE_b hP
  have hw := yW_b (σ := σ)
  obtain ⟨q1, q2, q4⟩ := hP
  have hb := q2 (yA σ)
  unfold yRd
  split
  · rename_i q0
    refine ⟨⟨?_, q2, q4⟩, ?_, ?_, ?_⟩
    · show 0 ≤ yA σ ∧ yA σ ≤ σ 2 0 ∧ σ 2 0 ≤ 100
      omega
    · exact q3
    · show (0 : Int) ≤ 0 ∧ (0 : Int) ≤ 4
      omega
    · intro (h : (0 : Int) = 3)
      omega
  · split
    · refine ⟨⟨?_, q2, q4⟩, ?_, ?_, ?_⟩
      · show 0 ≤ yE σ ∧ yE σ ≤ σ 2 0 ∧ σ 2 0 ≤ 100
        omega
      · show -1000000 ≤ yW σ ∧ yW σ ≤ 1000000
        omega
      · show 0 ≤ (if yE σ - yA σ ≤ 3 then (2 : Int) else 4) ∧ (if yE σ - yA σ ≤ 3 then (2 : Int) else 4) ≤ 4
        split <;> omega
      · intro (h : (if yE σ - yA σ ≤ 3 then (2 : Int) else 4) = 3)
        split at h <;> omega
    · refine ⟨⟨?_, q2, q4⟩, ?_, ?_, ?_⟩
      · show 0 ≤ yA σ + 1 ∧ yA σ + 1 ≤ σ 2 0 ∧ σ 2 0 ≤ 100
        omega
      · show -1000000 ≤ σ 1 (yA σ) ∧ σ 1 (yA σ) ≤ 1000000
        omega
      · show 0 ≤ yTo (σ 1 (yA σ)) ∧ yTo (σ 1 (yA σ)) ≤ 4
        unfold yTo
        split
        · omega
        · split <;> omega
      · intro (h : yTo (σ 1 (yA σ)) = 3)
        show 97 ≤ σ 1 (yA σ) ∧ σ 1 (yA σ) ≤ 100
        unfold yTo at h
        split at h
        · omega
        · split at h <;> omega
theorem yRd_k {σ : z_S} {k : Nat} (hk : k ≠ 4 ∧ k ≠ 5 ∧ k ≠ 6 ∧ k ≠ 7) : yRd σ k = σ k := by
  unfold yRd
  split
  · rw [z_u_ne hk.1, z_u_ne hk.2.1, z_u_ne hk.2.2.2]
  · split
    · rw [z_u_ne hk.2.2.1, z_u_ne hk.1, z_u_ne hk.2.1, z_u_ne hk.2.2.2]
    · rw [z_u_ne hk.2.2.1, z_u_ne hk.1, z_u_ne hk.2.1, z_u_ne hk.2.2.2]
/-- readsTerm(s): whether it holds, and the state behind it -/
def yTt (σ : z_S) (s t : Int) : Int × z_S := if σ 4 0 ≠ 3 then (0, σ) else (1, yRd (z_u σ 9 (4 * σ 13 0 + σ 6 0 - 97) (σ 9 (4 * σ 13 0 + σ 6 0 - 97) + s * t)))
def yRt (σ : z_S) (s : Int) : Int × z_S := if σ 4 0 = 2 then (if yRd σ 4 0 = 1 ∧ yRd σ 6 0 = 42 then yTt (yRd (yRd σ)) s (σ 6 0) else (0, yRd σ)) else yTt σ s 1
theorem mP_u9 {σ : z_S} (hP : mP σ) {i v : Int} : mP (z_u σ 9 i v) := hP
theorem mP_r {σ : z_S} (hP : mP σ) : mP (yRd σ) := mP_yRd hP.1 hP.2.1
theorem mP_u11 {σ : z_S} (hP : mP σ) {i v : Int} : mP (z_u σ 11 i v) := hP
theorem mP_yTt {σ : z_S} (hP : mP σ) (s t : Int) : mP (yTt σ s t).2 := by
  unfold yTt
  split
  · exact hP
  · exact mP_yRd (mP_u9 hP).1 (mP_u9 hP).2.1
theorem mP_yRt {σ : z_S} (hP : mP σ) (s : Int) : mP (yRt σ s).2 := by
  unfold yRt
  split
  · split
    · exact mP_yTt (mP_yRd (mP_yRd hP.1 hP.2.1).1 (mP_yRd hP.1 hP.2.1).2.1) _ _
    · exact mP_yRd hP.1 hP.2.1
  · exact mP_yTt hP _ _
theorem yRt_01 (σ : z_S) (s : Int) : (yRt σ s).1 = 0 ∨ (yRt σ s).1 = 1 := by
  unfold yRt yTt
  (repeat' split) <;> first | exact Or.inl rfl | exact Or.inr rfl
theorem yRt_k {σ : z_S} {s : Int} {k : Nat} (hk : k ≠ 4 ∧ k ≠ 5 ∧ k ≠ 6 ∧ k ≠ 7 ∧ k ≠ 9) : (yRt σ s).2 k = σ k := by
  have h4 : k ≠ 4 ∧ k ≠ 5 ∧ k ≠ 6 ∧ k ≠ 7 := ⟨hk.1, hk.2.1, hk.2.2.1, hk.2.2.2.1⟩
  have ht : ∀ ρ t, (yTt ρ s t).2 k = ρ k := by
    intro ρ t
    unfold yTt
    split
    · rfl
    · exact (yRd_k h4).trans (z_u_ne hk.2.2.2.2)
  unfold yRt
  split
  · split
    · rw [ht, yRd_k h4, yRd_k h4]
    · exact yRd_k h4
  · exact ht _ _
/-- the sign that a token + or - means -/
def ySg (σ : z_S) : Int := if σ 6 0 = 43 then 1 else -1
/-- the terms behind the first one -/
def yTl : Nat → z_S → Int × z_S
  | 0, σ => if σ 4 0 = 1 ∧ (σ 6 0 = 43 ∨ σ 6 0 = 45) then (0, yRd σ) else (1, σ)
  | f + 1, σ => if σ 4 0 = 1 ∧ (σ 6 0 = 43 ∨ σ 6 0 = 45) then (if (yRt (yRd σ) (ySg σ)).1 = 0 then yRt (yRd σ) (ySg σ) else yTl f (yRt (yRd σ) (ySg σ)).2) else (1, σ)
def yC0 (σ : z_S) : z_S := z_u (z_u (z_u (z_u (z_u σ 11 (σ 13 0) (if σ 6 0 = 62 then 1 else 0)) 9 (4 * σ 13 0) 0) 9 (4 * σ 13 0 + 1) 0) 9 (4 * σ 13 0 + 2) 0) 9 (4 * σ 13 0 + 3) 0
def yNc (q : Int × z_S) : Int × z_S := if q.1 = 0 then q else (1, z_u q.2 13 0 (q.2 13 0 + 1))
abbrev yGo (σ : z_S) : Prop := σ 4 0 = 1 ∧ (σ 6 0 = 62 ∨ σ 6 0 = 60) ∧ σ 13 0 ≠ 4
/-- readsCriterion() -/
def yRc (σ : z_S) : Int × z_S := if yGo σ then yNc (if (yRt (yRd (yC0 σ)) 1).1 = 0 then yRt (yRd (yC0 σ)) 1 else yTl 3 (yRt (yRd (yC0 σ)) 1).2) else (0, σ)
/-- the criteria behind the first one -/
def yCl2 : Nat → z_S → Int × z_S
  | 0, σ => (0, σ)
  | f + 1, σ => if σ 4 0 = 1 ∧ σ 6 0 = 59 then (if (yRc (yRd σ)).1 = 0 then yRc (yRd σ) else yCl2 f (yRc (yRd σ)).2) else (if σ 4 0 = 0 then 1 else 0, σ)
def yRo0 (σ : z_S) : z_S := yRd (z_u (z_u σ 7 0 0) 13 0 0)
/-- readsOrder() -/
def yRo (σ : z_S) : Int × z_S := if (yRc (yRo0 σ)).1 = 0 then yRc (yRo0 σ) else yCl2 5 (yRc (yRo0 σ)).2
theorem yTl_e {f : Nat} {σ : z_S} (h : ¬ (σ 4 0 = 1 ∧ (σ 6 0 = 43 ∨ σ 6 0 = 45))) : yTl f σ = (1, σ) := by
  cases f <;> exact if_neg h
theorem yTl_4 {t : Int} {σ : z_S} (ht : 4 ≤ t) (h : σ 4 0 = 1 ∧ (σ 6 0 = 43 ∨ σ 6 0 = 45)) : yTl (4 - t).toNat σ = (0, yRd σ) := by
  rw [show (4 - t).toNat = 0 by omega]
  exact if_pos h
theorem yTl_c {t : Int} {σ : z_S} (ht : t < 4) (h : σ 4 0 = 1 ∧ (σ 6 0 = 43 ∨ σ 6 0 = 45)) (h1 : (yRt (yRd σ) (ySg σ)).1 ≠ 0) : yTl (4 - t).toNat σ = yTl (4 - (t + 1)).toNat (yRt (yRd σ) (ySg σ)).2 := by
  rw [show (4 - t).toNat = (4 - (t + 1)).toNat + 1 by omega]
  exact (if_pos h).trans (if_neg h1)
theorem yTl_f {t : Int} {σ : z_S} (ht : t < 4) (h : σ 4 0 = 1 ∧ (σ 6 0 = 43 ∨ σ 6 0 = 45)) (h1 : (yRt (yRd σ) (ySg σ)).1 = 0) : yTl (4 - t).toNat σ = (0, (yRt (yRd σ) (ySg σ)).2) := by
  rw [show (4 - t).toNat = (4 - (t + 1)).toNat + 1 by omega]
  exact ((if_pos h).trans (if_pos h1)).trans (Prod.ext h1 rfl)
theorem mP_yTl : ∀ (f : Nat) {σ : z_S}, mP σ → mP (yTl f σ).2 := by
  intro f
  induction f with
  | zero => intro σ hP; unfold yTl; split; exact mP_r hP; exact hP
  | succ f ih =>
    intro σ hP
    unfold yTl
    split
    · split
      · exact mP_yRt (mP_r hP) _
      · exact ih (mP_yRt (mP_r hP) _)
    · exact hP
theorem yTl_k {k : Nat} (hk : k ≠ 4 ∧ k ≠ 5 ∧ k ≠ 6 ∧ k ≠ 7 ∧ k ≠ 9) : ∀ (f : Nat) (σ : z_S), (yTl f σ).2 k = σ k := by
  have h4 : k ≠ 4 ∧ k ≠ 5 ∧ k ≠ 6 ∧ k ≠ 7 := ⟨hk.1, hk.2.1, hk.2.2.1, hk.2.2.2.1⟩
  intro f
  induction f with
  | zero => intro σ; unfold yTl; split; exact yRd_k h4; rfl
  | succ f ih =>
    intro σ
    unfold yTl
    split
    · split
      · exact (yRt_k hk).trans (yRd_k h4)
      · exact (ih _).trans ((yRt_k hk).trans (yRd_k h4))
    · rfl
theorem yRc_s {σ : z_S} (hP : mP σ) : mP (yRc σ).2 ∧ ((yRc σ).1 = 0 ∨ ((yRc σ).1 = 1 ∧ (yRc σ).2 13 0 = σ 13 0 + 1 ∧ σ 13 0 ≤ 3)) := by
  have h13 : (13 : Nat) ≠ 4 ∧ (13 : Nat) ≠ 5 ∧ (13 : Nat) ≠ 6 ∧ (13 : Nat) ≠ 7 ∧ (13 : Nat) ≠ 9 := by decide
  have hnc := hP.1.2.2
  have hP0 : mP (yC0 σ) := hP
  have e0 : (yRt (yRd (yC0 σ)) 1).2 13 = σ 13 := (yRt_k h13).trans (yRd_k (by decide))
  have hP1 := mP_yRt (mP_r hP0) 1
  unfold yRc
  by_cases hg : yGo σ
  · rw [if_pos hg]
    have hq13 : σ 13 0 ≠ 4 := hg.2.2
    by_cases h1 : (yRt (yRd (yC0 σ)) 1).1 = 0
    · rw [if_pos h1]
      unfold yNc
      rw [if_pos h1]
      exact ⟨hP1, Or.inl h1⟩
    · rw [if_neg h1]
      have e1 : (yTl 3 (yRt (yRd (yC0 σ)) 1).2).2 13 = σ 13 := (yTl_k h13 _ _).trans e0
      have hP2 := mP_yTl 3 hP1
      unfold yNc
      by_cases h2 : (yTl 3 (yRt (yRd (yC0 σ)) 1).2).1 = 0
      · rw [if_pos h2]
        exact ⟨hP2, Or.inl h2⟩
      · rw [if_neg h2]
        generalize yTl 3 (yRt (yRd (yC0 σ)) 1).2 = q at *
        have e2 : z_u q.2 13 0 (q.2 13 0 + 1) 13 0 = σ 13 0 + 1 := z_u_at.trans (by rw [e1])
        have e3 : 0 ≤ z_u q.2 13 0 (q.2 13 0 + 1) 13 0 ∧ z_u q.2 13 0 (q.2 13 0 + 1) 13 0 ≤ 4 := by rw [e2]; omega
        exact ⟨⟨⟨hP2.1.1, hP2.1.2.1, e3⟩, hP2.2⟩, Or.inr ⟨rfl, e2, by omega⟩⟩
  · rw [if_neg hg]
    exact ⟨hP, Or.inl rfl⟩
theorem yCl2_c {g : Int} {σ : z_S} (hg : 0 < g) (h : σ 4 0 = 1 ∧ σ 6 0 = 59) (h1 : (yRc (yRd σ)).1 ≠ 0) : yCl2 g.toNat σ = yCl2 (g - 1).toNat (yRc (yRd σ)).2 := by
  rw [show g.toNat = (g - 1).toNat + 1 by omega]
  exact (if_pos h).trans (if_neg h1)
theorem yCl2_f {g : Int} {σ : z_S} (hg : 0 < g) (h : σ 4 0 = 1 ∧ σ 6 0 = 59) (h1 : (yRc (yRd σ)).1 = 0) : yCl2 g.toNat σ = (0, (yRc (yRd σ)).2) := by
  rw [show g.toNat = (g - 1).toNat + 1 by omega]
  exact ((if_pos h).trans (if_pos h1)).trans (Prod.ext h1 rfl)
theorem yCl2_e {g : Int} {σ : z_S} (hg : 0 < g) (h : ¬ (σ 4 0 = 1 ∧ σ 6 0 = 59)) : yCl2 g.toNat σ = (if σ 4 0 = 0 then 1 else 0, σ) := by
  rw [show g.toNat = (g - 1).toNat + 1 by omega]
  exact if_neg h

theorem m_takesBytes {G : z_G} {A : Nat → Nat} {σ : z_S} {h : z_H} (hG : z_OK G) (hA : mI A) {v : Int} (hr : -2147483648 ≤ v ∧ v ≤ 2147483647) (hroom : σ 2 0 + yBy v ≤ 100) (h20 : 0 ≤ σ 2 0) : z_T G mX8_takesBytes [.ref (A 40), z_i v] (mH A σ h) 0 0 0 (fun v' h' => v' = none ∧ h' = mH A (yTk σ v) h) (z_no) := by
  refine z_T_of hG pX8_takesBytes (Nat.le_of_ble_eq_true rfl) (ls0 := [(0, .ref (A 40)), (1, z_i v)]) rfl fun Y hY hg hmc hms hφ hψ => ?_
  subst hg
  unfold yBy at hroom
  refine z_const hY eX8_takesBytes_0 ?_
  refine z_istore hY eX8_takesBytes_2 (ls' := [(2, z_i 24), (0, .ref (A 40)), (1, z_i v)]) rfl ?_
  refine z_iload hY eX8_takesBytes_3 0 rfl ?_
  refine z_iflt hY eX8_takesBytes_4 (by omega) (fun c => absurd c (by omega)) (fun _ => ?_)
  refine z_iload hY eX8_takesBytes_7 2 rfl ?_
  refine z_iload hY eX8_takesBytes_8 0 rfl ?_
  refine z_ishr hY eX8_takesBytes_9 (by omega) (D := 16777216) (by unfold z_sk; omega) ?_
  refine z_const hY eX8_takesBytes_10 ?_
  refine z_iand255 hY eX8_takesBytes_13 ?_
  refine z_istore hY eX8_takesBytes_14 (ls' := [(3, z_i ((v / 16777216) % 256)), (2, z_i 24), (0, .ref (A 40)), (1, z_i v)]) rfl ?_
  refine z_iload hY eX8_takesBytes_15 0 rfl ?_
  have h2n1 := yPb_2 σ ((v / 16777216) % 256)
  have hJ2 : z_W Y 42 [(2, z_i 24), (0, .ref (A 40)), (1, z_i v)] [] (mH A (yPb σ ((v / 16777216) % 256)) h) 0 0 := by
    refine z_iinc hY eX8_takesBytes_42 0 rfl (ls' := [(2, z_i (24 + (-8))), (0, .ref (A 40)), (1, z_i v)]) rfl ?_
    refine z_lq (ls' := [(2, z_i 16), (0, .ref (A 40)), (1, z_i v)]) rfl ?_
    refine z_goto hY eX8_takesBytes_45 ?_
    refine z_iload hY eX8_takesBytes_3 0 rfl ?_
    refine z_iflt hY eX8_takesBytes_4 (by omega) (fun c => absurd c (by omega)) (fun _ => ?_)
    refine z_iload hY eX8_takesBytes_7 2 rfl ?_
    refine z_iload hY eX8_takesBytes_8 0 rfl ?_
    refine z_ishr hY eX8_takesBytes_9 (by omega) (D := 65536) (by unfold z_sk; omega) ?_
    refine z_const hY eX8_takesBytes_10 ?_
    refine z_iand255 hY eX8_takesBytes_13 ?_
    refine z_istore hY eX8_takesBytes_14 (ls' := [(3, z_i ((v / 65536) % 256)), (2, z_i 16), (0, .ref (A 40)), (1, z_i v)]) rfl ?_
    refine z_iload hY eX8_takesBytes_15 0 rfl ?_
    have h2n3 := yPb_2 (yPb σ ((v / 16777216) % 256)) ((v / 65536) % 256)
    have hJ4 : z_W Y 42 [(2, z_i 16), (0, .ref (A 40)), (1, z_i v)] [] (mH A (yPb (yPb σ ((v / 16777216) % 256)) ((v / 65536) % 256)) h) 0 0 := by
      refine z_iinc hY eX8_takesBytes_42 0 rfl (ls' := [(2, z_i (16 + (-8))), (0, .ref (A 40)), (1, z_i v)]) rfl ?_
      refine z_lq (ls' := [(2, z_i 8), (0, .ref (A 40)), (1, z_i v)]) rfl ?_
      refine z_goto hY eX8_takesBytes_45 ?_
      refine z_iload hY eX8_takesBytes_3 0 rfl ?_
      refine z_iflt hY eX8_takesBytes_4 (by omega) (fun c => absurd c (by omega)) (fun _ => ?_)
      refine z_iload hY eX8_takesBytes_7 2 rfl ?_
      refine z_iload hY eX8_takesBytes_8 0 rfl ?_
      refine z_ishr hY eX8_takesBytes_9 (by omega) (D := 256) (by unfold z_sk; omega) ?_
      refine z_const hY eX8_takesBytes_10 ?_
      refine z_iand255 hY eX8_takesBytes_13 ?_
      refine z_istore hY eX8_takesBytes_14 (ls' := [(3, z_i ((v / 256) % 256)), (2, z_i 8), (0, .ref (A 40)), (1, z_i v)]) rfl ?_
      refine z_iload hY eX8_takesBytes_15 0 rfl ?_
      have h2n5 := yPb_2 (yPb (yPb σ ((v / 16777216) % 256)) ((v / 65536) % 256)) ((v / 256) % 256)
      have hJ6 : z_W Y 42 [(2, z_i 8), (0, .ref (A 40)), (1, z_i v)] [] (mH A (yPb (yPb (yPb σ ((v / 16777216) % 256)) ((v / 65536) % 256)) ((v / 256) % 256)) h) 0 0 := by
        refine z_iinc hY eX8_takesBytes_42 0 rfl (ls' := [(2, z_i (8 + (-8))), (0, .ref (A 40)), (1, z_i v)]) rfl ?_
        refine z_lq (ls' := [(2, z_i 0), (0, .ref (A 40)), (1, z_i v)]) rfl ?_
        refine z_goto hY eX8_takesBytes_45 ?_
        refine z_iload hY eX8_takesBytes_3 0 rfl ?_
        refine z_iflt hY eX8_takesBytes_4 (by omega) (fun c => absurd c (by omega)) (fun _ => ?_)
        refine z_iload hY eX8_takesBytes_7 2 rfl ?_
        refine z_iload hY eX8_takesBytes_8 0 rfl ?_
        refine z_ishr hY eX8_takesBytes_9 (by omega) (D := 1) (by unfold z_sk; omega) ?_
        refine z_const hY eX8_takesBytes_10 ?_
        refine z_iand255 hY eX8_takesBytes_13 ?_
        refine z_istore hY eX8_takesBytes_14 (ls' := [(3, z_i ((v / 1) % 256)), (2, z_i 0), (0, .ref (A 40)), (1, z_i v)]) rfl ?_
        refine z_iload hY eX8_takesBytes_15 0 rfl ?_
        have h2n7 := yPb_2 (yPb (yPb (yPb σ ((v / 16777216) % 256)) ((v / 65536) % 256)) ((v / 256) % 256)) ((v / 1) % 256)
        have hJ8 : z_W Y 42 [(2, z_i 0), (0, .ref (A 40)), (1, z_i v)] [] (mH A (yPb (yPb (yPb (yPb σ ((v / 16777216) % 256)) ((v / 65536) % 256)) ((v / 256) % 256)) ((v / 1) % 256)) h) 0 0 := by
          refine z_iinc hY eX8_takesBytes_42 0 rfl (ls' := [(2, z_i (0 + (-8))), (0, .ref (A 40)), (1, z_i v)]) rfl ?_
          refine z_lq (ls' := [(2, z_i (-8)), (0, .ref (A 40)), (1, z_i v)]) rfl ?_
          refine z_goto hY eX8_takesBytes_45 ?_
          refine z_iload hY eX8_takesBytes_3 0 rfl ?_
          refine z_iflt hY eX8_takesBytes_4 (by omega) (fun _ => ?_) (fun c => absurd c (by omega))
          exact z_return hY eX8_takesBytes_48 rfl (by rw [hφ]; exact ⟨rfl, rfl⟩) ⟨Nat.zero_le _, Nat.zero_le _⟩
        refine z_ifne hY eX8_takesBytes_16 (by omega) (fun c16 => ?_) (fun c16 => ?_)
        · refine z_aload hY eX8_takesBytes_22 2 rfl ?_
          refine m_gf hY hA eX8_takesBytes_23 (v := .ref (A 1)) rfl ?_
          refine z_aload hY eX8_takesBytes_26 2 rfl ?_
          refine m_gf hY hA eX8_takesBytes_27 (v := z_i ((yPb (yPb (yPb σ ((v / 16777216) % 256)) ((v / 65536) % 256)) ((v / 256) % 256)) 2 0)) rfl ?_
          refine z_iload hY eX8_takesBytes_30 0 rfl ?_
          refine m_ias hY hA eX8_takesBytes_31 (j := 1) (N := 100) (by decide) (fun _ => rfl) (by omega) ?_
          refine z_aload hY eX8_takesBytes_32 2 rfl ?_
          refine z_dup hY eX8_takesBytes_33 rfl ?_
          refine m_gf hY hA eX8_takesBytes_34 (v := z_i ((yPb (yPb (yPb σ ((v / 16777216) % 256)) ((v / 65536) % 256)) ((v / 256) % 256)) 2 0)) (by simp [mF, z_u, z_ur]) ?_
          refine z_const hY eX8_takesBytes_37 ?_
          refine z_iadd hY eX8_takesBytes_38 ?_
          refine m_pf hY hA eX8_takesBytes_39 (by decide) ?_
          refine z_sub [1, 2, 3] (ls' := [(2, z_i 0), (0, .ref (A 40)), (1, z_i v)]) rfl ?_
          exact z_heq (congrArg (fun q => mH A q h) (show z_u (z_u (yPb (yPb (yPb σ ((v / 16777216) % 256)) ((v / 65536) % 256)) ((v / 256) % 256)) 1 ((yPb (yPb (yPb σ ((v / 16777216) % 256)) ((v / 65536) % 256)) ((v / 256) % 256)) 2 0) ((v / 1) % 256)) 2 0 (((yPb (yPb (yPb σ ((v / 16777216) % 256)) ((v / 65536) % 256)) ((v / 256) % 256)) 2 0) + 1) = (yPb (yPb (yPb (yPb σ ((v / 16777216) % 256)) ((v / 65536) % 256)) ((v / 256) % 256)) ((v / 1) % 256)) from (by unfold yPb; first | exact (if_pos (by omega)).symm | exact (if_neg (by omega)).symm))) hJ8
        · refine z_goto hY eX8_takesBytes_19 ?_
          refine z_sub [1, 2, 3] (ls' := [(2, z_i 0), (0, .ref (A 40)), (1, z_i v)]) rfl ?_
          exact z_heq (congrArg (fun q => mH A q h) (show (yPb (yPb (yPb σ ((v / 16777216) % 256)) ((v / 65536) % 256)) ((v / 256) % 256)) = (yPb (yPb (yPb (yPb σ ((v / 16777216) % 256)) ((v / 65536) % 256)) ((v / 256) % 256)) ((v / 1) % 256)) from (by unfold yPb; first | exact (if_pos (by omega)).symm | exact (if_neg (by omega)).symm))) hJ8
      refine z_ifne hY eX8_takesBytes_16 (by omega) (fun c16 => ?_) (fun c16 => ?_)
      · refine z_aload hY eX8_takesBytes_22 2 rfl ?_
        refine m_gf hY hA eX8_takesBytes_23 (v := .ref (A 1)) rfl ?_
        refine z_aload hY eX8_takesBytes_26 2 rfl ?_
        refine m_gf hY hA eX8_takesBytes_27 (v := z_i ((yPb (yPb σ ((v / 16777216) % 256)) ((v / 65536) % 256)) 2 0)) rfl ?_
        refine z_iload hY eX8_takesBytes_30 0 rfl ?_
        refine m_ias hY hA eX8_takesBytes_31 (j := 1) (N := 100) (by decide) (fun _ => rfl) (by omega) ?_
        refine z_aload hY eX8_takesBytes_32 2 rfl ?_
        refine z_dup hY eX8_takesBytes_33 rfl ?_
        refine m_gf hY hA eX8_takesBytes_34 (v := z_i ((yPb (yPb σ ((v / 16777216) % 256)) ((v / 65536) % 256)) 2 0)) (by simp [mF, z_u, z_ur]) ?_
        refine z_const hY eX8_takesBytes_37 ?_
        refine z_iadd hY eX8_takesBytes_38 ?_
        refine m_pf hY hA eX8_takesBytes_39 (by decide) ?_
        refine z_sub [1, 2, 3] (ls' := [(2, z_i 8), (0, .ref (A 40)), (1, z_i v)]) rfl ?_
        exact z_heq (congrArg (fun q => mH A q h) (show z_u (z_u (yPb (yPb σ ((v / 16777216) % 256)) ((v / 65536) % 256)) 1 ((yPb (yPb σ ((v / 16777216) % 256)) ((v / 65536) % 256)) 2 0) ((v / 256) % 256)) 2 0 (((yPb (yPb σ ((v / 16777216) % 256)) ((v / 65536) % 256)) 2 0) + 1) = (yPb (yPb (yPb σ ((v / 16777216) % 256)) ((v / 65536) % 256)) ((v / 256) % 256)) from (by unfold yPb; first | exact (if_pos (by omega)).symm | exact (if_neg (by omega)).symm))) hJ6
      · refine z_goto hY eX8_takesBytes_19 ?_
        refine z_sub [1, 2, 3] (ls' := [(2, z_i 8), (0, .ref (A 40)), (1, z_i v)]) rfl ?_
        exact z_heq (congrArg (fun q => mH A q h) (show (yPb (yPb σ ((v / 16777216) % 256)) ((v / 65536) % 256)) = (yPb (yPb (yPb σ ((v / 16777216) % 256)) ((v / 65536) % 256)) ((v / 256) % 256)) from (by unfold yPb; first | exact (if_pos (by omega)).symm | exact (if_neg (by omega)).symm))) hJ6
    refine z_ifne hY eX8_takesBytes_16 (by omega) (fun c16 => ?_) (fun c16 => ?_)
    · refine z_aload hY eX8_takesBytes_22 2 rfl ?_
      refine m_gf hY hA eX8_takesBytes_23 (v := .ref (A 1)) rfl ?_
      refine z_aload hY eX8_takesBytes_26 2 rfl ?_
      refine m_gf hY hA eX8_takesBytes_27 (v := z_i ((yPb σ ((v / 16777216) % 256)) 2 0)) rfl ?_
      refine z_iload hY eX8_takesBytes_30 0 rfl ?_
      refine m_ias hY hA eX8_takesBytes_31 (j := 1) (N := 100) (by decide) (fun _ => rfl) (by omega) ?_
      refine z_aload hY eX8_takesBytes_32 2 rfl ?_
      refine z_dup hY eX8_takesBytes_33 rfl ?_
      refine m_gf hY hA eX8_takesBytes_34 (v := z_i ((yPb σ ((v / 16777216) % 256)) 2 0)) (by simp [mF, z_u, z_ur]) ?_
      refine z_const hY eX8_takesBytes_37 ?_
      refine z_iadd hY eX8_takesBytes_38 ?_
      refine m_pf hY hA eX8_takesBytes_39 (by decide) ?_
      refine z_sub [1, 2, 3] (ls' := [(2, z_i 16), (0, .ref (A 40)), (1, z_i v)]) rfl ?_
      exact z_heq (congrArg (fun q => mH A q h) (show z_u (z_u (yPb σ ((v / 16777216) % 256)) 1 ((yPb σ ((v / 16777216) % 256)) 2 0) ((v / 65536) % 256)) 2 0 (((yPb σ ((v / 16777216) % 256)) 2 0) + 1) = (yPb (yPb σ ((v / 16777216) % 256)) ((v / 65536) % 256)) from (by unfold yPb; first | exact (if_pos (by omega)).symm | exact (if_neg (by omega)).symm))) hJ4
    · refine z_goto hY eX8_takesBytes_19 ?_
      refine z_sub [1, 2, 3] (ls' := [(2, z_i 16), (0, .ref (A 40)), (1, z_i v)]) rfl ?_
      exact z_heq (congrArg (fun q => mH A q h) (show (yPb σ ((v / 16777216) % 256)) = (yPb (yPb σ ((v / 16777216) % 256)) ((v / 65536) % 256)) from (by unfold yPb; first | exact (if_pos (by omega)).symm | exact (if_neg (by omega)).symm))) hJ4
  refine z_ifne hY eX8_takesBytes_16 (by omega) (fun c16 => ?_) (fun c16 => ?_)
  · refine z_aload hY eX8_takesBytes_22 2 rfl ?_
    refine m_gf hY hA eX8_takesBytes_23 (v := .ref (A 1)) rfl ?_
    refine z_aload hY eX8_takesBytes_26 2 rfl ?_
    refine m_gf hY hA eX8_takesBytes_27 (v := z_i (σ 2 0)) rfl ?_
    refine z_iload hY eX8_takesBytes_30 0 rfl ?_
    refine m_ias hY hA eX8_takesBytes_31 (j := 1) (N := 100) (by decide) (fun _ => rfl) (by omega) ?_
    refine z_aload hY eX8_takesBytes_32 2 rfl ?_
    refine z_dup hY eX8_takesBytes_33 rfl ?_
    refine m_gf hY hA eX8_takesBytes_34 (v := z_i (σ 2 0)) (by simp [mF, z_u, z_ur]) ?_
    refine z_const hY eX8_takesBytes_37 ?_
    refine z_iadd hY eX8_takesBytes_38 ?_
    refine m_pf hY hA eX8_takesBytes_39 (by decide) ?_
    refine z_sub [1, 2, 3] (ls' := [(2, z_i 24), (0, .ref (A 40)), (1, z_i v)]) rfl ?_
    exact z_heq (congrArg (fun q => mH A q h) (show z_u (z_u σ 1 (σ 2 0) ((v / 16777216) % 256)) 2 0 ((σ 2 0) + 1) = (yPb σ ((v / 16777216) % 256)) from (by unfold yPb; first | exact (if_pos (by omega)).symm | exact (if_neg (by omega)).symm))) hJ2
  · refine z_goto hY eX8_takesBytes_19 ?_
    refine z_sub [1, 2, 3] (ls' := [(2, z_i 24), (0, .ref (A 40)), (1, z_i v)]) rfl ?_
    exact z_heq (congrArg (fun q => mH A q h) (show σ = (yPb σ ((v / 16777216) % 256)) from (by unfold yPb; first | exact (if_pos (by omega)).symm | exact (if_neg (by omega)).symm))) hJ2
def S_append (σ : z_S) (a b k d e : Int) (c r : Int) (ρ : z_S) : Prop := if σ 2 0 + (yBy a + yBy b + yBy k + yBy d + yBy e) ≤ 100 then c = 0 ∧ r = σ 2 0 + (yBy a + yBy b + yBy k + yBy d + yBy e) ∧ ρ = yTk (yTk (yTk (yTk (yTk σ a) b) k) d) e else c = 1 ∧ ρ = z_u σ 0 0 1
theorem p_append {G : z_G} {A : Nat → Nat} {σ τ : z_S} {h : z_H} (hτ : z_u σ 0 0 0 = τ) (hG : z_OK G) (hA : mI A) (hB : mB τ) (hV : mV τ) {a b k d e : Int} (hr : -2147483648 ≤ a ∧ a ≤ 2147483647 ∧ -2147483648 ≤ b ∧ b ≤ 2147483647 ∧ -2147483648 ≤ k ∧ k ≤ 2147483647 ∧ -2147483648 ≤ d ∧ d ≤ 2147483647 ∧ -2147483648 ≤ e ∧ e ≤ 2147483647) : z_T G mX8_append [.ref (A 40), z_i a, z_i b, z_i k, z_i d, z_i e] (mH A σ h) 1 0 0 (fun v h' => ∃ (c r : Int) (ρ : z_S), v = some (z_i r) ∧ h' = mH A ρ h ∧ S_append τ a b k d e c r ρ) (z_no) := by
  have h00 : τ 0 0 = 0 := by rw [← hτ]; rfl
  obtain ⟨hf, hsc, hcm, hcr, hth, hgr, hlm, hld, hlo, hro, htm, hre, hpa, htp, hgp⟩ := id hV
  refine z_T_of hG pX8_append (Nat.le_of_ble_eq_true rfl) (ls0 := [(0, .ref (A 40)), (1, z_i a), (2, z_i b), (3, z_i k), (4, z_i d), (5, z_i e)]) rfl fun Y hY hg hmc hms hφ hψ => ?_
  subst hg
  refine z_aload hY eX8_append_0 0 rfl ?_
  refine z_const hY eX8_append_1 ?_
  refine m_pf hY hA eX8_append_2 (by decide) ?_
  rw [hτ]
  refine z_iload hY eX8_append_5 1 rfl ?_
  refine z_callSr (As := [z_i a]) (rest := []) (r := z_i (yBy a)) hY eX8_append_6 (m_bytesIn hG (by omega)) (by decide) (Nat.le_of_ble_eq_true rfl) ⟨Nat.zero_le _, Nat.zero_le _⟩ ?_
  have hc1 := yBy_b a
  refine z_iload hY eX8_append_9 2 rfl ?_
  refine z_callSr (As := [z_i b]) (rest := [z_i (yBy a)]) (r := z_i (yBy b)) hY eX8_append_10 (m_bytesIn hG (by omega)) (by decide) (Nat.le_of_ble_eq_true rfl) ⟨Nat.zero_le _, Nat.zero_le _⟩ ?_
  have hc2 := yBy_b b
  refine z_iadd hY eX8_append_13 ?_
  refine z_iload hY eX8_append_14 3 rfl ?_
  refine z_callSr (As := [z_i k]) (rest := [z_i ((yBy a) + (yBy b))]) (r := z_i (yBy k)) hY eX8_append_15 (m_bytesIn hG (by omega)) (by decide) (Nat.le_of_ble_eq_true rfl) ⟨Nat.zero_le _, Nat.zero_le _⟩ ?_
  have hc3 := yBy_b k
  refine z_iadd hY eX8_append_18 ?_
  refine z_iload hY eX8_append_19 4 rfl ?_
  refine z_callSr (As := [z_i d]) (rest := [z_i ((yBy a) + (yBy b) + (yBy k))]) (r := z_i (yBy d)) hY eX8_append_21 (m_bytesIn hG (by omega)) (by decide) (Nat.le_of_ble_eq_true rfl) ⟨Nat.zero_le _, Nat.zero_le _⟩ ?_
  have hc4 := yBy_b d
  refine z_iadd hY eX8_append_24 ?_
  refine z_iload hY eX8_append_25 5 rfl ?_
  refine z_callSr (As := [z_i e]) (rest := [z_i ((yBy a) + (yBy b) + (yBy k) + (yBy d))]) (r := z_i (yBy e)) hY eX8_append_27 (m_bytesIn hG (by omega)) (by decide) (Nat.le_of_ble_eq_true rfl) ⟨Nat.zero_le _, Nat.zero_le _⟩ ?_
  have hc5 := yBy_b e
  refine z_iadd hY eX8_append_30 ?_
  refine z_istore hY eX8_append_31 (ls' := [(6, z_i ((yBy a) + (yBy b) + (yBy k) + (yBy d) + (yBy e))), (0, .ref (A 40)), (1, z_i a), (2, z_i b), (3, z_i k), (4, z_i d), (5, z_i e)]) rfl ?_
  refine z_aload hY eX8_append_33 1 rfl ?_
  refine z_aload hY eX8_append_34 1 rfl ?_
  refine m_gf hY hA eX8_append_35 (v := z_i (τ 2 0)) rfl ?_
  refine z_iload hY eX8_append_38 0 rfl ?_
  refine z_iadd hY eX8_append_40 ?_
  refine z_top (b := (τ 2 0) + (yBy a) + (yBy b) + (yBy k) + (yBy d) + (yBy e)) (by omega) ?_
  refine z_const hY eX8_append_41 ?_
  refine z_icmpgt hY eX8_append_43 (by omega) (fun c43 => ?_) (fun c43 => ?_)
  · refine z_const hY eX8_append_50 ?_
    refine z_const hY eX8_append_51 ?_
    refine z_callV (As := [z_i 0, z_i 1]) (rest := []) hY eX8_append_52 (m_fails_f hG hA hB h00 (g := 0) (c := 1) (by omega) (by omega)) (mH_at hA (k := 40) (by decide)) (by decide) (Nat.le_of_ble_eq_true rfl) ⟨Nat.zero_le _, Nat.zero_le _⟩ (fun _ _ q => q.elim) (fun v7 h7 q7 => ?_)
    obtain ⟨rfl, rfl⟩ := q7
    refine z_ifeq hY eX8_append_55 (by omega) (fun c => absurd c (by omega)) (fun _ => ?_)
    refine z_const hY eX8_append_58 ?_
    exact z_ireturn hY eX8_append_59 rfl (by rw [hφ]; exact ⟨1, _, _, rfl, rfl, by unfold S_append; (repeat' split) <;> first | exact ⟨rfl, rfl, rfl⟩ | exact ⟨rfl, by omega, rfl⟩ | exact ⟨rfl, rfl⟩ | (exfalso; omega)⟩) ⟨Nat.zero_le _, Nat.zero_le _⟩
  · refine z_const hY eX8_append_46 ?_
    refine z_goto hY eX8_append_47 ?_
    refine z_const hY eX8_append_51 ?_
    refine z_callVr (As := [z_i 1, z_i 1]) (rest := []) (r := z_i 0) hY eX8_append_52 (m_fails_t hG hA hB h00 (g := 1) (c := 1) (by omega) (by omega)) (mH_at hA (k := 40) (by decide)) (by decide) (Nat.le_of_ble_eq_true rfl) ⟨Nat.zero_le _, Nat.zero_le _⟩ ?_
    refine z_ifeq hY eX8_append_55 (by omega) (fun _ => ?_) (fun c => absurd c (by omega))
    refine z_aload hY eX8_append_60 1 rfl ?_
    refine z_iload hY eX8_append_61 2 rfl ?_
    refine z_callV (As := [z_i a]) (rest := []) hY eX8_append_62 (m_takesBytes hG hA (v := a) (by omega) (by omega) (by omega)) (mH_at hA (k := 40) (by decide)) (by decide) (Nat.le_of_ble_eq_true rfl) ⟨Nat.zero_le _, Nat.zero_le _⟩ (fun _ _ q => q.elim) (fun v8 h8 q8 => ?_)
    obtain ⟨rfl, rfl⟩ := q8
    have h2n9 := yTk_2 τ a
    refine z_aload hY eX8_append_65 1 rfl ?_
    refine z_iload hY eX8_append_66 3 rfl ?_
    refine z_callV (As := [z_i b]) (rest := []) hY eX8_append_67 (m_takesBytes hG hA (v := b) (by omega) (by omega) (by omega)) (mH_at hA (k := 40) (by decide)) (by decide) (Nat.le_of_ble_eq_true rfl) ⟨Nat.zero_le _, Nat.zero_le _⟩ (fun _ _ q => q.elim) (fun v10 h10 q10 => ?_)
    obtain ⟨rfl, rfl⟩ := q10
    have h2n11 := yTk_2 (yTk τ a) b
    refine z_aload hY eX8_append_70 1 rfl ?_
    refine z_iload hY eX8_append_71 4 rfl ?_
    refine z_callV (As := [z_i k]) (rest := []) hY eX8_append_72 (m_takesBytes hG hA (v := k) (by omega) (by omega) (by omega)) (mH_at hA (k := 40) (by decide)) (by decide) (Nat.le_of_ble_eq_true rfl) ⟨Nat.zero_le _, Nat.zero_le _⟩ (fun _ _ q => q.elim) (fun v12 h12 q12 => ?_)
    obtain ⟨rfl, rfl⟩ := q12
    have h2n13 := yTk_2 (yTk (yTk τ a) b) k
    refine z_aload hY eX8_append_75 1 rfl ?_
    refine z_iload hY eX8_append_76 5 rfl ?_
    refine z_callV (As := [z_i d]) (rest := []) hY eX8_append_78 (m_takesBytes hG hA (v := d) (by omega) (by omega) (by omega)) (mH_at hA (k := 40) (by decide)) (by decide) (Nat.le_of_ble_eq_true rfl) ⟨Nat.zero_le _, Nat.zero_le _⟩ (fun _ _ q => q.elim) (fun v14 h14 q14 => ?_)
    obtain ⟨rfl, rfl⟩ := q14
    have h2n15 := yTk_2 (yTk (yTk (yTk τ a) b) k) d
    refine z_aload hY eX8_append_81 1 rfl ?_
    refine z_iload hY eX8_append_82 6 rfl ?_
    refine z_callV (As := [z_i e]) (rest := []) hY eX8_append_84 (m_takesBytes hG hA (v := e) (by omega) (by omega) (by omega)) (mH_at hA (k := 40) (by decide)) (by decide) (Nat.le_of_ble_eq_true rfl) ⟨Nat.zero_le _, Nat.zero_le _⟩ (fun _ _ q => q.elim) (fun v16 h16 q16 => ?_)
    obtain ⟨rfl, rfl⟩ := q16
    have h2n17 := yTk_2 (yTk (yTk (yTk (yTk τ a) b) k) d) e
    refine z_aload hY eX8_append_87 1 rfl ?_
    refine m_gf hY hA eX8_append_88 (v := z_i ((yTk (yTk (yTk (yTk (yTk τ a) b) k) d) e) 2 0)) rfl ?_
    exact z_ireturn hY eX8_append_91 rfl (by rw [hφ]; exact ⟨0, _, _, rfl, rfl, by unfold S_append; (repeat' split) <;> first | exact ⟨rfl, rfl, rfl⟩ | exact ⟨rfl, by omega, rfl⟩ | exact ⟨rfl, rfl⟩ | (exfalso; omega)⟩) ⟨Nat.zero_le _, Nat.zero_le _⟩
theorem m_sgn {G : z_G} {A : Nat → Nat} {σ : z_S} {h : z_H} (hG : z_OK G) (hA : mI A) (hP : mP σ) {b : Int} (hr : -2147483648 ≤ b ∧ b ≤ 2147483647) : z_Tr G mX8_isSignNow [.ref (A 40), z_i b] (mH A σ h) 0 (z_i (z_bl (σ 4 0 = 1 ∧ σ 6 0 = b))) := by
  obtain ⟨⟨hp1, hp2, hp4⟩, hp3, hp5, hp6⟩ := id hP
  refine z_T_of hG pX8_isSignNow (Nat.le_of_ble_eq_true rfl) (ls0 := [(0, .ref (A 40)), (1, z_i b)]) rfl fun Y hY hg hmc hms hφ hψ => ?_
  subst hg
  refine z_aload hY eX8_isSignNow_0 0 rfl ?_
  refine m_gf hY hA eX8_isSignNow_1 (v := z_i (σ 4 0)) rfl ?_
  refine z_const hY eX8_isSignNow_4 ?_
  refine z_icmpne hY eX8_isSignNow_5 (by omega) (fun c5 => ?_) (fun c5 => ?_)
  · refine z_const hY eX8_isSignNow_20 ?_
    exact z_zreturn hY eX8_isSignNow_21 rfl (by omega) (by rw [hφ]; exact ⟨congrArg (fun q => some (z_i q)) (by first | rfl | omega | (simp only [z_bl]; split <;> omega)), rfl⟩) ⟨Nat.zero_le _, Nat.zero_le _⟩
  · refine z_aload hY eX8_isSignNow_8 0 rfl ?_
    refine m_gf hY hA eX8_isSignNow_9 (v := z_i (σ 6 0)) rfl ?_
    refine z_iload hY eX8_isSignNow_12 1 rfl ?_
    refine z_icmpne hY eX8_isSignNow_13 (by omega) (fun c13 => ?_) (fun c13 => ?_)
    · refine z_const hY eX8_isSignNow_20 ?_
      exact z_zreturn hY eX8_isSignNow_21 rfl (by omega) (by rw [hφ]; exact ⟨congrArg (fun q => some (z_i q)) (by first | rfl | omega | (simp only [z_bl]; split <;> omega)), rfl⟩) ⟨Nat.zero_le _, Nat.zero_le _⟩
    · refine z_const hY eX8_isSignNow_16 ?_
      refine z_goto hY eX8_isSignNow_17 ?_
      exact z_zreturn hY eX8_isSignNow_21 rfl (by omega) (by rw [hφ]; exact ⟨congrArg (fun q => some (z_i q)) (by first | rfl | omega | (simp only [z_bl]; split <;> omega)), rfl⟩) ⟨Nat.zero_le _, Nat.zero_le _⟩
theorem m_reads {G : z_G} {A : Nat → Nat} {σ : z_S} {h : z_H} (hG : z_OK G) (hA : mI A) (hP : mP0 σ) : z_T G mX8_reads [.ref (A 40)] (mH A σ h) 1 0 0 (fun v h' => v = none ∧ h' = mH A (yRd σ) h) (z_no) := by
  obtain ⟨hp1, hp2, hp4⟩ := id hP
  refine z_T_of hG pX8_reads (Nat.le_of_ble_eq_true rfl) (ls0 := [(0, .ref (A 40))]) rfl fun Y hY hg hmc hms hφ hψ => ?_
  subst hg
  have lp0 : ∀ (fu : Nat) (i : Int), (σ 2 0 - i).toNat < fu → (0 ≤ i ∧ i ≤ σ 2 0) → (ySk σ (σ 2 0 - i).toNat i = yA σ) → z_W Y 0 [(0, .ref (A 40))] [] (mH A (z_u σ 7 0 i) h) 0 0 := by
    intro fu
    induction fu with
    | zero => intro i hf; exact absurd hf (Nat.not_lt_zero _)
    | succ fu ih0 =>
      intro i hf h0 hn
      have hti := hp2 i
      refine z_aload hY eX8_reads_0 0 rfl ?_
      refine m_gf hY hA eX8_reads_1 (v := z_i i) (by simp [mF, z_u, z_ur]) ?_
      refine z_aload hY eX8_reads_4 0 rfl ?_
      refine m_gf hY hA eX8_reads_5 (v := z_i (σ 2 0)) (by simp [mF, z_u, z_ur]) ?_
      refine z_icmpge hY eX8_reads_8 (by omega) (fun c8 => ?_) (fun c8 => ?_)
      · have hA1 : yA σ = i := by rw [← hn]; exact ySk_f (by omega)
        refine z_aload hY eX8_reads_52 0 rfl ?_
        refine z_aload hY eX8_reads_53 0 rfl ?_
        refine m_gf hY hA eX8_reads_54 (v := z_i i) (by simp [mF, z_u, z_ur]) ?_
        refine m_pf hY hA eX8_reads_57 (by decide) ?_
        refine z_aload hY eX8_reads_60 0 rfl ?_
        refine z_const hY eX8_reads_61 ?_
        refine m_pf hY hA eX8_reads_62 (by decide) ?_
        refine z_aload hY eX8_reads_65 0 rfl ?_
        refine m_gf hY hA eX8_reads_66 (v := z_i i) (by simp [mF, z_u, z_ur]) ?_
        refine z_aload hY eX8_reads_69 0 rfl ?_
        refine m_gf hY hA eX8_reads_70 (v := z_i (σ 2 0)) (by simp [mF, z_u, z_ur]) ?_
        refine z_icmpne hY eX8_reads_73 (by omega) (fun c73 => ?_) (fun c73 => ?_)
        · refine z_aload hY eX8_reads_77 0 rfl ?_
          refine m_gf hY hA eX8_reads_78 (v := .ref (A 1)) rfl ?_
          refine z_aload hY eX8_reads_81 0 rfl ?_
          refine m_gf hY hA eX8_reads_82 (v := z_i i) (by simp [mF, z_u, z_ur]) ?_
          refine m_ial hY hA eX8_reads_85 (j := 1) (N := 100) (x := σ 1 i) (by decide) rfl (by omega) (by simp [z_u, z_ur]) ?_
          refine z_istore hY eX8_reads_86 (ls' := [(1, z_i (σ 1 i)), (0, .ref (A 40))]) rfl ?_
          refine z_iload hY eX8_reads_87 0 rfl ?_
          refine z_const hY eX8_reads_88 ?_
          refine z_const hY eX8_reads_90 ?_
          refine z_callSr (As := [z_i (σ 1 i), z_i 48, z_i 57]) (rest := []) (r := z_i (z_bl (48 ≤ (σ 1 i) ∧ (σ 1 i) ≤ 57))) hY eX8_reads_92 (m_in hG (by omega)) (by decide) (Nat.le_of_ble_eq_true rfl) ⟨Nat.zero_le _, Nat.zero_le _⟩ ?_
          refine z_ifneb hY eX8_reads_95 (fun c95 => ?_) (fun c95 => ?_)
          · refine z_const hY eX8_reads_145 ?_
            refine z_istore hY eX8_reads_146 (ls' := [(2, z_i 0), (1, z_i (σ 1 i)), (0, .ref (A 40))]) rfl ?_
            refine z_aload hY eX8_reads_147 2 rfl ?_
            refine z_const hY eX8_reads_148 ?_
            refine m_pf hY hA eX8_reads_149 (by decide) ?_
            refine z_sub [2, 0] (ls' := [(0, .ref (A 40)), (2, z_i 0)]) rfl ?_
            have lp152 : ∀ (fu : Nat) (j : Int) (g : Int) (w : Int), (σ 2 0 - j).toNat < fu → (i ≤ j ∧ j ≤ σ 2 0 ∧ 0 ≤ g ∧ g = j - i) → (yDe σ (σ 2 0 - j).toNat j = yE σ) → (yDv σ (σ 2 0 - j).toNat j g w = yW σ) → z_W Y 152 [(0, .ref (A 40)), (2, z_i g)] [] (mH A (z_u (z_u (z_u (z_u σ 7 0 j) 5 0 i) 4 0 0) 6 0 w) h) 0 0 := by
              intro fu
              induction fu with
              | zero => intro j g w hf; exact absurd hf (Nat.not_lt_zero _)
              | succ fu ih152 =>
                intro j g w hf h3 he hw
                have htj := hp2 j
                refine z_aload hY eX8_reads_152 0 rfl ?_
                refine m_gf hY hA eX8_reads_153 (v := z_i j) (by simp [mF, z_u, z_ur]) ?_
                refine z_aload hY eX8_reads_156 0 rfl ?_
                refine m_gf hY hA eX8_reads_157 (v := z_i (σ 2 0)) (by simp [mF, z_u, z_ur]) ?_
                refine z_icmpge hY eX8_reads_160 (by omega) (fun c160 => ?_) (fun c160 => ?_)
                · have hE1 : yE σ = j := by rw [← he]; exact yDe_f (by unfold yDi; omega)
                  have hW1 : yW σ = w := by rw [← hw]; exact yDv_f (by unfold yDi; omega)
                  refine z_aload hY eX8_reads_227 0 rfl ?_
                  refine z_iload hY eX8_reads_228 1 rfl ?_
                  refine z_const hY eX8_reads_229 ?_
                  refine z_icmpgt hY eX8_reads_230 (by omega) (fun c230 => ?_) (fun c230 => ?_)
                  · refine z_const hY eX8_reads_237 ?_
                    refine m_pf hY hA eX8_reads_238 (by decide) ?_
                    exact z_return hY eX8_reads_241 rfl (by rw [hφ]; exact ⟨rfl, congrArg (fun q => mH A q h) (by first | (exfalso; omega) | (unfold yRd; rw [hA1, hE1, hW1, if_neg (by omega), if_pos (by omega)]; (first | rw [if_pos (by omega)] | rw [if_neg (by omega)]); exact (by first | exact zN1 | exact zN2 | exact zN3 | exact zN4)))⟩) ⟨Nat.zero_le _, Nat.zero_le _⟩
                  · refine z_const hY eX8_reads_233 ?_
                    refine z_goto hY eX8_reads_234 ?_
                    refine m_pf hY hA eX8_reads_238 (by decide) ?_
                    exact z_return hY eX8_reads_241 rfl (by rw [hφ]; exact ⟨rfl, congrArg (fun q => mH A q h) (by first | (exfalso; omega) | (unfold yRd; rw [hA1, hE1, hW1, if_neg (by omega), if_pos (by omega)]; (first | rw [if_pos (by omega)] | rw [if_neg (by omega)]); exact (by first | exact zN1 | exact zN2 | exact zN3 | exact zN4)))⟩) ⟨Nat.zero_le _, Nat.zero_le _⟩
                · refine z_aload hY eX8_reads_163 0 rfl ?_
                  refine m_gf hY hA eX8_reads_164 (v := .ref (A 1)) rfl ?_
                  refine z_aload hY eX8_reads_167 0 rfl ?_
                  refine m_gf hY hA eX8_reads_168 (v := z_i j) (by simp [mF, z_u, z_ur]) ?_
                  refine m_ial hY hA eX8_reads_171 (j := 1) (N := 100) (x := σ 1 j) (by decide) rfl (by omega) (by simp [z_u, z_ur]) ?_
                  refine z_const hY eX8_reads_172 ?_
                  refine z_const hY eX8_reads_174 ?_
                  refine z_callSr (As := [z_i (σ 1 j), z_i 48, z_i 57]) (rest := []) (r := z_i (z_bl (48 ≤ (σ 1 j) ∧ (σ 1 j) ≤ 57))) hY eX8_reads_176 (m_in hG (by omega)) (by decide) (Nat.le_of_ble_eq_true rfl) ⟨Nat.zero_le _, Nat.zero_le _⟩ ?_
                  refine z_ifeqb hY eX8_reads_179 (fun c179 => ?_) (fun c179 => ?_)
                  · have hE1 : yE σ = j := by rw [← he]; exact yDe_f (by unfold yDi; omega)
                    have hW1 : yW σ = w := by rw [← hw]; exact yDv_f (by unfold yDi; omega)
                    refine z_aload hY eX8_reads_227 0 rfl ?_
                    refine z_iload hY eX8_reads_228 1 rfl ?_
                    refine z_const hY eX8_reads_229 ?_
                    refine z_icmpgt hY eX8_reads_230 (by omega) (fun c230 => ?_) (fun c230 => ?_)
                    · refine z_const hY eX8_reads_237 ?_
                      refine m_pf hY hA eX8_reads_238 (by decide) ?_
                      exact z_return hY eX8_reads_241 rfl (by rw [hφ]; exact ⟨rfl, congrArg (fun q => mH A q h) (by first | (exfalso; omega) | (unfold yRd; rw [hA1, hE1, hW1, if_neg (by omega), if_pos (by omega)]; (first | rw [if_pos (by omega)] | rw [if_neg (by omega)]); exact (by first | exact zN1 | exact zN2 | exact zN3 | exact zN4)))⟩) ⟨Nat.zero_le _, Nat.zero_le _⟩
                    · refine z_const hY eX8_reads_233 ?_
                      refine z_goto hY eX8_reads_234 ?_
                      refine m_pf hY hA eX8_reads_238 (by decide) ?_
                      exact z_return hY eX8_reads_241 rfl (by rw [hφ]; exact ⟨rfl, congrArg (fun q => mH A q h) (by first | (exfalso; omega) | (unfold yRd; rw [hA1, hE1, hW1, if_neg (by omega), if_pos (by omega)]; (first | rw [if_pos (by omega)] | rw [if_neg (by omega)]); exact (by first | exact zN1 | exact zN2 | exact zN3 | exact zN4)))⟩) ⟨Nat.zero_le _, Nat.zero_le _⟩
                  · refine z_iload hY eX8_reads_182 1 rfl ?_
                    refine z_const hY eX8_reads_183 ?_
                    refine z_icmpge hY eX8_reads_184 (by omega) (fun c184 => ?_) (fun c184 => ?_)
                    · refine z_iinc hY eX8_reads_211 1 rfl (ls' := [(2, z_i (g + 1)), (0, .ref (A 40))]) rfl ?_
                      refine z_aload hY eX8_reads_214 1 rfl ?_
                      refine z_dup hY eX8_reads_215 rfl ?_
                      refine m_gf hY hA eX8_reads_216 (v := z_i j) (by simp [mF, z_u, z_ur]) ?_
                      refine z_const hY eX8_reads_219 ?_
                      refine z_iadd hY eX8_reads_220 ?_
                      refine m_pf hY hA eX8_reads_221 (by decide) ?_
                      refine z_goto hY eX8_reads_224 ?_
                      refine z_sub [1, 0] (ls' := [(0, .ref (A 40)), (2, z_i (g + 1))]) rfl ?_
                      refine z_heq (congrArg (fun q => mH A q h) (show z_u (z_u (z_u (z_u (z_u σ 7 0 j) 5 0 i) 4 0 0) 6 0 w) 7 0 (j + 1) = z_u (z_u (z_u (z_u σ 7 0 (j + 1)) 5 0 i) 4 0 0) 6 0 w from (by first | exact zN1 | exact zN2 | exact zN3 | exact zN4))) ?_
                      exact ih152 (j + 1) (g + 1) w (by omega) (by omega) ((yDe_t (by omega) (by unfold yDi; omega)).symm.trans he) (by have e9 := yDv_t (σ := σ) (m := σ 2 0) (i := j) (d := g) (v := w) (by omega) (by unfold yDi; omega); first | (rw [if_pos (by omega)] at e9; exact e9.symm.trans hw) | (rw [if_neg (by omega)] at e9; exact e9.symm.trans hw))
                    · refine z_aload hY eX8_reads_187 0 rfl ?_
                      refine z_const hY eX8_reads_188 ?_
                      refine z_aload hY eX8_reads_190 0 rfl ?_
                      refine m_gf hY hA eX8_reads_191 (v := z_i w) (by simp [mF, z_u, z_ur]) ?_
                      refine z_imul hY eX8_reads_194 ?_
                      refine z_aload hY eX8_reads_195 0 rfl ?_
                      refine m_gf hY hA eX8_reads_196 (v := .ref (A 1)) rfl ?_
                      refine z_aload hY eX8_reads_199 0 rfl ?_
                      refine m_gf hY hA eX8_reads_200 (v := z_i j) (by simp [mF, z_u, z_ur]) ?_
                      refine m_ial hY hA eX8_reads_203 (j := 1) (N := 100) (x := σ 1 j) (by decide) rfl (by omega) (by simp [z_u, z_ur]) ?_
                      refine z_iadd hY eX8_reads_204 ?_
                      refine z_const hY eX8_reads_205 ?_
                      refine z_isub hY eX8_reads_207 ?_
                      refine m_pf hY hA eX8_reads_208 (by decide) ?_
                      refine z_iinc hY eX8_reads_211 1 rfl (ls' := [(2, z_i (g + 1)), (0, .ref (A 40))]) rfl ?_
                      refine z_aload hY eX8_reads_214 1 rfl ?_
                      refine z_dup hY eX8_reads_215 rfl ?_
                      refine m_gf hY hA eX8_reads_216 (v := z_i j) (by simp [mF, z_u, z_ur]) ?_
                      refine z_const hY eX8_reads_219 ?_
                      refine z_iadd hY eX8_reads_220 ?_
                      refine m_pf hY hA eX8_reads_221 (by decide) ?_
                      refine z_goto hY eX8_reads_224 ?_
                      refine z_sub [1, 0] (ls' := [(0, .ref (A 40)), (2, z_i (g + 1))]) rfl ?_
                      refine z_heq (congrArg (fun q => mH A q h) (show z_u (z_u (z_u (z_u (z_u (z_u σ 7 0 j) 5 0 i) 4 0 0) 6 0 w) 6 0 (10 * w + (σ 1 j) - 48)) 7 0 (j + 1) = z_u (z_u (z_u (z_u σ 7 0 (j + 1)) 5 0 i) 4 0 0) 6 0 (10 * w + (σ 1 j) - 48) from (by first | exact zN1 | exact zN2 | exact zN3 | exact zN4))) ?_
                      exact ih152 (j + 1) (g + 1) (10 * w + (σ 1 j) - 48) (by omega) (by omega) ((yDe_t (by omega) (by unfold yDi; omega)).symm.trans he) (by have e9 := yDv_t (σ := σ) (m := σ 2 0) (i := j) (d := g) (v := w) (by omega) (by unfold yDi; omega); first | (rw [if_pos (by omega)] at e9; exact e9.symm.trans hw) | (rw [if_neg (by omega)] at e9; exact e9.symm.trans hw))
            exact lp152 _ i 0 0 (Nat.lt_succ_self _) (by omega) (by rw [← hA1]; rfl) (by rw [← hA1]; rfl)
          · refine z_aload hY eX8_reads_98 1 rfl ?_
            refine z_iload hY eX8_reads_99 0 rfl ?_
            refine m_pf hY hA eX8_reads_100 (by decide) ?_
            refine z_aload hY eX8_reads_103 1 rfl ?_
            refine z_iload hY eX8_reads_104 0 rfl ?_
            have hto : 0 ≤ yTo (σ 1 i) ∧ yTo (σ 1 i) ≤ 4 := by unfold yTo; split; omega; split <;> omega
            have hJ4 : z_W Y 131 [(1, z_i (σ 1 i)), (0, .ref (A 40))] [z_i (yTo (σ 1 i)), .ref (A 40)] (mH A (z_u (z_u (z_u (z_u σ 7 0 i) 5 0 i) 4 0 0) 6 0 (σ 1 i)) h) 0 0 := by
              refine m_pf hY hA eX8_reads_131 (by decide) ?_
              refine z_aload hY eX8_reads_134 1 rfl ?_
              refine z_dup hY eX8_reads_135 rfl ?_
              refine m_gf hY hA eX8_reads_136 (v := z_i i) (by simp [mF, z_u, z_ur]) ?_
              refine z_const hY eX8_reads_139 ?_
              refine z_iadd hY eX8_reads_140 ?_
              refine m_pf hY hA eX8_reads_141 (by decide) ?_
              exact z_return hY eX8_reads_144 rfl (by rw [hφ]; exact ⟨rfl, congrArg (fun q => mH A q h) (by first | (exfalso; omega) | (unfold yRd; rw [hA1, if_neg (by omega), if_neg (by omega)]; exact (by first | exact zN1 | exact zN2 | exact zN3 | exact zN4)))⟩) ⟨Nat.zero_le _, Nat.zero_le _⟩
            refine z_callSr (As := [z_i (σ 1 i)]) (rest := [.ref (A 40)]) (r := z_i (z_bl (sgn (σ 1 i)))) hY eX8_reads_105 (m_isSign hG (by omega)) (by decide) (Nat.le_of_ble_eq_true rfl) ⟨Nat.zero_le _, Nat.zero_le _⟩ ?_
            refine z_ifeqb hY eX8_reads_108 (fun c108 => ?_) (fun c108 => ?_)
            · refine z_iload hY eX8_reads_115 0 rfl ?_
              refine z_const hY eX8_reads_116 ?_
              refine z_const hY eX8_reads_118 ?_
              refine z_callSr (As := [z_i (σ 1 i), z_i 97, z_i 100]) (rest := [.ref (A 40)]) (r := z_i (z_bl (97 ≤ (σ 1 i) ∧ (σ 1 i) ≤ 100))) hY eX8_reads_120 (m_in hG (by omega)) (by decide) (Nat.le_of_ble_eq_true rfl) ⟨Nat.zero_le _, Nat.zero_le _⟩ ?_
              refine z_ifeqb hY eX8_reads_123 (fun c123 => ?_) (fun c123 => ?_)
              · refine z_const hY eX8_reads_130 ?_
                refine z_top (b := yTo (σ 1 i)) (by unfold yTo; first | exact (if_pos (by omega)).symm | (rw [if_neg (by omega)]; first | exact (if_pos (by omega)).symm | exact (if_neg (by omega)).symm)) ?_
                exact hJ4
              · refine z_const hY eX8_reads_126 ?_
                refine z_goto hY eX8_reads_127 ?_
                refine z_top (b := yTo (σ 1 i)) (by unfold yTo; first | exact (if_pos (by omega)).symm | (rw [if_neg (by omega)]; first | exact (if_pos (by omega)).symm | exact (if_neg (by omega)).symm)) ?_
                exact hJ4
            · refine z_const hY eX8_reads_111 ?_
              refine z_goto hY eX8_reads_112 ?_
              refine z_top (b := yTo (σ 1 i)) (by unfold yTo; first | exact (if_pos (by omega)).symm | (rw [if_neg (by omega)]; first | exact (if_pos (by omega)).symm | exact (if_neg (by omega)).symm)) ?_
              exact hJ4
        · exact z_return hY eX8_reads_76 rfl (by rw [hφ]; exact ⟨rfl, congrArg (fun q => mH A q h) (by unfold yRd; rw [hA1, if_pos (by omega)])⟩) ⟨Nat.zero_le _, Nat.zero_le _⟩
      · refine z_aload hY eX8_reads_11 0 rfl ?_
        refine m_gf hY hA eX8_reads_12 (v := .ref (A 1)) rfl ?_
        refine z_aload hY eX8_reads_15 0 rfl ?_
        refine m_gf hY hA eX8_reads_16 (v := z_i i) (by simp [mF, z_u, z_ur]) ?_
        refine m_ial hY hA eX8_reads_19 (j := 1) (N := 100) (x := σ 1 i) (by decide) rfl (by omega) (by simp [z_u, z_ur]) ?_
        refine z_const hY eX8_reads_20 ?_
        refine z_icmpeq hY eX8_reads_22 (by omega) (fun c22 => ?_) (fun c22 => ?_)
        · refine z_aload hY eX8_reads_39 0 rfl ?_
          refine z_dup hY eX8_reads_40 rfl ?_
          refine m_gf hY hA eX8_reads_41 (v := z_i i) (by simp [mF, z_u, z_ur]) ?_
          refine z_const hY eX8_reads_44 ?_
          refine z_iadd hY eX8_reads_45 ?_
          refine m_pf hY hA eX8_reads_46 (by decide) ?_
          refine z_goto hY eX8_reads_49 ?_
          refine z_heq (congrArg (fun q => mH A q h) (show z_u (z_u σ 7 0 i) 7 0 (i + 1) = z_u σ 7 0 (i + 1) from z_u_u)) ?_
          exact ih0 (i + 1) (by omega) (by omega) ((ySk_t (by omega) (by omega)).symm.trans hn)
        · refine z_aload hY eX8_reads_25 0 rfl ?_
          refine m_gf hY hA eX8_reads_26 (v := .ref (A 1)) rfl ?_
          refine z_aload hY eX8_reads_29 0 rfl ?_
          refine m_gf hY hA eX8_reads_30 (v := z_i i) (by simp [mF, z_u, z_ur]) ?_
          refine m_ial hY hA eX8_reads_33 (j := 1) (N := 100) (x := σ 1 i) (by decide) rfl (by omega) (by simp [z_u, z_ur]) ?_
          refine z_const hY eX8_reads_34 ?_
          refine z_icmpne hY eX8_reads_36 (by omega) (fun c36 => ?_) (fun c36 => ?_)
          · have hA1 : yA σ = i := by rw [← hn]; exact ySk_f (by omega)
            refine z_aload hY eX8_reads_52 0 rfl ?_
            refine z_aload hY eX8_reads_53 0 rfl ?_
            refine m_gf hY hA eX8_reads_54 (v := z_i i) (by simp [mF, z_u, z_ur]) ?_
            refine m_pf hY hA eX8_reads_57 (by decide) ?_
            refine z_aload hY eX8_reads_60 0 rfl ?_
            refine z_const hY eX8_reads_61 ?_
            refine m_pf hY hA eX8_reads_62 (by decide) ?_
            refine z_aload hY eX8_reads_65 0 rfl ?_
            refine m_gf hY hA eX8_reads_66 (v := z_i i) (by simp [mF, z_u, z_ur]) ?_
            refine z_aload hY eX8_reads_69 0 rfl ?_
            refine m_gf hY hA eX8_reads_70 (v := z_i (σ 2 0)) (by simp [mF, z_u, z_ur]) ?_
            refine z_icmpne hY eX8_reads_73 (by omega) (fun c73 => ?_) (fun c73 => ?_)
            · refine z_aload hY eX8_reads_77 0 rfl ?_
              refine m_gf hY hA eX8_reads_78 (v := .ref (A 1)) rfl ?_
              refine z_aload hY eX8_reads_81 0 rfl ?_
              refine m_gf hY hA eX8_reads_82 (v := z_i i) (by simp [mF, z_u, z_ur]) ?_
              refine m_ial hY hA eX8_reads_85 (j := 1) (N := 100) (x := σ 1 i) (by decide) rfl (by omega) (by simp [z_u, z_ur]) ?_
              refine z_istore hY eX8_reads_86 (ls' := [(1, z_i (σ 1 i)), (0, .ref (A 40))]) rfl ?_
              refine z_iload hY eX8_reads_87 0 rfl ?_
              refine z_const hY eX8_reads_88 ?_
              refine z_const hY eX8_reads_90 ?_
              refine z_callSr (As := [z_i (σ 1 i), z_i 48, z_i 57]) (rest := []) (r := z_i (z_bl (48 ≤ (σ 1 i) ∧ (σ 1 i) ≤ 57))) hY eX8_reads_92 (m_in hG (by omega)) (by decide) (Nat.le_of_ble_eq_true rfl) ⟨Nat.zero_le _, Nat.zero_le _⟩ ?_
              refine z_ifneb hY eX8_reads_95 (fun c95 => ?_) (fun c95 => ?_)
              · refine z_const hY eX8_reads_145 ?_
                refine z_istore hY eX8_reads_146 (ls' := [(2, z_i 0), (1, z_i (σ 1 i)), (0, .ref (A 40))]) rfl ?_
                refine z_aload hY eX8_reads_147 2 rfl ?_
                refine z_const hY eX8_reads_148 ?_
                refine m_pf hY hA eX8_reads_149 (by decide) ?_
                refine z_sub [2, 0] (ls' := [(0, .ref (A 40)), (2, z_i 0)]) rfl ?_
                have lp152 : ∀ (fu : Nat) (j : Int) (g : Int) (w : Int), (σ 2 0 - j).toNat < fu → (i ≤ j ∧ j ≤ σ 2 0 ∧ 0 ≤ g ∧ g = j - i) → (yDe σ (σ 2 0 - j).toNat j = yE σ) → (yDv σ (σ 2 0 - j).toNat j g w = yW σ) → z_W Y 152 [(0, .ref (A 40)), (2, z_i g)] [] (mH A (z_u (z_u (z_u (z_u σ 7 0 j) 5 0 i) 4 0 0) 6 0 w) h) 0 0 := by
                  intro fu
                  induction fu with
                  | zero => intro j g w hf; exact absurd hf (Nat.not_lt_zero _)
                  | succ fu ih152 =>
                    intro j g w hf h3 he hw
                    have htj := hp2 j
                    refine z_aload hY eX8_reads_152 0 rfl ?_
                    refine m_gf hY hA eX8_reads_153 (v := z_i j) (by simp [mF, z_u, z_ur]) ?_
                    refine z_aload hY eX8_reads_156 0 rfl ?_
                    refine m_gf hY hA eX8_reads_157 (v := z_i (σ 2 0)) (by simp [mF, z_u, z_ur]) ?_
                    refine z_icmpge hY eX8_reads_160 (by omega) (fun c160 => ?_) (fun c160 => ?_)
                    · have hE1 : yE σ = j := by rw [← he]; exact yDe_f (by unfold yDi; omega)
                      have hW1 : yW σ = w := by rw [← hw]; exact yDv_f (by unfold yDi; omega)
                      refine z_aload hY eX8_reads_227 0 rfl ?_
                      refine z_iload hY eX8_reads_228 1 rfl ?_
                      refine z_const hY eX8_reads_229 ?_
                      refine z_icmpgt hY eX8_reads_230 (by omega) (fun c230 => ?_) (fun c230 => ?_)
                      · refine z_const hY eX8_reads_237 ?_
                        refine m_pf hY hA eX8_reads_238 (by decide) ?_
                        exact z_return hY eX8_reads_241 rfl (by rw [hφ]; exact ⟨rfl, congrArg (fun q => mH A q h) (by first | (exfalso; omega) | (unfold yRd; rw [hA1, hE1, hW1, if_neg (by omega), if_pos (by omega)]; (first | rw [if_pos (by omega)] | rw [if_neg (by omega)]); exact (by first | exact zN1 | exact zN2 | exact zN3 | exact zN4)))⟩) ⟨Nat.zero_le _, Nat.zero_le _⟩
                      · refine z_const hY eX8_reads_233 ?_
                        refine z_goto hY eX8_reads_234 ?_
                        refine m_pf hY hA eX8_reads_238 (by decide) ?_
                        exact z_return hY eX8_reads_241 rfl (by rw [hφ]; exact ⟨rfl, congrArg (fun q => mH A q h) (by first | (exfalso; omega) | (unfold yRd; rw [hA1, hE1, hW1, if_neg (by omega), if_pos (by omega)]; (first | rw [if_pos (by omega)] | rw [if_neg (by omega)]); exact (by first | exact zN1 | exact zN2 | exact zN3 | exact zN4)))⟩) ⟨Nat.zero_le _, Nat.zero_le _⟩
                    · refine z_aload hY eX8_reads_163 0 rfl ?_
                      refine m_gf hY hA eX8_reads_164 (v := .ref (A 1)) rfl ?_
                      refine z_aload hY eX8_reads_167 0 rfl ?_
                      refine m_gf hY hA eX8_reads_168 (v := z_i j) (by simp [mF, z_u, z_ur]) ?_
                      refine m_ial hY hA eX8_reads_171 (j := 1) (N := 100) (x := σ 1 j) (by decide) rfl (by omega) (by simp [z_u, z_ur]) ?_
                      refine z_const hY eX8_reads_172 ?_
                      refine z_const hY eX8_reads_174 ?_
                      refine z_callSr (As := [z_i (σ 1 j), z_i 48, z_i 57]) (rest := []) (r := z_i (z_bl (48 ≤ (σ 1 j) ∧ (σ 1 j) ≤ 57))) hY eX8_reads_176 (m_in hG (by omega)) (by decide) (Nat.le_of_ble_eq_true rfl) ⟨Nat.zero_le _, Nat.zero_le _⟩ ?_
                      refine z_ifeqb hY eX8_reads_179 (fun c179 => ?_) (fun c179 => ?_)
                      · have hE1 : yE σ = j := by rw [← he]; exact yDe_f (by unfold yDi; omega)
                        have hW1 : yW σ = w := by rw [← hw]; exact yDv_f (by unfold yDi; omega)
                        refine z_aload hY eX8_reads_227 0 rfl ?_
                        refine z_iload hY eX8_reads_228 1 rfl ?_
                        refine z_const hY eX8_reads_229 ?_
                        refine z_icmpgt hY eX8_reads_230 (by omega) (fun c230 => ?_) (fun c230 => ?_)
                        · refine z_const hY eX8_reads_237 ?_
                          refine m_pf hY hA eX8_reads_238 (by decide) ?_
                          exact z_return hY eX8_reads_241 rfl (by rw [hφ]; exact ⟨rfl, congrArg (fun q => mH A q h) (by first | (exfalso; omega) | (unfold yRd; rw [hA1, hE1, hW1, if_neg (by omega), if_pos (by omega)]; (first | rw [if_pos (by omega)] | rw [if_neg (by omega)]); exact (by first | exact zN1 | exact zN2 | exact zN3 | exact zN4)))⟩) ⟨Nat.zero_le _, Nat.zero_le _⟩
                        · refine z_const hY eX8_reads_233 ?_
                          refine z_goto hY eX8_reads_234 ?_
                          refine m_pf hY hA eX8_reads_238 (by decide) ?_
                          exact z_return hY eX8_reads_241 rfl (by rw [hφ]; exact ⟨rfl, congrArg (fun q => mH A q h) (by first | (exfalso; omega) | (unfold yRd; rw [hA1, hE1, hW1, if_neg (by omega), if_pos (by omega)]; (first | rw [if_pos (by omega)] | rw [if_neg (by omega)]); exact (by first | exact zN1 | exact zN2 | exact zN3 | exact zN4)))⟩) ⟨Nat.zero_le _, Nat.zero_le _⟩
                      · refine z_iload hY eX8_reads_182 1 rfl ?_
                        refine z_const hY eX8_reads_183 ?_
                        refine z_icmpge hY eX8_reads_184 (by omega) (fun c184 => ?_) (fun c184 => ?_)
                        · refine z_iinc hY eX8_reads_211 1 rfl (ls' := [(2, z_i (g + 1)), (0, .ref (A 40))]) rfl ?_
                          refine z_aload hY eX8_reads_214 1 rfl ?_
                          refine z_dup hY eX8_reads_215 rfl ?_
                          refine m_gf hY hA eX8_reads_216 (v := z_i j) (by simp [mF, z_u, z_ur]) ?_
                          refine z_const hY eX8_reads_219 ?_
                          refine z_iadd hY eX8_reads_220 ?_
                          refine m_pf hY hA eX8_reads_221 (by decide) ?_
                          refine z_goto hY eX8_reads_224 ?_
                          refine z_sub [1, 0] (ls' := [(0, .ref (A 40)), (2, z_i (g + 1))]) rfl ?_
                          refine z_heq (congrArg (fun q => mH A q h) (show z_u (z_u (z_u (z_u (z_u σ 7 0 j) 5 0 i) 4 0 0) 6 0 w) 7 0 (j + 1) = z_u (z_u (z_u (z_u σ 7 0 (j + 1)) 5 0 i) 4 0 0) 6 0 w from (by first | exact zN1 | exact zN2 | exact zN3 | exact zN4))) ?_
                          exact ih152 (j + 1) (g + 1) w (by omega) (by omega) ((yDe_t (by omega) (by unfold yDi; omega)).symm.trans he) (by have e9 := yDv_t (σ := σ) (m := σ 2 0) (i := j) (d := g) (v := w) (by omega) (by unfold yDi; omega); first | (rw [if_pos (by omega)] at e9; exact e9.symm.trans hw) | (rw [if_neg (by omega)] at e9; exact e9.symm.trans hw))
                        · refine z_aload hY eX8_reads_187 0 rfl ?_
                          refine z_const hY eX8_reads_188 ?_
                          refine z_aload hY eX8_reads_190 0 rfl ?_
                          refine m_gf hY hA eX8_reads_191 (v := z_i w) (by simp [mF, z_u, z_ur]) ?_
                          refine z_imul hY eX8_reads_194 ?_
                          refine z_aload hY eX8_reads_195 0 rfl ?_
                          refine m_gf hY hA eX8_reads_196 (v := .ref (A 1)) rfl ?_
                          refine z_aload hY eX8_reads_199 0 rfl ?_
                          refine m_gf hY hA eX8_reads_200 (v := z_i j) (by simp [mF, z_u, z_ur]) ?_
                          refine m_ial hY hA eX8_reads_203 (j := 1) (N := 100) (x := σ 1 j) (by decide) rfl (by omega) (by simp [z_u, z_ur]) ?_
                          refine z_iadd hY eX8_reads_204 ?_
                          refine z_const hY eX8_reads_205 ?_
                          refine z_isub hY eX8_reads_207 ?_
                          refine m_pf hY hA eX8_reads_208 (by decide) ?_
                          refine z_iinc hY eX8_reads_211 1 rfl (ls' := [(2, z_i (g + 1)), (0, .ref (A 40))]) rfl ?_
                          refine z_aload hY eX8_reads_214 1 rfl ?_
                          refine z_dup hY eX8_reads_215 rfl ?_
                          refine m_gf hY hA eX8_reads_216 (v := z_i j) (by simp [mF, z_u, z_ur]) ?_
                          refine z_const hY eX8_reads_219 ?_
                          refine z_iadd hY eX8_reads_220 ?_
                          refine m_pf hY hA eX8_reads_221 (by decide) ?_
                          refine z_goto hY eX8_reads_224 ?_
                          refine z_sub [1, 0] (ls' := [(0, .ref (A 40)), (2, z_i (g + 1))]) rfl ?_
                          refine z_heq (congrArg (fun q => mH A q h) (show z_u (z_u (z_u (z_u (z_u (z_u σ 7 0 j) 5 0 i) 4 0 0) 6 0 w) 6 0 (10 * w + (σ 1 j) - 48)) 7 0 (j + 1) = z_u (z_u (z_u (z_u σ 7 0 (j + 1)) 5 0 i) 4 0 0) 6 0 (10 * w + (σ 1 j) - 48) from (by first | exact zN1 | exact zN2 | exact zN3 | exact zN4))) ?_
                          exact ih152 (j + 1) (g + 1) (10 * w + (σ 1 j) - 48) (by omega) (by omega) ((yDe_t (by omega) (by unfold yDi; omega)).symm.trans he) (by have e9 := yDv_t (σ := σ) (m := σ 2 0) (i := j) (d := g) (v := w) (by omega) (by unfold yDi; omega); first | (rw [if_pos (by omega)] at e9; exact e9.symm.trans hw) | (rw [if_neg (by omega)] at e9; exact e9.symm.trans hw))
                exact lp152 _ i 0 0 (Nat.lt_succ_self _) (by omega) (by rw [← hA1]; rfl) (by rw [← hA1]; rfl)
              · refine z_aload hY eX8_reads_98 1 rfl ?_
                refine z_iload hY eX8_reads_99 0 rfl ?_
                refine m_pf hY hA eX8_reads_100 (by decide) ?_
                refine z_aload hY eX8_reads_103 1 rfl ?_
                refine z_iload hY eX8_reads_104 0 rfl ?_
                have hto : 0 ≤ yTo (σ 1 i) ∧ yTo (σ 1 i) ≤ 4 := by unfold yTo; split; omega; split <;> omega
                have hJ7 : z_W Y 131 [(1, z_i (σ 1 i)), (0, .ref (A 40))] [z_i (yTo (σ 1 i)), .ref (A 40)] (mH A (z_u (z_u (z_u (z_u σ 7 0 i) 5 0 i) 4 0 0) 6 0 (σ 1 i)) h) 0 0 := by
                  refine m_pf hY hA eX8_reads_131 (by decide) ?_
                  refine z_aload hY eX8_reads_134 1 rfl ?_
                  refine z_dup hY eX8_reads_135 rfl ?_
                  refine m_gf hY hA eX8_reads_136 (v := z_i i) (by simp [mF, z_u, z_ur]) ?_
                  refine z_const hY eX8_reads_139 ?_
                  refine z_iadd hY eX8_reads_140 ?_
                  refine m_pf hY hA eX8_reads_141 (by decide) ?_
                  exact z_return hY eX8_reads_144 rfl (by rw [hφ]; exact ⟨rfl, congrArg (fun q => mH A q h) (by first | (exfalso; omega) | (unfold yRd; rw [hA1, if_neg (by omega), if_neg (by omega)]; exact (by first | exact zN1 | exact zN2 | exact zN3 | exact zN4)))⟩) ⟨Nat.zero_le _, Nat.zero_le _⟩
                refine z_callSr (As := [z_i (σ 1 i)]) (rest := [.ref (A 40)]) (r := z_i (z_bl (sgn (σ 1 i)))) hY eX8_reads_105 (m_isSign hG (by omega)) (by decide) (Nat.le_of_ble_eq_true rfl) ⟨Nat.zero_le _, Nat.zero_le _⟩ ?_
                refine z_ifeqb hY eX8_reads_108 (fun c108 => ?_) (fun c108 => ?_)
                · refine z_iload hY eX8_reads_115 0 rfl ?_
                  refine z_const hY eX8_reads_116 ?_
                  refine z_const hY eX8_reads_118 ?_
                  refine z_callSr (As := [z_i (σ 1 i), z_i 97, z_i 100]) (rest := [.ref (A 40)]) (r := z_i (z_bl (97 ≤ (σ 1 i) ∧ (σ 1 i) ≤ 100))) hY eX8_reads_120 (m_in hG (by omega)) (by decide) (Nat.le_of_ble_eq_true rfl) ⟨Nat.zero_le _, Nat.zero_le _⟩ ?_
                  refine z_ifeqb hY eX8_reads_123 (fun c123 => ?_) (fun c123 => ?_)
                  · refine z_const hY eX8_reads_130 ?_
                    refine z_top (b := yTo (σ 1 i)) (by unfold yTo; first | exact (if_pos (by omega)).symm | (rw [if_neg (by omega)]; first | exact (if_pos (by omega)).symm | exact (if_neg (by omega)).symm)) ?_
                    exact hJ7
                  · refine z_const hY eX8_reads_126 ?_
                    refine z_goto hY eX8_reads_127 ?_
                    refine z_top (b := yTo (σ 1 i)) (by unfold yTo; first | exact (if_pos (by omega)).symm | (rw [if_neg (by omega)]; first | exact (if_pos (by omega)).symm | exact (if_neg (by omega)).symm)) ?_
                    exact hJ7
                · refine z_const hY eX8_reads_111 ?_
                  refine z_goto hY eX8_reads_112 ?_
                  refine z_top (b := yTo (σ 1 i)) (by unfold yTo; first | exact (if_pos (by omega)).symm | (rw [if_neg (by omega)]; first | exact (if_pos (by omega)).symm | exact (if_neg (by omega)).symm)) ?_
                  exact hJ7
            · exact z_return hY eX8_reads_76 rfl (by rw [hφ]; exact ⟨rfl, congrArg (fun q => mH A q h) (by unfold yRd; rw [hA1, if_pos (by omega)])⟩) ⟨Nat.zero_le _, Nat.zero_le _⟩
          · refine z_aload hY eX8_reads_39 0 rfl ?_
            refine z_dup hY eX8_reads_40 rfl ?_
            refine m_gf hY hA eX8_reads_41 (v := z_i i) (by simp [mF, z_u, z_ur]) ?_
            refine z_const hY eX8_reads_44 ?_
            refine z_iadd hY eX8_reads_45 ?_
            refine m_pf hY hA eX8_reads_46 (by decide) ?_
            refine z_goto hY eX8_reads_49 ?_
            refine z_heq (congrArg (fun q => mH A q h) (show z_u (z_u σ 7 0 i) 7 0 (i + 1) = z_u σ 7 0 (i + 1) from z_u_u)) ?_
            exact ih0 (i + 1) (by omega) (by omega) ((ySk_t (by omega) (by omega)).symm.trans hn)
  refine z_heq (congrArg (fun q => mH A q h) (show σ = z_u σ 7 0 (σ 7 0) from (z_u_same rfl).symm)) ?_
  exact lp0 _ (σ 7 0) (Nat.lt_succ_self _) (by omega) rfl
theorem m_readsTerm {G : z_G} {A : Nat → Nat} {σ : z_S} {h : z_H} (hG : z_OK G) (hA : mI A) (hP : mP σ) (hnc : σ 13 0 ≤ 3) {s : Int} (hr : -1 ≤ s ∧ s ≤ 1) : z_T G mX8_readsTerm [.ref (A 40), z_i s] (mH A σ h) 2 0 0 (fun v h' => v = some (z_i (yRt σ s).1) ∧ h' = mH A (yRt σ s).2 h) (z_no) := by
  obtain ⟨⟨hp1, hp2, hp4⟩, hp3, hp5, hp6⟩ := id hP
  refine z_T_of hG pX8_readsTerm (Nat.le_of_ble_eq_true rfl) (ls0 := [(0, .ref (A 40)), (1, z_i s)]) rfl fun Y hY hg hmc hms hφ hψ => ?_
  subst hg
  refine z_const hY eX8_readsTerm_0 ?_
  refine z_istore hY eX8_readsTerm_1 (ls' := [(2, z_i 1), (0, .ref (A 40)), (1, z_i s)]) rfl ?_
  refine z_aload hY eX8_readsTerm_2 1 rfl ?_
  refine m_gf hY hA eX8_readsTerm_3 (v := z_i (σ 4 0)) rfl ?_
  refine z_const hY eX8_readsTerm_6 ?_
  refine z_icmpne hY eX8_readsTerm_7 (by omega) (fun c7 => ?_) (fun c7 => ?_)
  · refine z_aload hY eX8_readsTerm_34 1 rfl ?_
    refine m_gf hY hA eX8_readsTerm_35 (v := z_i (σ 4 0)) rfl ?_
    refine z_const hY eX8_readsTerm_38 ?_
    refine z_icmpeq hY eX8_readsTerm_39 (by omega) (fun c39 => ?_) (fun c39 => ?_)
    · refine z_aload hY eX8_readsTerm_44 1 rfl ?_
      refine m_gf hY hA eX8_readsTerm_45 (v := .ref (A 9)) rfl ?_
      refine z_const hY eX8_readsTerm_48 ?_
      refine z_aload hY eX8_readsTerm_49 1 rfl ?_
      refine m_gf hY hA eX8_readsTerm_50 (v := z_i (σ 13 0)) rfl ?_
      refine z_imul hY eX8_readsTerm_53 ?_
      refine z_aload hY eX8_readsTerm_54 1 rfl ?_
      refine m_gf hY hA eX8_readsTerm_55 (v := z_i (σ 6 0)) rfl ?_
      refine z_iadd hY eX8_readsTerm_58 ?_
      refine z_const hY eX8_readsTerm_59 ?_
      refine z_isub hY eX8_readsTerm_61 ?_
      refine z_dup2 hY eX8_readsTerm_62 rfl rfl ?_
      refine m_ial hY hA eX8_readsTerm_63 (j := 9) (N := 16) (x := σ 9 (4 * (σ 13 0) + (σ 6 0) - 97)) (by decide) rfl (by omega) rfl ?_
      refine z_iload hY eX8_readsTerm_64 2 rfl ?_
      refine z_iload hY eX8_readsTerm_65 0 rfl ?_
      refine z_imul hY eX8_readsTerm_66 ?_
      refine z_top (b := s) (by omega) ?_
      refine z_iadd hY eX8_readsTerm_67 ?_
      refine m_ias hY hA eX8_readsTerm_68 (j := 9) (N := 16) (by decide) (fun _ => rfl) (by omega) ?_
      refine z_aload hY eX8_readsTerm_69 1 rfl ?_
      refine z_callV (As := []) (rest := []) hY eX8_readsTerm_70 (m_reads hG hA (σ := (z_u σ 9 (4 * (σ 13 0) + (σ 6 0) - 97) ((σ 9 (4 * (σ 13 0) + (σ 6 0) - 97)) + s))) (show mP (z_u σ 9 (4 * (σ 13 0) + (σ 6 0) - 97) ((σ 9 (4 * (σ 13 0) + (σ 6 0) - 97)) + s)) from hP).1) (mH_at hA (k := 40) (by decide)) (by decide) (Nat.le_of_ble_eq_true rfl) ⟨Nat.zero_le _, Nat.zero_le _⟩ (fun _ _ q => q.elim) (fun v5 h5 q5 => ?_)
      obtain ⟨rfl, rfl⟩ := q5
      have hP6 : mP (yRd (z_u σ 9 (4 * (σ 13 0) + (σ 6 0) - 97) ((σ 9 (4 * (σ 13 0) + (σ 6 0) - 97)) + s))) := mP_r (show mP (z_u σ 9 (4 * (σ 13 0) + (σ 6 0) - 97) ((σ 9 (4 * (σ 13 0) + (σ 6 0) - 97)) + s)) from hP)
      obtain ⟨⟨hp1_7, hp2_7, hp4_7⟩, hp3_7, hp5_7, hp6_7⟩ := id hP6
      have hk8 : yRd (z_u σ 9 (4 * (σ 13 0) + (σ 6 0) - 97) ((σ 9 (4 * (σ 13 0) + (σ 6 0) - 97)) + s)) 13 0 = (z_u σ 9 (4 * (σ 13 0) + (σ 6 0) - 97) ((σ 9 (4 * (σ 13 0) + (σ 6 0) - 97)) + s)) 13 0 := congrFun (yRd_k (by decide)) 0
      refine z_const hY eX8_readsTerm_73 ?_
      exact z_zreturn hY eX8_readsTerm_74 rfl (by omega) (by rw [hφ]; rw [show yRt σ s = (1, (yRd (z_u σ 9 (4 * (σ 13 0) + (σ 6 0) - 97) ((σ 9 (4 * (σ 13 0) + (σ 6 0) - 97)) + s)))) from by unfold yRt yTt; first | (rw [if_pos (by omega), if_pos (by omega), if_neg (by omega)]; done) | (rw [if_neg (by omega), if_neg (by omega), Int.mul_one]; done)]; exact ⟨rfl, rfl⟩) ⟨Nat.zero_le _, Nat.zero_le _⟩
    · refine z_const hY eX8_readsTerm_42 ?_
      exact z_zreturn hY eX8_readsTerm_43 rfl (by omega) (by rw [hφ]; rw [show yRt σ s = (0, σ) from by unfold yRt yTt; first | rw [if_pos (by omega), if_pos (by omega), if_pos (by omega)] | rw [if_neg (by omega), if_pos (by omega)]]; exact ⟨rfl, rfl⟩) ⟨Nat.zero_le _, Nat.zero_le _⟩
  · refine z_aload hY eX8_readsTerm_10 1 rfl ?_
    refine m_gf hY hA eX8_readsTerm_11 (v := z_i (σ 6 0)) rfl ?_
    refine z_istore hY eX8_readsTerm_14 (ls' := [(2, z_i (σ 6 0)), (0, .ref (A 40)), (1, z_i s)]) rfl ?_
    refine z_aload hY eX8_readsTerm_15 1 rfl ?_
    refine z_callV (As := []) (rest := []) hY eX8_readsTerm_16 (m_reads hG hA (σ := σ) (show mP σ from hP).1) (mH_at hA (k := 40) (by decide)) (by decide) (Nat.le_of_ble_eq_true rfl) ⟨Nat.zero_le _, Nat.zero_le _⟩ (fun _ _ q => q.elim) (fun v10 h10 q10 => ?_)
    obtain ⟨rfl, rfl⟩ := q10
    have hP11 : mP (yRd σ) := mP_r (show mP σ from hP)
    obtain ⟨⟨hp1_12, hp2_12, hp4_12⟩, hp3_12, hp5_12, hp6_12⟩ := id hP11
    have hk13 : yRd σ 13 0 = σ 13 0 := congrFun (yRd_k (by decide)) 0
    refine z_aload hY eX8_readsTerm_19 1 rfl ?_
    refine z_const hY eX8_readsTerm_20 ?_
    refine z_callVr (As := [z_i 42]) (rest := []) (r := z_i (z_bl ((yRd σ) 4 0 = 1 ∧ (yRd σ) 6 0 = 42))) hY eX8_readsTerm_22 (m_sgn hG hA (σ := (yRd σ)) hP11 (by omega)) (mH_at hA (k := 40) (by decide)) (by decide) (Nat.le_of_ble_eq_true rfl) ⟨Nat.zero_le _, Nat.zero_le _⟩ ?_
    refine z_ifneb hY eX8_readsTerm_25 (fun c25 => ?_) (fun c25 => ?_)
    · refine z_aload hY eX8_readsTerm_30 1 rfl ?_
      refine z_callV (As := []) (rest := []) hY eX8_readsTerm_31 (m_reads hG hA (σ := (yRd σ)) (show mP (yRd σ) from hP11).1) (mH_at hA (k := 40) (by decide)) (by decide) (Nat.le_of_ble_eq_true rfl) ⟨Nat.zero_le _, Nat.zero_le _⟩ (fun _ _ q => q.elim) (fun v14 h14 q14 => ?_)
      obtain ⟨rfl, rfl⟩ := q14
      have hP15 : mP (yRd (yRd σ)) := mP_r (show mP (yRd σ) from hP11)
      obtain ⟨⟨hp1_16, hp2_16, hp4_16⟩, hp3_16, hp5_16, hp6_16⟩ := id hP15
      have hk17 : yRd (yRd σ) 13 0 = (yRd σ) 13 0 := congrFun (yRd_k (by decide)) 0
      refine z_aload hY eX8_readsTerm_34 1 rfl ?_
      refine m_gf hY hA eX8_readsTerm_35 (v := z_i ((yRd (yRd σ)) 4 0)) rfl ?_
      refine z_const hY eX8_readsTerm_38 ?_
      refine z_icmpeq hY eX8_readsTerm_39 (by omega) (fun c39 => ?_) (fun c39 => ?_)
      · refine z_aload hY eX8_readsTerm_44 1 rfl ?_
        refine m_gf hY hA eX8_readsTerm_45 (v := .ref (A 9)) rfl ?_
        refine z_const hY eX8_readsTerm_48 ?_
        refine z_aload hY eX8_readsTerm_49 1 rfl ?_
        refine m_gf hY hA eX8_readsTerm_50 (v := z_i ((yRd (yRd σ)) 13 0)) rfl ?_
        refine z_imul hY eX8_readsTerm_53 ?_
        refine z_aload hY eX8_readsTerm_54 1 rfl ?_
        refine m_gf hY hA eX8_readsTerm_55 (v := z_i ((yRd (yRd σ)) 6 0)) rfl ?_
        refine z_iadd hY eX8_readsTerm_58 ?_
        refine z_const hY eX8_readsTerm_59 ?_
        refine z_isub hY eX8_readsTerm_61 ?_
        refine z_dup2 hY eX8_readsTerm_62 rfl rfl ?_
        refine m_ial hY hA eX8_readsTerm_63 (j := 9) (N := 16) (x := (yRd (yRd σ)) 9 (4 * ((yRd (yRd σ)) 13 0) + ((yRd (yRd σ)) 6 0) - 97)) (by decide) rfl (by omega) rfl ?_
        refine z_iload hY eX8_readsTerm_64 2 rfl ?_
        refine z_iload hY eX8_readsTerm_65 0 rfl ?_
        refine z_imul hY eX8_readsTerm_66 ?_
        refine z_iadd hY eX8_readsTerm_67 ?_
        refine m_ias hY hA eX8_readsTerm_68 (j := 9) (N := 16) (by decide) (fun _ => rfl) (by omega) ?_
        refine z_aload hY eX8_readsTerm_69 1 rfl ?_
        refine z_callV (As := []) (rest := []) hY eX8_readsTerm_70 (m_reads hG hA (σ := (z_u (yRd (yRd σ)) 9 (4 * ((yRd (yRd σ)) 13 0) + ((yRd (yRd σ)) 6 0) - 97) (((yRd (yRd σ)) 9 (4 * ((yRd (yRd σ)) 13 0) + ((yRd (yRd σ)) 6 0) - 97)) + (s * (σ 6 0))))) (show mP (z_u (yRd (yRd σ)) 9 (4 * ((yRd (yRd σ)) 13 0) + ((yRd (yRd σ)) 6 0) - 97) (((yRd (yRd σ)) 9 (4 * ((yRd (yRd σ)) 13 0) + ((yRd (yRd σ)) 6 0) - 97)) + (s * (σ 6 0)))) from hP15).1) (mH_at hA (k := 40) (by decide)) (by decide) (Nat.le_of_ble_eq_true rfl) ⟨Nat.zero_le _, Nat.zero_le _⟩ (fun _ _ q => q.elim) (fun v22 h22 q22 => ?_)
        obtain ⟨rfl, rfl⟩ := q22
        have hP23 : mP (yRd (z_u (yRd (yRd σ)) 9 (4 * ((yRd (yRd σ)) 13 0) + ((yRd (yRd σ)) 6 0) - 97) (((yRd (yRd σ)) 9 (4 * ((yRd (yRd σ)) 13 0) + ((yRd (yRd σ)) 6 0) - 97)) + (s * (σ 6 0))))) := mP_r (show mP (z_u (yRd (yRd σ)) 9 (4 * ((yRd (yRd σ)) 13 0) + ((yRd (yRd σ)) 6 0) - 97) (((yRd (yRd σ)) 9 (4 * ((yRd (yRd σ)) 13 0) + ((yRd (yRd σ)) 6 0) - 97)) + (s * (σ 6 0)))) from hP15)
        obtain ⟨⟨hp1_24, hp2_24, hp4_24⟩, hp3_24, hp5_24, hp6_24⟩ := id hP23
        have hk25 : yRd (z_u (yRd (yRd σ)) 9 (4 * ((yRd (yRd σ)) 13 0) + ((yRd (yRd σ)) 6 0) - 97) (((yRd (yRd σ)) 9 (4 * ((yRd (yRd σ)) 13 0) + ((yRd (yRd σ)) 6 0) - 97)) + (s * (σ 6 0)))) 13 0 = (z_u (yRd (yRd σ)) 9 (4 * ((yRd (yRd σ)) 13 0) + ((yRd (yRd σ)) 6 0) - 97) (((yRd (yRd σ)) 9 (4 * ((yRd (yRd σ)) 13 0) + ((yRd (yRd σ)) 6 0) - 97)) + (s * (σ 6 0)))) 13 0 := congrFun (yRd_k (by decide)) 0
        refine z_const hY eX8_readsTerm_73 ?_
        exact z_zreturn hY eX8_readsTerm_74 rfl (by omega) (by rw [hφ]; rw [show yRt σ s = (1, (yRd (z_u (yRd (yRd σ)) 9 (4 * ((yRd (yRd σ)) 13 0) + ((yRd (yRd σ)) 6 0) - 97) (((yRd (yRd σ)) 9 (4 * ((yRd (yRd σ)) 13 0) + ((yRd (yRd σ)) 6 0) - 97)) + (s * (σ 6 0)))))) from by unfold yRt yTt; first | (rw [if_pos (by omega), if_pos (by omega), if_neg (by omega)]; done) | (rw [if_neg (by omega), if_neg (by omega), Int.mul_one]; done)]; exact ⟨rfl, rfl⟩) ⟨Nat.zero_le _, Nat.zero_le _⟩
      · refine z_const hY eX8_readsTerm_42 ?_
        exact z_zreturn hY eX8_readsTerm_43 rfl (by omega) (by rw [hφ]; rw [show yRt σ s = (0, (yRd (yRd σ))) from by unfold yRt yTt; first | rw [if_pos (by omega), if_pos (by omega), if_pos (by omega)] | rw [if_neg (by omega), if_pos (by omega)]]; exact ⟨rfl, rfl⟩) ⟨Nat.zero_le _, Nat.zero_le _⟩
    · refine z_const hY eX8_readsTerm_28 ?_
      exact z_zreturn hY eX8_readsTerm_29 rfl (by omega) (by rw [hφ]; rw [show yRt σ s = (0, (yRd σ)) from by unfold yRt; rw [if_pos (by omega), if_neg (by omega)]]; exact ⟨rfl, rfl⟩) ⟨Nat.zero_le _, Nat.zero_le _⟩
theorem m_readsCriterion {G : z_G} {A : Nat → Nat} {σ : z_S} {h : z_H} (hG : z_OK G) (hA : mI A) (hP : mP σ) : z_T G mX8_readsCriterion [.ref (A 40)] (mH A σ h) 3 0 0 (fun v h' => v = some (z_i (yRc σ).1) ∧ h' = mH A (yRc σ).2 h) (z_no) := by
  obtain ⟨⟨hp1, hp2, hp4⟩, hp3, hp5, hp6⟩ := id hP
  refine z_T_of hG pX8_readsCriterion (Nat.le_of_ble_eq_true rfl) (ls0 := [(0, .ref (A 40))]) rfl fun Y hY hg hmc hms hφ hψ => ?_
  subst hg
  refine z_aload hY eX8_readsCriterion_0 0 rfl ?_
  refine z_const hY eX8_readsCriterion_1 ?_
  refine z_callVr (As := [z_i 62]) (rest := []) (r := z_i (z_bl (σ 4 0 = 1 ∧ σ 6 0 = 62))) hY eX8_readsCriterion_3 (m_sgn hG hA (σ := σ) hP (by omega)) (mH_at hA (k := 40) (by decide)) (by decide) (Nat.le_of_ble_eq_true rfl) ⟨Nat.zero_le _, Nat.zero_le _⟩ ?_
  refine z_ifneb hY eX8_readsCriterion_6 (fun c6 => ?_) (fun c6 => ?_)
  · refine z_aload hY eX8_readsCriterion_18 0 rfl ?_
    refine m_gf hY hA eX8_readsCriterion_19 (v := z_i (σ 13 0)) rfl ?_
    refine z_const hY eX8_readsCriterion_22 ?_
    refine z_icmpne hY eX8_readsCriterion_23 (by omega) (fun c23 => ?_) (fun c23 => ?_)
    · refine z_aload hY eX8_readsCriterion_28 0 rfl ?_
      refine m_gf hY hA eX8_readsCriterion_29 (v := .ref (A 11)) rfl ?_
      refine z_aload hY eX8_readsCriterion_32 0 rfl ?_
      refine m_gf hY hA eX8_readsCriterion_33 (v := z_i (σ 13 0)) rfl ?_
      refine z_aload hY eX8_readsCriterion_36 0 rfl ?_
      refine m_gf hY hA eX8_readsCriterion_37 (v := z_i (σ 6 0)) rfl ?_
      refine z_const hY eX8_readsCriterion_40 ?_
      refine z_icmpne hY eX8_readsCriterion_42 (by omega) (fun c42 => ?_) (fun c42 => ?_)
      · refine z_const hY eX8_readsCriterion_49 ?_
        refine m_bas hY hA eX8_readsCriterion_50 (j := 11) (N := 4) (by decide) (fun _ => rfl) (by omega) (by first | omega | exact z_bl01 _) ?_
        refine z_const hY eX8_readsCriterion_51 ?_
        refine z_istore hY eX8_readsCriterion_52 (ls' := [(1, z_i 0), (0, .ref (A 40))]) rfl ?_
        refine z_iload hY eX8_readsCriterion_53 0 rfl ?_
        refine z_const hY eX8_readsCriterion_54 ?_
        refine z_icmpge hY eX8_readsCriterion_55 (by omega) (fun c => absurd c (by omega)) (fun _ => ?_)
        refine z_aload hY eX8_readsCriterion_58 1 rfl ?_
        refine m_gf hY hA eX8_readsCriterion_59 (v := .ref (A 9)) rfl ?_
        refine z_const hY eX8_readsCriterion_62 ?_
        refine z_aload hY eX8_readsCriterion_63 1 rfl ?_
        refine m_gf hY hA eX8_readsCriterion_64 (v := z_i (σ 13 0)) (by simp [mF, z_u, z_ur]) ?_
        refine z_imul hY eX8_readsCriterion_67 ?_
        refine z_iload hY eX8_readsCriterion_68 0 rfl ?_
        refine z_iadd hY eX8_readsCriterion_69 ?_
        refine z_top (b := 4 * (σ 13 0)) (by omega) ?_
        refine z_const hY eX8_readsCriterion_70 ?_
        refine m_ias hY hA eX8_readsCriterion_71 (j := 9) (N := 16) (by decide) (fun _ => rfl) (by omega) ?_
        refine z_iinc hY eX8_readsCriterion_72 0 rfl (ls' := [(1, z_i (0 + 1)), (0, .ref (A 40))]) rfl ?_
        refine z_lq (ls' := [(1, z_i 1), (0, .ref (A 40))]) rfl ?_
        refine z_goto hY eX8_readsCriterion_75 ?_
        refine z_iload hY eX8_readsCriterion_53 0 rfl ?_
        refine z_const hY eX8_readsCriterion_54 ?_
        refine z_icmpge hY eX8_readsCriterion_55 (by omega) (fun c => absurd c (by omega)) (fun _ => ?_)
        refine z_aload hY eX8_readsCriterion_58 1 rfl ?_
        refine m_gf hY hA eX8_readsCriterion_59 (v := .ref (A 9)) rfl ?_
        refine z_const hY eX8_readsCriterion_62 ?_
        refine z_aload hY eX8_readsCriterion_63 1 rfl ?_
        refine m_gf hY hA eX8_readsCriterion_64 (v := z_i (σ 13 0)) (by simp [mF, z_u, z_ur]) ?_
        refine z_imul hY eX8_readsCriterion_67 ?_
        refine z_iload hY eX8_readsCriterion_68 0 rfl ?_
        refine z_iadd hY eX8_readsCriterion_69 ?_
        refine z_const hY eX8_readsCriterion_70 ?_
        refine m_ias hY hA eX8_readsCriterion_71 (j := 9) (N := 16) (by decide) (fun _ => rfl) (by omega) ?_
        refine z_iinc hY eX8_readsCriterion_72 0 rfl (ls' := [(1, z_i (1 + 1)), (0, .ref (A 40))]) rfl ?_
        refine z_lq (ls' := [(1, z_i 2), (0, .ref (A 40))]) rfl ?_
        refine z_goto hY eX8_readsCriterion_75 ?_
        refine z_iload hY eX8_readsCriterion_53 0 rfl ?_
        refine z_const hY eX8_readsCriterion_54 ?_
        refine z_icmpge hY eX8_readsCriterion_55 (by omega) (fun c => absurd c (by omega)) (fun _ => ?_)
        refine z_aload hY eX8_readsCriterion_58 1 rfl ?_
        refine m_gf hY hA eX8_readsCriterion_59 (v := .ref (A 9)) rfl ?_
        refine z_const hY eX8_readsCriterion_62 ?_
        refine z_aload hY eX8_readsCriterion_63 1 rfl ?_
        refine m_gf hY hA eX8_readsCriterion_64 (v := z_i (σ 13 0)) (by simp [mF, z_u, z_ur]) ?_
        refine z_imul hY eX8_readsCriterion_67 ?_
        refine z_iload hY eX8_readsCriterion_68 0 rfl ?_
        refine z_iadd hY eX8_readsCriterion_69 ?_
        refine z_const hY eX8_readsCriterion_70 ?_
        refine m_ias hY hA eX8_readsCriterion_71 (j := 9) (N := 16) (by decide) (fun _ => rfl) (by omega) ?_
        refine z_iinc hY eX8_readsCriterion_72 0 rfl (ls' := [(1, z_i (2 + 1)), (0, .ref (A 40))]) rfl ?_
        refine z_lq (ls' := [(1, z_i 3), (0, .ref (A 40))]) rfl ?_
        refine z_goto hY eX8_readsCriterion_75 ?_
        refine z_iload hY eX8_readsCriterion_53 0 rfl ?_
        refine z_const hY eX8_readsCriterion_54 ?_
        refine z_icmpge hY eX8_readsCriterion_55 (by omega) (fun c => absurd c (by omega)) (fun _ => ?_)
        refine z_aload hY eX8_readsCriterion_58 1 rfl ?_
        refine m_gf hY hA eX8_readsCriterion_59 (v := .ref (A 9)) rfl ?_
        refine z_const hY eX8_readsCriterion_62 ?_
        refine z_aload hY eX8_readsCriterion_63 1 rfl ?_
        refine m_gf hY hA eX8_readsCriterion_64 (v := z_i (σ 13 0)) (by simp [mF, z_u, z_ur]) ?_
        refine z_imul hY eX8_readsCriterion_67 ?_
        refine z_iload hY eX8_readsCriterion_68 0 rfl ?_
        refine z_iadd hY eX8_readsCriterion_69 ?_
        refine z_const hY eX8_readsCriterion_70 ?_
        refine m_ias hY hA eX8_readsCriterion_71 (j := 9) (N := 16) (by decide) (fun _ => rfl) (by omega) ?_
        refine z_iinc hY eX8_readsCriterion_72 0 rfl (ls' := [(1, z_i (3 + 1)), (0, .ref (A 40))]) rfl ?_
        refine z_lq (ls' := [(1, z_i 4), (0, .ref (A 40))]) rfl ?_
        refine z_goto hY eX8_readsCriterion_75 ?_
        refine z_iload hY eX8_readsCriterion_53 0 rfl ?_
        refine z_const hY eX8_readsCriterion_54 ?_
        refine z_icmpge hY eX8_readsCriterion_55 (by omega) (fun _ => ?_) (fun c => absurd c (by omega))
        refine z_heq (congrArg (fun q => mH A q h) (show z_u (z_u (z_u (z_u (z_u σ 11 (σ 13 0) 0) 9 (4 * (σ 13 0)) 0) 9 (4 * (σ 13 0) + 1) 0) 9 (4 * (σ 13 0) + 2) 0) 9 (4 * (σ 13 0) + 3) 0 = yC0 σ from by first | (exfalso; omega) | (unfold yC0; first | rw [if_pos (by omega)] | rw [if_neg (by omega)]))) ?_
        have hPc : mP (yC0 σ) := hP
        have hkc : yC0 σ 13 0 = σ 13 0 := rfl
        refine z_aload hY eX8_readsCriterion_78 1 rfl ?_
        refine z_callV (As := []) (rest := []) hY eX8_readsCriterion_79 (m_reads hG hA (σ := (yC0 σ)) (show mP (yC0 σ) from hPc).1) (mH_at hA (k := 40) (by decide)) (by decide) (Nat.le_of_ble_eq_true rfl) ⟨Nat.zero_le _, Nat.zero_le _⟩ (fun _ _ q => q.elim) (fun v3 h3 q3 => ?_)
        obtain ⟨rfl, rfl⟩ := q3
        have hP4 : mP (yRd (yC0 σ)) := mP_r (show mP (yC0 σ) from hPc)
        obtain ⟨⟨hp1_5, hp2_5, hp4_5⟩, hp3_5, hp5_5, hp6_5⟩ := id hP4
        have hk6 : yRd (yC0 σ) 13 0 = (yC0 σ) 13 0 := congrFun (yRd_k (by decide)) 0
        refine z_aload hY eX8_readsCriterion_82 1 rfl ?_
        refine z_const hY eX8_readsCriterion_83 ?_
        refine z_callV (As := [z_i 1]) (rest := []) hY eX8_readsCriterion_84 (m_readsTerm hG hA (σ := (yRd (yC0 σ))) hP4 (by omega) (s := 1) (by omega)) (mH_at hA (k := 40) (by decide)) (by decide) (Nat.le_of_ble_eq_true rfl) ⟨Nat.zero_le _, Nat.zero_le _⟩ (fun _ _ q => q.elim) (fun v7 h7 q7 => ?_)
        obtain ⟨rfl, rfl⟩ := q7
        have hP8 : mP (yRt (yRd (yC0 σ)) 1).2 := mP_yRt hP4 1
        have h01 := yRt_01 (yRd (yC0 σ)) 1
        obtain ⟨⟨hp1_9, hp2_9, hp4_9⟩, hp3_9, hp5_9, hp6_9⟩ := id hP8
        have hk10 : (yRt (yRd (yC0 σ)) 1).2 13 0 = (yRd (yC0 σ)) 13 0 := congrFun (yRt_k (by decide)) 0
        refine z_ifne hY eX8_readsCriterion_87 (by omega) (fun c87 => ?_) (fun c87 => ?_)
        · refine z_const hY eX8_readsCriterion_92 ?_
          refine z_istore hY eX8_readsCriterion_93 (ls' := [(1, z_i 1), (0, .ref (A 40))]) rfl ?_
          refine z_sub [1, 0] (ls' := [(0, .ref (A 40)), (1, z_i 1)]) rfl ?_
          have lp94 : ∀ (fu : Nat) (t : Int) (ρ : z_S), (4 - t).toNat < fu → (1 ≤ t ∧ t ≤ 4) → (mP ρ) → (ρ 13 0 ≤ 3) → (yTl (4 - t).toNat ρ = yTl 3 (yRt (yRd (yC0 σ)) 1).2) → (yGo σ) → ((yRt (yRd (yC0 σ)) 1).1 ≠ 0) → z_W Y 94 [(0, .ref (A 40)), (1, z_i t)] [] (mH A ρ h) 0 0 := by
            intro fu
            induction fu with
            | zero => intro t ρ hf; exact absurd hf (Nat.not_lt_zero _)
            | succ fu ih94 =>
              intro t ρ hf h0 hPr hnr hn hgo hfirst
              obtain ⟨⟨hp1_0, hp2_0, hp4_0⟩, hp3_0, hp5_0, hp6_0⟩ := id hPr
              refine z_aload hY eX8_readsCriterion_94 0 rfl ?_
              refine z_const hY eX8_readsCriterion_95 ?_
              refine z_callVr (As := [z_i 43]) (rest := []) (r := z_i (z_bl (ρ 4 0 = 1 ∧ ρ 6 0 = 43))) hY eX8_readsCriterion_97 (m_sgn hG hA (σ := ρ) hPr (by omega)) (mH_at hA (k := 40) (by decide)) (by decide) (Nat.le_of_ble_eq_true rfl) ⟨Nat.zero_le _, Nat.zero_le _⟩ ?_
              refine z_ifneb hY eX8_readsCriterion_100 (fun c100 => ?_) (fun c100 => ?_)
              · have hsg : -1 ≤ ySg ρ ∧ ySg ρ ≤ 1 := by unfold ySg; split <;> omega
                have hJ11 : z_W Y 126 [(0, .ref (A 40)), (1, z_i t)] [z_i (ySg ρ)] (mH A ρ h) 0 0 := by
                  refine z_istore hY eX8_readsCriterion_126 (ls' := [(2, z_i (ySg ρ)), (0, .ref (A 40)), (1, z_i t)]) rfl ?_
                  refine z_aload hY eX8_readsCriterion_127 1 rfl ?_
                  refine z_callV (As := []) (rest := []) hY eX8_readsCriterion_128 (m_reads hG hA (σ := ρ) (show mP ρ from hPr).1) (mH_at hA (k := 40) (by decide)) (by decide) (Nat.le_of_ble_eq_true rfl) ⟨Nat.zero_le _, Nat.zero_le _⟩ (fun _ _ q => q.elim) (fun v12 h12 q12 => ?_)
                  obtain ⟨rfl, rfl⟩ := q12
                  have hP13 : mP (yRd ρ) := mP_r (show mP ρ from hPr)
                  obtain ⟨⟨hp1_14, hp2_14, hp4_14⟩, hp3_14, hp5_14, hp6_14⟩ := id hP13
                  have hk15 : yRd ρ 13 0 = ρ 13 0 := congrFun (yRd_k (by decide)) 0
                  refine z_iload hY eX8_readsCriterion_131 2 rfl ?_
                  refine z_const hY eX8_readsCriterion_132 ?_
                  refine z_icmpeq hY eX8_readsCriterion_133 (by omega) (fun c133 => ?_) (fun c133 => ?_)
                  · refine z_const hY eX8_readsCriterion_144 ?_
                    exact z_zreturn hY eX8_readsCriterion_145 rfl (by omega) (by rw [hφ]; rw [show yRc σ = (0, (yRd ρ)) from by unfold yRc; rw [if_pos hgo, if_neg hfirst, ← hn]; first | (rw [yTl_4 (by omega) (by omega)]; rfl) | (rw [yTl_f (by omega) (by omega) (by omega)]; rfl)]; exact ⟨rfl, rfl⟩) ⟨Nat.zero_le _, Nat.zero_le _⟩
                  · refine z_aload hY eX8_readsCriterion_136 1 rfl ?_
                    refine z_iload hY eX8_readsCriterion_137 0 rfl ?_
                    refine z_callV (As := [z_i (ySg ρ)]) (rest := []) hY eX8_readsCriterion_138 (m_readsTerm hG hA (σ := (yRd ρ)) hP13 (by omega) (s := (ySg ρ)) (by omega)) (mH_at hA (k := 40) (by decide)) (by decide) (Nat.le_of_ble_eq_true rfl) ⟨Nat.zero_le _, Nat.zero_le _⟩ (fun _ _ q => q.elim) (fun v16 h16 q16 => ?_)
                    obtain ⟨rfl, rfl⟩ := q16
                    have hP17 : mP (yRt (yRd ρ) (ySg ρ)).2 := mP_yRt hP13 (ySg ρ)
                    have h01 := yRt_01 (yRd ρ) (ySg ρ)
                    obtain ⟨⟨hp1_18, hp2_18, hp4_18⟩, hp3_18, hp5_18, hp6_18⟩ := id hP17
                    have hk19 : (yRt (yRd ρ) (ySg ρ)).2 13 0 = (yRd ρ) 13 0 := congrFun (yRt_k (by decide)) 0
                    refine z_ifne hY eX8_readsCriterion_141 (by omega) (fun c141 => ?_) (fun c141 => ?_)
                    · refine z_iinc hY eX8_readsCriterion_146 2 rfl (ls' := [(1, z_i (t + 1)), (2, z_i (ySg ρ)), (0, .ref (A 40))]) rfl ?_
                      refine z_goto hY eX8_readsCriterion_149 ?_
                      refine z_sub [2, 0] (ls' := [(0, .ref (A 40)), (1, z_i (t + 1))]) rfl ?_
                      exact ih94 (t + 1) ((yRt (yRd ρ) (ySg ρ)).2) (by omega) (by omega) (by assumption) (by omega) ((yTl_c (by omega) (by omega) (by omega)).symm.trans hn) hgo hfirst
                    · refine z_const hY eX8_readsCriterion_144 ?_
                      exact z_zreturn hY eX8_readsCriterion_145 rfl (by omega) (by rw [hφ]; rw [show yRc σ = (0, (yRt (yRd ρ) (ySg ρ)).2) from by unfold yRc; rw [if_pos hgo, if_neg hfirst, ← hn]; first | (rw [yTl_4 (by omega) (by omega)]; rfl) | (rw [yTl_f (by omega) (by omega) (by omega)]; rfl)]; exact ⟨rfl, rfl⟩) ⟨Nat.zero_le _, Nat.zero_le _⟩
                refine z_aload hY eX8_readsCriterion_112 0 rfl ?_
                refine m_gf hY hA eX8_readsCriterion_113 (v := z_i (ρ 6 0)) rfl ?_
                refine z_const hY eX8_readsCriterion_116 ?_
                refine z_icmpne hY eX8_readsCriterion_118 (by omega) (fun c118 => ?_) (fun c118 => ?_)
                · refine z_const hY eX8_readsCriterion_125 ?_
                  refine z_top (b := ySg ρ) (by unfold ySg; first | exact (if_pos (by omega)).symm | exact (if_neg (by omega)).symm) ?_
                  exact hJ11
                · refine z_const hY eX8_readsCriterion_121 ?_
                  refine z_goto hY eX8_readsCriterion_122 ?_
                  refine z_top (b := ySg ρ) (by unfold ySg; first | exact (if_pos (by omega)).symm | exact (if_neg (by omega)).symm) ?_
                  exact hJ11
              · refine z_aload hY eX8_readsCriterion_103 0 rfl ?_
                refine z_const hY eX8_readsCriterion_104 ?_
                refine z_callVr (As := [z_i 45]) (rest := []) (r := z_i (z_bl (ρ 4 0 = 1 ∧ ρ 6 0 = 45))) hY eX8_readsCriterion_106 (m_sgn hG hA (σ := ρ) hPr (by omega)) (mH_at hA (k := 40) (by decide)) (by decide) (Nat.le_of_ble_eq_true rfl) ⟨Nat.zero_le _, Nat.zero_le _⟩ ?_
                refine z_ifeqb hY eX8_readsCriterion_109 (fun c109 => ?_) (fun c109 => ?_)
                · refine z_aload hY eX8_readsCriterion_152 0 rfl ?_
                  refine z_dup hY eX8_readsCriterion_153 rfl ?_
                  refine m_gf hY hA eX8_readsCriterion_154 (v := z_i (ρ 13 0)) rfl ?_
                  refine z_const hY eX8_readsCriterion_157 ?_
                  refine z_iadd hY eX8_readsCriterion_158 ?_
                  refine m_pf hY hA eX8_readsCriterion_159 (by decide) ?_
                  refine z_const hY eX8_readsCriterion_162 ?_
                  exact z_zreturn hY eX8_readsCriterion_163 rfl (by omega) (by rw [hφ]; rw [show yRc σ = (1, z_u ρ 13 0 ((ρ 13 0) + 1)) from by unfold yRc; rw [if_pos hgo, if_neg hfirst, ← hn, yTl_e (by omega)]; rfl]; exact ⟨rfl, rfl⟩) ⟨Nat.zero_le _, Nat.zero_le _⟩
                · have hsg : -1 ≤ ySg ρ ∧ ySg ρ ≤ 1 := by unfold ySg; split <;> omega
                  have hJ22 : z_W Y 126 [(0, .ref (A 40)), (1, z_i t)] [z_i (ySg ρ)] (mH A ρ h) 0 0 := by
                    refine z_istore hY eX8_readsCriterion_126 (ls' := [(2, z_i (ySg ρ)), (0, .ref (A 40)), (1, z_i t)]) rfl ?_
                    refine z_aload hY eX8_readsCriterion_127 1 rfl ?_
                    refine z_callV (As := []) (rest := []) hY eX8_readsCriterion_128 (m_reads hG hA (σ := ρ) (show mP ρ from hPr).1) (mH_at hA (k := 40) (by decide)) (by decide) (Nat.le_of_ble_eq_true rfl) ⟨Nat.zero_le _, Nat.zero_le _⟩ (fun _ _ q => q.elim) (fun v23 h23 q23 => ?_)
                    obtain ⟨rfl, rfl⟩ := q23
                    have hP24 : mP (yRd ρ) := mP_r (show mP ρ from hPr)
                    obtain ⟨⟨hp1_25, hp2_25, hp4_25⟩, hp3_25, hp5_25, hp6_25⟩ := id hP24
                    have hk26 : yRd ρ 13 0 = ρ 13 0 := congrFun (yRd_k (by decide)) 0
                    refine z_iload hY eX8_readsCriterion_131 2 rfl ?_
                    refine z_const hY eX8_readsCriterion_132 ?_
                    refine z_icmpeq hY eX8_readsCriterion_133 (by omega) (fun c133 => ?_) (fun c133 => ?_)
                    · refine z_const hY eX8_readsCriterion_144 ?_
                      exact z_zreturn hY eX8_readsCriterion_145 rfl (by omega) (by rw [hφ]; rw [show yRc σ = (0, (yRd ρ)) from by unfold yRc; rw [if_pos hgo, if_neg hfirst, ← hn]; first | (rw [yTl_4 (by omega) (by omega)]; rfl) | (rw [yTl_f (by omega) (by omega) (by omega)]; rfl)]; exact ⟨rfl, rfl⟩) ⟨Nat.zero_le _, Nat.zero_le _⟩
                    · refine z_aload hY eX8_readsCriterion_136 1 rfl ?_
                      refine z_iload hY eX8_readsCriterion_137 0 rfl ?_
                      refine z_callV (As := [z_i (ySg ρ)]) (rest := []) hY eX8_readsCriterion_138 (m_readsTerm hG hA (σ := (yRd ρ)) hP24 (by omega) (s := (ySg ρ)) (by omega)) (mH_at hA (k := 40) (by decide)) (by decide) (Nat.le_of_ble_eq_true rfl) ⟨Nat.zero_le _, Nat.zero_le _⟩ (fun _ _ q => q.elim) (fun v27 h27 q27 => ?_)
                      obtain ⟨rfl, rfl⟩ := q27
                      have hP28 : mP (yRt (yRd ρ) (ySg ρ)).2 := mP_yRt hP24 (ySg ρ)
                      have h01 := yRt_01 (yRd ρ) (ySg ρ)
                      obtain ⟨⟨hp1_29, hp2_29, hp4_29⟩, hp3_29, hp5_29, hp6_29⟩ := id hP28
                      have hk30 : (yRt (yRd ρ) (ySg ρ)).2 13 0 = (yRd ρ) 13 0 := congrFun (yRt_k (by decide)) 0
                      refine z_ifne hY eX8_readsCriterion_141 (by omega) (fun c141 => ?_) (fun c141 => ?_)
                      · refine z_iinc hY eX8_readsCriterion_146 2 rfl (ls' := [(1, z_i (t + 1)), (2, z_i (ySg ρ)), (0, .ref (A 40))]) rfl ?_
                        refine z_goto hY eX8_readsCriterion_149 ?_
                        refine z_sub [2, 0] (ls' := [(0, .ref (A 40)), (1, z_i (t + 1))]) rfl ?_
                        exact ih94 (t + 1) ((yRt (yRd ρ) (ySg ρ)).2) (by omega) (by omega) (by assumption) (by omega) ((yTl_c (by omega) (by omega) (by omega)).symm.trans hn) hgo hfirst
                      · refine z_const hY eX8_readsCriterion_144 ?_
                        exact z_zreturn hY eX8_readsCriterion_145 rfl (by omega) (by rw [hφ]; rw [show yRc σ = (0, (yRt (yRd ρ) (ySg ρ)).2) from by unfold yRc; rw [if_pos hgo, if_neg hfirst, ← hn]; first | (rw [yTl_4 (by omega) (by omega)]; rfl) | (rw [yTl_f (by omega) (by omega) (by omega)]; rfl)]; exact ⟨rfl, rfl⟩) ⟨Nat.zero_le _, Nat.zero_le _⟩
                  refine z_aload hY eX8_readsCriterion_112 0 rfl ?_
                  refine m_gf hY hA eX8_readsCriterion_113 (v := z_i (ρ 6 0)) rfl ?_
                  refine z_const hY eX8_readsCriterion_116 ?_
                  refine z_icmpne hY eX8_readsCriterion_118 (by omega) (fun c118 => ?_) (fun c118 => ?_)
                  · refine z_const hY eX8_readsCriterion_125 ?_
                    refine z_top (b := ySg ρ) (by unfold ySg; first | exact (if_pos (by omega)).symm | exact (if_neg (by omega)).symm) ?_
                    exact hJ22
                  · refine z_const hY eX8_readsCriterion_121 ?_
                    refine z_goto hY eX8_readsCriterion_122 ?_
                    refine z_top (b := ySg ρ) (by unfold ySg; first | exact (if_pos (by omega)).symm | exact (if_neg (by omega)).symm) ?_
                    exact hJ22
          exact lp94 _ 1 ((yRt (yRd (yC0 σ)) 1).2) (Nat.lt_succ_self _) (by omega) (by assumption) (by omega) rfl (by omega) (by omega)
        · refine z_const hY eX8_readsCriterion_90 ?_
          exact z_zreturn hY eX8_readsCriterion_91 rfl (by omega) (by rw [hφ]; rw [show yRc σ = (0, (yRt (yRd (yC0 σ)) 1).2) from by unfold yRc; rw [if_pos (by omega), if_pos (by omega)]; unfold yNc; rw [if_pos (by omega)]; exact Prod.ext (by omega) rfl]; exact ⟨rfl, rfl⟩) ⟨Nat.zero_le _, Nat.zero_le _⟩
      · refine z_const hY eX8_readsCriterion_45 ?_
        refine z_goto hY eX8_readsCriterion_46 ?_
        refine m_bas hY hA eX8_readsCriterion_50 (j := 11) (N := 4) (by decide) (fun _ => rfl) (by omega) (by first | omega | exact z_bl01 _) ?_
        refine z_const hY eX8_readsCriterion_51 ?_
        refine z_istore hY eX8_readsCriterion_52 (ls' := [(1, z_i 0), (0, .ref (A 40))]) rfl ?_
        refine z_iload hY eX8_readsCriterion_53 0 rfl ?_
        refine z_const hY eX8_readsCriterion_54 ?_
        refine z_icmpge hY eX8_readsCriterion_55 (by omega) (fun c => absurd c (by omega)) (fun _ => ?_)
        refine z_aload hY eX8_readsCriterion_58 1 rfl ?_
        refine m_gf hY hA eX8_readsCriterion_59 (v := .ref (A 9)) rfl ?_
        refine z_const hY eX8_readsCriterion_62 ?_
        refine z_aload hY eX8_readsCriterion_63 1 rfl ?_
        refine m_gf hY hA eX8_readsCriterion_64 (v := z_i (σ 13 0)) (by simp [mF, z_u, z_ur]) ?_
        refine z_imul hY eX8_readsCriterion_67 ?_
        refine z_iload hY eX8_readsCriterion_68 0 rfl ?_
        refine z_iadd hY eX8_readsCriterion_69 ?_
        refine z_top (b := 4 * (σ 13 0)) (by omega) ?_
        refine z_const hY eX8_readsCriterion_70 ?_
        refine m_ias hY hA eX8_readsCriterion_71 (j := 9) (N := 16) (by decide) (fun _ => rfl) (by omega) ?_
        refine z_iinc hY eX8_readsCriterion_72 0 rfl (ls' := [(1, z_i (0 + 1)), (0, .ref (A 40))]) rfl ?_
        refine z_lq (ls' := [(1, z_i 1), (0, .ref (A 40))]) rfl ?_
        refine z_goto hY eX8_readsCriterion_75 ?_
        refine z_iload hY eX8_readsCriterion_53 0 rfl ?_
        refine z_const hY eX8_readsCriterion_54 ?_
        refine z_icmpge hY eX8_readsCriterion_55 (by omega) (fun c => absurd c (by omega)) (fun _ => ?_)
        refine z_aload hY eX8_readsCriterion_58 1 rfl ?_
        refine m_gf hY hA eX8_readsCriterion_59 (v := .ref (A 9)) rfl ?_
        refine z_const hY eX8_readsCriterion_62 ?_
        refine z_aload hY eX8_readsCriterion_63 1 rfl ?_
        refine m_gf hY hA eX8_readsCriterion_64 (v := z_i (σ 13 0)) (by simp [mF, z_u, z_ur]) ?_
        refine z_imul hY eX8_readsCriterion_67 ?_
        refine z_iload hY eX8_readsCriterion_68 0 rfl ?_
        refine z_iadd hY eX8_readsCriterion_69 ?_
        refine z_const hY eX8_readsCriterion_70 ?_
        refine m_ias hY hA eX8_readsCriterion_71 (j := 9) (N := 16) (by decide) (fun _ => rfl) (by omega) ?_
        refine z_iinc hY eX8_readsCriterion_72 0 rfl (ls' := [(1, z_i (1 + 1)), (0, .ref (A 40))]) rfl ?_
        refine z_lq (ls' := [(1, z_i 2), (0, .ref (A 40))]) rfl ?_
        refine z_goto hY eX8_readsCriterion_75 ?_
        refine z_iload hY eX8_readsCriterion_53 0 rfl ?_
        refine z_const hY eX8_readsCriterion_54 ?_
        refine z_icmpge hY eX8_readsCriterion_55 (by omega) (fun c => absurd c (by omega)) (fun _ => ?_)
        refine z_aload hY eX8_readsCriterion_58 1 rfl ?_
        refine m_gf hY hA eX8_readsCriterion_59 (v := .ref (A 9)) rfl ?_
        refine z_const hY eX8_readsCriterion_62 ?_
        refine z_aload hY eX8_readsCriterion_63 1 rfl ?_
        refine m_gf hY hA eX8_readsCriterion_64 (v := z_i (σ 13 0)) (by simp [mF, z_u, z_ur]) ?_
        refine z_imul hY eX8_readsCriterion_67 ?_
        refine z_iload hY eX8_readsCriterion_68 0 rfl ?_
        refine z_iadd hY eX8_readsCriterion_69 ?_
        refine z_const hY eX8_readsCriterion_70 ?_
        refine m_ias hY hA eX8_readsCriterion_71 (j := 9) (N := 16) (by decide) (fun _ => rfl) (by omega) ?_
        refine z_iinc hY eX8_readsCriterion_72 0 rfl (ls' := [(1, z_i (2 + 1)), (0, .ref (A 40))]) rfl ?_
        refine z_lq (ls' := [(1, z_i 3), (0, .ref (A 40))]) rfl ?_
        refine z_goto hY eX8_readsCriterion_75 ?_
        refine z_iload hY eX8_readsCriterion_53 0 rfl ?_
        refine z_const hY eX8_readsCriterion_54 ?_
        refine z_icmpge hY eX8_readsCriterion_55 (by omega) (fun c => absurd c (by omega)) (fun _ => ?_)
        refine z_aload hY eX8_readsCriterion_58 1 rfl ?_
        refine m_gf hY hA eX8_readsCriterion_59 (v := .ref (A 9)) rfl ?_
        refine z_const hY eX8_readsCriterion_62 ?_
        refine z_aload hY eX8_readsCriterion_63 1 rfl ?_
        refine m_gf hY hA eX8_readsCriterion_64 (v := z_i (σ 13 0)) (by simp [mF, z_u, z_ur]) ?_
        refine z_imul hY eX8_readsCriterion_67 ?_
        refine z_iload hY eX8_readsCriterion_68 0 rfl ?_
        refine z_iadd hY eX8_readsCriterion_69 ?_
        refine z_const hY eX8_readsCriterion_70 ?_
        refine m_ias hY hA eX8_readsCriterion_71 (j := 9) (N := 16) (by decide) (fun _ => rfl) (by omega) ?_
        refine z_iinc hY eX8_readsCriterion_72 0 rfl (ls' := [(1, z_i (3 + 1)), (0, .ref (A 40))]) rfl ?_
        refine z_lq (ls' := [(1, z_i 4), (0, .ref (A 40))]) rfl ?_
        refine z_goto hY eX8_readsCriterion_75 ?_
        refine z_iload hY eX8_readsCriterion_53 0 rfl ?_
        refine z_const hY eX8_readsCriterion_54 ?_
        refine z_icmpge hY eX8_readsCriterion_55 (by omega) (fun _ => ?_) (fun c => absurd c (by omega))
        refine z_heq (congrArg (fun q => mH A q h) (show z_u (z_u (z_u (z_u (z_u σ 11 (σ 13 0) 1) 9 (4 * (σ 13 0)) 0) 9 (4 * (σ 13 0) + 1) 0) 9 (4 * (σ 13 0) + 2) 0) 9 (4 * (σ 13 0) + 3) 0 = yC0 σ from by first | (exfalso; omega) | (unfold yC0; first | rw [if_pos (by omega)] | rw [if_neg (by omega)]))) ?_
        have hPc : mP (yC0 σ) := hP
        have hkc : yC0 σ 13 0 = σ 13 0 := rfl
        refine z_aload hY eX8_readsCriterion_78 1 rfl ?_
        refine z_callV (As := []) (rest := []) hY eX8_readsCriterion_79 (m_reads hG hA (σ := (yC0 σ)) (show mP (yC0 σ) from hPc).1) (mH_at hA (k := 40) (by decide)) (by decide) (Nat.le_of_ble_eq_true rfl) ⟨Nat.zero_le _, Nat.zero_le _⟩ (fun _ _ q => q.elim) (fun v32 h32 q32 => ?_)
        obtain ⟨rfl, rfl⟩ := q32
        have hP33 : mP (yRd (yC0 σ)) := mP_r (show mP (yC0 σ) from hPc)
        obtain ⟨⟨hp1_34, hp2_34, hp4_34⟩, hp3_34, hp5_34, hp6_34⟩ := id hP33
        have hk35 : yRd (yC0 σ) 13 0 = (yC0 σ) 13 0 := congrFun (yRd_k (by decide)) 0
        refine z_aload hY eX8_readsCriterion_82 1 rfl ?_
        refine z_const hY eX8_readsCriterion_83 ?_
        refine z_callV (As := [z_i 1]) (rest := []) hY eX8_readsCriterion_84 (m_readsTerm hG hA (σ := (yRd (yC0 σ))) hP33 (by omega) (s := 1) (by omega)) (mH_at hA (k := 40) (by decide)) (by decide) (Nat.le_of_ble_eq_true rfl) ⟨Nat.zero_le _, Nat.zero_le _⟩ (fun _ _ q => q.elim) (fun v36 h36 q36 => ?_)
        obtain ⟨rfl, rfl⟩ := q36
        have hP37 : mP (yRt (yRd (yC0 σ)) 1).2 := mP_yRt hP33 1
        have h01 := yRt_01 (yRd (yC0 σ)) 1
        obtain ⟨⟨hp1_38, hp2_38, hp4_38⟩, hp3_38, hp5_38, hp6_38⟩ := id hP37
        have hk39 : (yRt (yRd (yC0 σ)) 1).2 13 0 = (yRd (yC0 σ)) 13 0 := congrFun (yRt_k (by decide)) 0
        refine z_ifne hY eX8_readsCriterion_87 (by omega) (fun c87 => ?_) (fun c87 => ?_)
        · refine z_const hY eX8_readsCriterion_92 ?_
          refine z_istore hY eX8_readsCriterion_93 (ls' := [(1, z_i 1), (0, .ref (A 40))]) rfl ?_
          refine z_sub [1, 0] (ls' := [(0, .ref (A 40)), (1, z_i 1)]) rfl ?_
          have lp94 : ∀ (fu : Nat) (t : Int) (ρ : z_S), (4 - t).toNat < fu → (1 ≤ t ∧ t ≤ 4) → (mP ρ) → (ρ 13 0 ≤ 3) → (yTl (4 - t).toNat ρ = yTl 3 (yRt (yRd (yC0 σ)) 1).2) → (yGo σ) → ((yRt (yRd (yC0 σ)) 1).1 ≠ 0) → z_W Y 94 [(0, .ref (A 40)), (1, z_i t)] [] (mH A ρ h) 0 0 := by
            intro fu
            induction fu with
            | zero => intro t ρ hf; exact absurd hf (Nat.not_lt_zero _)
            | succ fu ih94 =>
              intro t ρ hf h0 hPr hnr hn hgo hfirst
              obtain ⟨⟨hp1_0, hp2_0, hp4_0⟩, hp3_0, hp5_0, hp6_0⟩ := id hPr
              refine z_aload hY eX8_readsCriterion_94 0 rfl ?_
              refine z_const hY eX8_readsCriterion_95 ?_
              refine z_callVr (As := [z_i 43]) (rest := []) (r := z_i (z_bl (ρ 4 0 = 1 ∧ ρ 6 0 = 43))) hY eX8_readsCriterion_97 (m_sgn hG hA (σ := ρ) hPr (by omega)) (mH_at hA (k := 40) (by decide)) (by decide) (Nat.le_of_ble_eq_true rfl) ⟨Nat.zero_le _, Nat.zero_le _⟩ ?_
              refine z_ifneb hY eX8_readsCriterion_100 (fun c100 => ?_) (fun c100 => ?_)
              · have hsg : -1 ≤ ySg ρ ∧ ySg ρ ≤ 1 := by unfold ySg; split <;> omega
                have hJ40 : z_W Y 126 [(0, .ref (A 40)), (1, z_i t)] [z_i (ySg ρ)] (mH A ρ h) 0 0 := by
                  refine z_istore hY eX8_readsCriterion_126 (ls' := [(2, z_i (ySg ρ)), (0, .ref (A 40)), (1, z_i t)]) rfl ?_
                  refine z_aload hY eX8_readsCriterion_127 1 rfl ?_
                  refine z_callV (As := []) (rest := []) hY eX8_readsCriterion_128 (m_reads hG hA (σ := ρ) (show mP ρ from hPr).1) (mH_at hA (k := 40) (by decide)) (by decide) (Nat.le_of_ble_eq_true rfl) ⟨Nat.zero_le _, Nat.zero_le _⟩ (fun _ _ q => q.elim) (fun v41 h41 q41 => ?_)
                  obtain ⟨rfl, rfl⟩ := q41
                  have hP42 : mP (yRd ρ) := mP_r (show mP ρ from hPr)
                  obtain ⟨⟨hp1_43, hp2_43, hp4_43⟩, hp3_43, hp5_43, hp6_43⟩ := id hP42
                  have hk44 : yRd ρ 13 0 = ρ 13 0 := congrFun (yRd_k (by decide)) 0
                  refine z_iload hY eX8_readsCriterion_131 2 rfl ?_
                  refine z_const hY eX8_readsCriterion_132 ?_
                  refine z_icmpeq hY eX8_readsCriterion_133 (by omega) (fun c133 => ?_) (fun c133 => ?_)
                  · refine z_const hY eX8_readsCriterion_144 ?_
                    exact z_zreturn hY eX8_readsCriterion_145 rfl (by omega) (by rw [hφ]; rw [show yRc σ = (0, (yRd ρ)) from by unfold yRc; rw [if_pos hgo, if_neg hfirst, ← hn]; first | (rw [yTl_4 (by omega) (by omega)]; rfl) | (rw [yTl_f (by omega) (by omega) (by omega)]; rfl)]; exact ⟨rfl, rfl⟩) ⟨Nat.zero_le _, Nat.zero_le _⟩
                  · refine z_aload hY eX8_readsCriterion_136 1 rfl ?_
                    refine z_iload hY eX8_readsCriterion_137 0 rfl ?_
                    refine z_callV (As := [z_i (ySg ρ)]) (rest := []) hY eX8_readsCriterion_138 (m_readsTerm hG hA (σ := (yRd ρ)) hP42 (by omega) (s := (ySg ρ)) (by omega)) (mH_at hA (k := 40) (by decide)) (by decide) (Nat.le_of_ble_eq_true rfl) ⟨Nat.zero_le _, Nat.zero_le _⟩ (fun _ _ q => q.elim) (fun v45 h45 q45 => ?_)
                    obtain ⟨rfl, rfl⟩ := q45
                    have hP46 : mP (yRt (yRd ρ) (ySg ρ)).2 := mP_yRt hP42 (ySg ρ)
                    have h01 := yRt_01 (yRd ρ) (ySg ρ)
                    obtain ⟨⟨hp1_47, hp2_47, hp4_47⟩, hp3_47, hp5_47, hp6_47⟩ := id hP46
                    have hk48 : (yRt (yRd ρ) (ySg ρ)).2 13 0 = (yRd ρ) 13 0 := congrFun (yRt_k (by decide)) 0
                    refine z_ifne hY eX8_readsCriterion_141 (by omega) (fun c141 => ?_) (fun c141 => ?_)
                    · refine z_iinc hY eX8_readsCriterion_146 2 rfl (ls' := [(1, z_i (t + 1)), (2, z_i (ySg ρ)), (0, .ref (A 40))]) rfl ?_
                      refine z_goto hY eX8_readsCriterion_149 ?_
                      refine z_sub [2, 0] (ls' := [(0, .ref (A 40)), (1, z_i (t + 1))]) rfl ?_
                      exact ih94 (t + 1) ((yRt (yRd ρ) (ySg ρ)).2) (by omega) (by omega) (by assumption) (by omega) ((yTl_c (by omega) (by omega) (by omega)).symm.trans hn) hgo hfirst
                    · refine z_const hY eX8_readsCriterion_144 ?_
                      exact z_zreturn hY eX8_readsCriterion_145 rfl (by omega) (by rw [hφ]; rw [show yRc σ = (0, (yRt (yRd ρ) (ySg ρ)).2) from by unfold yRc; rw [if_pos hgo, if_neg hfirst, ← hn]; first | (rw [yTl_4 (by omega) (by omega)]; rfl) | (rw [yTl_f (by omega) (by omega) (by omega)]; rfl)]; exact ⟨rfl, rfl⟩) ⟨Nat.zero_le _, Nat.zero_le _⟩
                refine z_aload hY eX8_readsCriterion_112 0 rfl ?_
                refine m_gf hY hA eX8_readsCriterion_113 (v := z_i (ρ 6 0)) rfl ?_
                refine z_const hY eX8_readsCriterion_116 ?_
                refine z_icmpne hY eX8_readsCriterion_118 (by omega) (fun c118 => ?_) (fun c118 => ?_)
                · refine z_const hY eX8_readsCriterion_125 ?_
                  refine z_top (b := ySg ρ) (by unfold ySg; first | exact (if_pos (by omega)).symm | exact (if_neg (by omega)).symm) ?_
                  exact hJ40
                · refine z_const hY eX8_readsCriterion_121 ?_
                  refine z_goto hY eX8_readsCriterion_122 ?_
                  refine z_top (b := ySg ρ) (by unfold ySg; first | exact (if_pos (by omega)).symm | exact (if_neg (by omega)).symm) ?_
                  exact hJ40
              · refine z_aload hY eX8_readsCriterion_103 0 rfl ?_
                refine z_const hY eX8_readsCriterion_104 ?_
                refine z_callVr (As := [z_i 45]) (rest := []) (r := z_i (z_bl (ρ 4 0 = 1 ∧ ρ 6 0 = 45))) hY eX8_readsCriterion_106 (m_sgn hG hA (σ := ρ) hPr (by omega)) (mH_at hA (k := 40) (by decide)) (by decide) (Nat.le_of_ble_eq_true rfl) ⟨Nat.zero_le _, Nat.zero_le _⟩ ?_
                refine z_ifeqb hY eX8_readsCriterion_109 (fun c109 => ?_) (fun c109 => ?_)
                · refine z_aload hY eX8_readsCriterion_152 0 rfl ?_
                  refine z_dup hY eX8_readsCriterion_153 rfl ?_
                  refine m_gf hY hA eX8_readsCriterion_154 (v := z_i (ρ 13 0)) rfl ?_
                  refine z_const hY eX8_readsCriterion_157 ?_
                  refine z_iadd hY eX8_readsCriterion_158 ?_
                  refine m_pf hY hA eX8_readsCriterion_159 (by decide) ?_
                  refine z_const hY eX8_readsCriterion_162 ?_
                  exact z_zreturn hY eX8_readsCriterion_163 rfl (by omega) (by rw [hφ]; rw [show yRc σ = (1, z_u ρ 13 0 ((ρ 13 0) + 1)) from by unfold yRc; rw [if_pos hgo, if_neg hfirst, ← hn, yTl_e (by omega)]; rfl]; exact ⟨rfl, rfl⟩) ⟨Nat.zero_le _, Nat.zero_le _⟩
                · have hsg : -1 ≤ ySg ρ ∧ ySg ρ ≤ 1 := by unfold ySg; split <;> omega
                  have hJ51 : z_W Y 126 [(0, .ref (A 40)), (1, z_i t)] [z_i (ySg ρ)] (mH A ρ h) 0 0 := by
                    refine z_istore hY eX8_readsCriterion_126 (ls' := [(2, z_i (ySg ρ)), (0, .ref (A 40)), (1, z_i t)]) rfl ?_
                    refine z_aload hY eX8_readsCriterion_127 1 rfl ?_
                    refine z_callV (As := []) (rest := []) hY eX8_readsCriterion_128 (m_reads hG hA (σ := ρ) (show mP ρ from hPr).1) (mH_at hA (k := 40) (by decide)) (by decide) (Nat.le_of_ble_eq_true rfl) ⟨Nat.zero_le _, Nat.zero_le _⟩ (fun _ _ q => q.elim) (fun v52 h52 q52 => ?_)
                    obtain ⟨rfl, rfl⟩ := q52
                    have hP53 : mP (yRd ρ) := mP_r (show mP ρ from hPr)
                    obtain ⟨⟨hp1_54, hp2_54, hp4_54⟩, hp3_54, hp5_54, hp6_54⟩ := id hP53
                    have hk55 : yRd ρ 13 0 = ρ 13 0 := congrFun (yRd_k (by decide)) 0
                    refine z_iload hY eX8_readsCriterion_131 2 rfl ?_
                    refine z_const hY eX8_readsCriterion_132 ?_
                    refine z_icmpeq hY eX8_readsCriterion_133 (by omega) (fun c133 => ?_) (fun c133 => ?_)
                    · refine z_const hY eX8_readsCriterion_144 ?_
                      exact z_zreturn hY eX8_readsCriterion_145 rfl (by omega) (by rw [hφ]; rw [show yRc σ = (0, (yRd ρ)) from by unfold yRc; rw [if_pos hgo, if_neg hfirst, ← hn]; first | (rw [yTl_4 (by omega) (by omega)]; rfl) | (rw [yTl_f (by omega) (by omega) (by omega)]; rfl)]; exact ⟨rfl, rfl⟩) ⟨Nat.zero_le _, Nat.zero_le _⟩
                    · refine z_aload hY eX8_readsCriterion_136 1 rfl ?_
                      refine z_iload hY eX8_readsCriterion_137 0 rfl ?_
                      refine z_callV (As := [z_i (ySg ρ)]) (rest := []) hY eX8_readsCriterion_138 (m_readsTerm hG hA (σ := (yRd ρ)) hP53 (by omega) (s := (ySg ρ)) (by omega)) (mH_at hA (k := 40) (by decide)) (by decide) (Nat.le_of_ble_eq_true rfl) ⟨Nat.zero_le _, Nat.zero_le _⟩ (fun _ _ q => q.elim) (fun v56 h56 q56 => ?_)
                      obtain ⟨rfl, rfl⟩ := q56
                      have hP57 : mP (yRt (yRd ρ) (ySg ρ)).2 := mP_yRt hP53 (ySg ρ)
                      have h01 := yRt_01 (yRd ρ) (ySg ρ)
                      obtain ⟨⟨hp1_58, hp2_58, hp4_58⟩, hp3_58, hp5_58, hp6_58⟩ := id hP57
                      have hk59 : (yRt (yRd ρ) (ySg ρ)).2 13 0 = (yRd ρ) 13 0 := congrFun (yRt_k (by decide)) 0
                      refine z_ifne hY eX8_readsCriterion_141 (by omega) (fun c141 => ?_) (fun c141 => ?_)
                      · refine z_iinc hY eX8_readsCriterion_146 2 rfl (ls' := [(1, z_i (t + 1)), (2, z_i (ySg ρ)), (0, .ref (A 40))]) rfl ?_
                        refine z_goto hY eX8_readsCriterion_149 ?_
                        refine z_sub [2, 0] (ls' := [(0, .ref (A 40)), (1, z_i (t + 1))]) rfl ?_
                        exact ih94 (t + 1) ((yRt (yRd ρ) (ySg ρ)).2) (by omega) (by omega) (by assumption) (by omega) ((yTl_c (by omega) (by omega) (by omega)).symm.trans hn) hgo hfirst
                      · refine z_const hY eX8_readsCriterion_144 ?_
                        exact z_zreturn hY eX8_readsCriterion_145 rfl (by omega) (by rw [hφ]; rw [show yRc σ = (0, (yRt (yRd ρ) (ySg ρ)).2) from by unfold yRc; rw [if_pos hgo, if_neg hfirst, ← hn]; first | (rw [yTl_4 (by omega) (by omega)]; rfl) | (rw [yTl_f (by omega) (by omega) (by omega)]; rfl)]; exact ⟨rfl, rfl⟩) ⟨Nat.zero_le _, Nat.zero_le _⟩
                  refine z_aload hY eX8_readsCriterion_112 0 rfl ?_
                  refine m_gf hY hA eX8_readsCriterion_113 (v := z_i (ρ 6 0)) rfl ?_
                  refine z_const hY eX8_readsCriterion_116 ?_
                  refine z_icmpne hY eX8_readsCriterion_118 (by omega) (fun c118 => ?_) (fun c118 => ?_)
                  · refine z_const hY eX8_readsCriterion_125 ?_
                    refine z_top (b := ySg ρ) (by unfold ySg; first | exact (if_pos (by omega)).symm | exact (if_neg (by omega)).symm) ?_
                    exact hJ51
                  · refine z_const hY eX8_readsCriterion_121 ?_
                    refine z_goto hY eX8_readsCriterion_122 ?_
                    refine z_top (b := ySg ρ) (by unfold ySg; first | exact (if_pos (by omega)).symm | exact (if_neg (by omega)).symm) ?_
                    exact hJ51
          exact lp94 _ 1 ((yRt (yRd (yC0 σ)) 1).2) (Nat.lt_succ_self _) (by omega) (by assumption) (by omega) rfl (by omega) (by omega)
        · refine z_const hY eX8_readsCriterion_90 ?_
          exact z_zreturn hY eX8_readsCriterion_91 rfl (by omega) (by rw [hφ]; rw [show yRc σ = (0, (yRt (yRd (yC0 σ)) 1).2) from by unfold yRc; rw [if_pos (by omega), if_pos (by omega)]; unfold yNc; rw [if_pos (by omega)]; exact Prod.ext (by omega) rfl]; exact ⟨rfl, rfl⟩) ⟨Nat.zero_le _, Nat.zero_le _⟩
    · refine z_const hY eX8_readsCriterion_26 ?_
      exact z_zreturn hY eX8_readsCriterion_27 rfl (by omega) (by rw [hφ]; rw [show yRc σ = (0, σ) from by unfold yRc; rw [if_neg (by omega)]]; exact ⟨rfl, rfl⟩) ⟨Nat.zero_le _, Nat.zero_le _⟩
  · refine z_aload hY eX8_readsCriterion_9 0 rfl ?_
    refine z_const hY eX8_readsCriterion_10 ?_
    refine z_callVr (As := [z_i 60]) (rest := []) (r := z_i (z_bl (σ 4 0 = 1 ∧ σ 6 0 = 60))) hY eX8_readsCriterion_12 (m_sgn hG hA (σ := σ) hP (by omega)) (mH_at hA (k := 40) (by decide)) (by decide) (Nat.le_of_ble_eq_true rfl) ⟨Nat.zero_le _, Nat.zero_le _⟩ ?_
    refine z_ifeqb hY eX8_readsCriterion_15 (fun c15 => ?_) (fun c15 => ?_)
    · refine z_const hY eX8_readsCriterion_26 ?_
      exact z_zreturn hY eX8_readsCriterion_27 rfl (by omega) (by rw [hφ]; rw [show yRc σ = (0, σ) from by unfold yRc; rw [if_neg (by omega)]]; exact ⟨rfl, rfl⟩) ⟨Nat.zero_le _, Nat.zero_le _⟩
    · refine z_aload hY eX8_readsCriterion_18 0 rfl ?_
      refine m_gf hY hA eX8_readsCriterion_19 (v := z_i (σ 13 0)) rfl ?_
      refine z_const hY eX8_readsCriterion_22 ?_
      refine z_icmpne hY eX8_readsCriterion_23 (by omega) (fun c23 => ?_) (fun c23 => ?_)
      · refine z_aload hY eX8_readsCriterion_28 0 rfl ?_
        refine m_gf hY hA eX8_readsCriterion_29 (v := .ref (A 11)) rfl ?_
        refine z_aload hY eX8_readsCriterion_32 0 rfl ?_
        refine m_gf hY hA eX8_readsCriterion_33 (v := z_i (σ 13 0)) rfl ?_
        refine z_aload hY eX8_readsCriterion_36 0 rfl ?_
        refine m_gf hY hA eX8_readsCriterion_37 (v := z_i (σ 6 0)) rfl ?_
        refine z_const hY eX8_readsCriterion_40 ?_
        refine z_icmpne hY eX8_readsCriterion_42 (by omega) (fun c42 => ?_) (fun c42 => ?_)
        · refine z_const hY eX8_readsCriterion_49 ?_
          refine m_bas hY hA eX8_readsCriterion_50 (j := 11) (N := 4) (by decide) (fun _ => rfl) (by omega) (by first | omega | exact z_bl01 _) ?_
          refine z_const hY eX8_readsCriterion_51 ?_
          refine z_istore hY eX8_readsCriterion_52 (ls' := [(1, z_i 0), (0, .ref (A 40))]) rfl ?_
          refine z_iload hY eX8_readsCriterion_53 0 rfl ?_
          refine z_const hY eX8_readsCriterion_54 ?_
          refine z_icmpge hY eX8_readsCriterion_55 (by omega) (fun c => absurd c (by omega)) (fun _ => ?_)
          refine z_aload hY eX8_readsCriterion_58 1 rfl ?_
          refine m_gf hY hA eX8_readsCriterion_59 (v := .ref (A 9)) rfl ?_
          refine z_const hY eX8_readsCriterion_62 ?_
          refine z_aload hY eX8_readsCriterion_63 1 rfl ?_
          refine m_gf hY hA eX8_readsCriterion_64 (v := z_i (σ 13 0)) (by simp [mF, z_u, z_ur]) ?_
          refine z_imul hY eX8_readsCriterion_67 ?_
          refine z_iload hY eX8_readsCriterion_68 0 rfl ?_
          refine z_iadd hY eX8_readsCriterion_69 ?_
          refine z_top (b := 4 * (σ 13 0)) (by omega) ?_
          refine z_const hY eX8_readsCriterion_70 ?_
          refine m_ias hY hA eX8_readsCriterion_71 (j := 9) (N := 16) (by decide) (fun _ => rfl) (by omega) ?_
          refine z_iinc hY eX8_readsCriterion_72 0 rfl (ls' := [(1, z_i (0 + 1)), (0, .ref (A 40))]) rfl ?_
          refine z_lq (ls' := [(1, z_i 1), (0, .ref (A 40))]) rfl ?_
          refine z_goto hY eX8_readsCriterion_75 ?_
          refine z_iload hY eX8_readsCriterion_53 0 rfl ?_
          refine z_const hY eX8_readsCriterion_54 ?_
          refine z_icmpge hY eX8_readsCriterion_55 (by omega) (fun c => absurd c (by omega)) (fun _ => ?_)
          refine z_aload hY eX8_readsCriterion_58 1 rfl ?_
          refine m_gf hY hA eX8_readsCriterion_59 (v := .ref (A 9)) rfl ?_
          refine z_const hY eX8_readsCriterion_62 ?_
          refine z_aload hY eX8_readsCriterion_63 1 rfl ?_
          refine m_gf hY hA eX8_readsCriterion_64 (v := z_i (σ 13 0)) (by simp [mF, z_u, z_ur]) ?_
          refine z_imul hY eX8_readsCriterion_67 ?_
          refine z_iload hY eX8_readsCriterion_68 0 rfl ?_
          refine z_iadd hY eX8_readsCriterion_69 ?_
          refine z_const hY eX8_readsCriterion_70 ?_
          refine m_ias hY hA eX8_readsCriterion_71 (j := 9) (N := 16) (by decide) (fun _ => rfl) (by omega) ?_
          refine z_iinc hY eX8_readsCriterion_72 0 rfl (ls' := [(1, z_i (1 + 1)), (0, .ref (A 40))]) rfl ?_
          refine z_lq (ls' := [(1, z_i 2), (0, .ref (A 40))]) rfl ?_
          refine z_goto hY eX8_readsCriterion_75 ?_
          refine z_iload hY eX8_readsCriterion_53 0 rfl ?_
          refine z_const hY eX8_readsCriterion_54 ?_
          refine z_icmpge hY eX8_readsCriterion_55 (by omega) (fun c => absurd c (by omega)) (fun _ => ?_)
          refine z_aload hY eX8_readsCriterion_58 1 rfl ?_
          refine m_gf hY hA eX8_readsCriterion_59 (v := .ref (A 9)) rfl ?_
          refine z_const hY eX8_readsCriterion_62 ?_
          refine z_aload hY eX8_readsCriterion_63 1 rfl ?_
          refine m_gf hY hA eX8_readsCriterion_64 (v := z_i (σ 13 0)) (by simp [mF, z_u, z_ur]) ?_
          refine z_imul hY eX8_readsCriterion_67 ?_
          refine z_iload hY eX8_readsCriterion_68 0 rfl ?_
          refine z_iadd hY eX8_readsCriterion_69 ?_
          refine z_const hY eX8_readsCriterion_70 ?_
          refine m_ias hY hA eX8_readsCriterion_71 (j := 9) (N := 16) (by decide) (fun _ => rfl) (by omega) ?_
          refine z_iinc hY eX8_readsCriterion_72 0 rfl (ls' := [(1, z_i (2 + 1)), (0, .ref (A 40))]) rfl ?_
          refine z_lq (ls' := [(1, z_i 3), (0, .ref (A 40))]) rfl ?_
          refine z_goto hY eX8_readsCriterion_75 ?_
          refine z_iload hY eX8_readsCriterion_53 0 rfl ?_
          refine z_const hY eX8_readsCriterion_54 ?_
          refine z_icmpge hY eX8_readsCriterion_55 (by omega) (fun c => absurd c (by omega)) (fun _ => ?_)
          refine z_aload hY eX8_readsCriterion_58 1 rfl ?_
          refine m_gf hY hA eX8_readsCriterion_59 (v := .ref (A 9)) rfl ?_
          refine z_const hY eX8_readsCriterion_62 ?_
          refine z_aload hY eX8_readsCriterion_63 1 rfl ?_
          refine m_gf hY hA eX8_readsCriterion_64 (v := z_i (σ 13 0)) (by simp [mF, z_u, z_ur]) ?_
          refine z_imul hY eX8_readsCriterion_67 ?_
          refine z_iload hY eX8_readsCriterion_68 0 rfl ?_
          refine z_iadd hY eX8_readsCriterion_69 ?_
          refine z_const hY eX8_readsCriterion_70 ?_
          refine m_ias hY hA eX8_readsCriterion_71 (j := 9) (N := 16) (by decide) (fun _ => rfl) (by omega) ?_
          refine z_iinc hY eX8_readsCriterion_72 0 rfl (ls' := [(1, z_i (3 + 1)), (0, .ref (A 40))]) rfl ?_
          refine z_lq (ls' := [(1, z_i 4), (0, .ref (A 40))]) rfl ?_
          refine z_goto hY eX8_readsCriterion_75 ?_
          refine z_iload hY eX8_readsCriterion_53 0 rfl ?_
          refine z_const hY eX8_readsCriterion_54 ?_
          refine z_icmpge hY eX8_readsCriterion_55 (by omega) (fun _ => ?_) (fun c => absurd c (by omega))
          refine z_heq (congrArg (fun q => mH A q h) (show z_u (z_u (z_u (z_u (z_u σ 11 (σ 13 0) 0) 9 (4 * (σ 13 0)) 0) 9 (4 * (σ 13 0) + 1) 0) 9 (4 * (σ 13 0) + 2) 0) 9 (4 * (σ 13 0) + 3) 0 = yC0 σ from by first | (exfalso; omega) | (unfold yC0; first | rw [if_pos (by omega)] | rw [if_neg (by omega)]))) ?_
          have hPc : mP (yC0 σ) := hP
          have hkc : yC0 σ 13 0 = σ 13 0 := rfl
          refine z_aload hY eX8_readsCriterion_78 1 rfl ?_
          refine z_callV (As := []) (rest := []) hY eX8_readsCriterion_79 (m_reads hG hA (σ := (yC0 σ)) (show mP (yC0 σ) from hPc).1) (mH_at hA (k := 40) (by decide)) (by decide) (Nat.le_of_ble_eq_true rfl) ⟨Nat.zero_le _, Nat.zero_le _⟩ (fun _ _ q => q.elim) (fun v63 h63 q63 => ?_)
          obtain ⟨rfl, rfl⟩ := q63
          have hP64 : mP (yRd (yC0 σ)) := mP_r (show mP (yC0 σ) from hPc)
          obtain ⟨⟨hp1_65, hp2_65, hp4_65⟩, hp3_65, hp5_65, hp6_65⟩ := id hP64
          have hk66 : yRd (yC0 σ) 13 0 = (yC0 σ) 13 0 := congrFun (yRd_k (by decide)) 0
          refine z_aload hY eX8_readsCriterion_82 1 rfl ?_
          refine z_const hY eX8_readsCriterion_83 ?_
          refine z_callV (As := [z_i 1]) (rest := []) hY eX8_readsCriterion_84 (m_readsTerm hG hA (σ := (yRd (yC0 σ))) hP64 (by omega) (s := 1) (by omega)) (mH_at hA (k := 40) (by decide)) (by decide) (Nat.le_of_ble_eq_true rfl) ⟨Nat.zero_le _, Nat.zero_le _⟩ (fun _ _ q => q.elim) (fun v67 h67 q67 => ?_)
          obtain ⟨rfl, rfl⟩ := q67
          have hP68 : mP (yRt (yRd (yC0 σ)) 1).2 := mP_yRt hP64 1
          have h01 := yRt_01 (yRd (yC0 σ)) 1
          obtain ⟨⟨hp1_69, hp2_69, hp4_69⟩, hp3_69, hp5_69, hp6_69⟩ := id hP68
          have hk70 : (yRt (yRd (yC0 σ)) 1).2 13 0 = (yRd (yC0 σ)) 13 0 := congrFun (yRt_k (by decide)) 0
          refine z_ifne hY eX8_readsCriterion_87 (by omega) (fun c87 => ?_) (fun c87 => ?_)
          · refine z_const hY eX8_readsCriterion_92 ?_
            refine z_istore hY eX8_readsCriterion_93 (ls' := [(1, z_i 1), (0, .ref (A 40))]) rfl ?_
            refine z_sub [1, 0] (ls' := [(0, .ref (A 40)), (1, z_i 1)]) rfl ?_
            have lp94 : ∀ (fu : Nat) (t : Int) (ρ : z_S), (4 - t).toNat < fu → (1 ≤ t ∧ t ≤ 4) → (mP ρ) → (ρ 13 0 ≤ 3) → (yTl (4 - t).toNat ρ = yTl 3 (yRt (yRd (yC0 σ)) 1).2) → (yGo σ) → ((yRt (yRd (yC0 σ)) 1).1 ≠ 0) → z_W Y 94 [(0, .ref (A 40)), (1, z_i t)] [] (mH A ρ h) 0 0 := by
              intro fu
              induction fu with
              | zero => intro t ρ hf; exact absurd hf (Nat.not_lt_zero _)
              | succ fu ih94 =>
                intro t ρ hf h0 hPr hnr hn hgo hfirst
                obtain ⟨⟨hp1_0, hp2_0, hp4_0⟩, hp3_0, hp5_0, hp6_0⟩ := id hPr
                refine z_aload hY eX8_readsCriterion_94 0 rfl ?_
                refine z_const hY eX8_readsCriterion_95 ?_
                refine z_callVr (As := [z_i 43]) (rest := []) (r := z_i (z_bl (ρ 4 0 = 1 ∧ ρ 6 0 = 43))) hY eX8_readsCriterion_97 (m_sgn hG hA (σ := ρ) hPr (by omega)) (mH_at hA (k := 40) (by decide)) (by decide) (Nat.le_of_ble_eq_true rfl) ⟨Nat.zero_le _, Nat.zero_le _⟩ ?_
                refine z_ifneb hY eX8_readsCriterion_100 (fun c100 => ?_) (fun c100 => ?_)
                · have hsg : -1 ≤ ySg ρ ∧ ySg ρ ≤ 1 := by unfold ySg; split <;> omega
                  have hJ71 : z_W Y 126 [(0, .ref (A 40)), (1, z_i t)] [z_i (ySg ρ)] (mH A ρ h) 0 0 := by
                    refine z_istore hY eX8_readsCriterion_126 (ls' := [(2, z_i (ySg ρ)), (0, .ref (A 40)), (1, z_i t)]) rfl ?_
                    refine z_aload hY eX8_readsCriterion_127 1 rfl ?_
                    refine z_callV (As := []) (rest := []) hY eX8_readsCriterion_128 (m_reads hG hA (σ := ρ) (show mP ρ from hPr).1) (mH_at hA (k := 40) (by decide)) (by decide) (Nat.le_of_ble_eq_true rfl) ⟨Nat.zero_le _, Nat.zero_le _⟩ (fun _ _ q => q.elim) (fun v72 h72 q72 => ?_)
                    obtain ⟨rfl, rfl⟩ := q72
                    have hP73 : mP (yRd ρ) := mP_r (show mP ρ from hPr)
                    obtain ⟨⟨hp1_74, hp2_74, hp4_74⟩, hp3_74, hp5_74, hp6_74⟩ := id hP73
                    have hk75 : yRd ρ 13 0 = ρ 13 0 := congrFun (yRd_k (by decide)) 0
                    refine z_iload hY eX8_readsCriterion_131 2 rfl ?_
                    refine z_const hY eX8_readsCriterion_132 ?_
                    refine z_icmpeq hY eX8_readsCriterion_133 (by omega) (fun c133 => ?_) (fun c133 => ?_)
                    · refine z_const hY eX8_readsCriterion_144 ?_
                      exact z_zreturn hY eX8_readsCriterion_145 rfl (by omega) (by rw [hφ]; rw [show yRc σ = (0, (yRd ρ)) from by unfold yRc; rw [if_pos hgo, if_neg hfirst, ← hn]; first | (rw [yTl_4 (by omega) (by omega)]; rfl) | (rw [yTl_f (by omega) (by omega) (by omega)]; rfl)]; exact ⟨rfl, rfl⟩) ⟨Nat.zero_le _, Nat.zero_le _⟩
                    · refine z_aload hY eX8_readsCriterion_136 1 rfl ?_
                      refine z_iload hY eX8_readsCriterion_137 0 rfl ?_
                      refine z_callV (As := [z_i (ySg ρ)]) (rest := []) hY eX8_readsCriterion_138 (m_readsTerm hG hA (σ := (yRd ρ)) hP73 (by omega) (s := (ySg ρ)) (by omega)) (mH_at hA (k := 40) (by decide)) (by decide) (Nat.le_of_ble_eq_true rfl) ⟨Nat.zero_le _, Nat.zero_le _⟩ (fun _ _ q => q.elim) (fun v76 h76 q76 => ?_)
                      obtain ⟨rfl, rfl⟩ := q76
                      have hP77 : mP (yRt (yRd ρ) (ySg ρ)).2 := mP_yRt hP73 (ySg ρ)
                      have h01 := yRt_01 (yRd ρ) (ySg ρ)
                      obtain ⟨⟨hp1_78, hp2_78, hp4_78⟩, hp3_78, hp5_78, hp6_78⟩ := id hP77
                      have hk79 : (yRt (yRd ρ) (ySg ρ)).2 13 0 = (yRd ρ) 13 0 := congrFun (yRt_k (by decide)) 0
                      refine z_ifne hY eX8_readsCriterion_141 (by omega) (fun c141 => ?_) (fun c141 => ?_)
                      · refine z_iinc hY eX8_readsCriterion_146 2 rfl (ls' := [(1, z_i (t + 1)), (2, z_i (ySg ρ)), (0, .ref (A 40))]) rfl ?_
                        refine z_goto hY eX8_readsCriterion_149 ?_
                        refine z_sub [2, 0] (ls' := [(0, .ref (A 40)), (1, z_i (t + 1))]) rfl ?_
                        exact ih94 (t + 1) ((yRt (yRd ρ) (ySg ρ)).2) (by omega) (by omega) (by assumption) (by omega) ((yTl_c (by omega) (by omega) (by omega)).symm.trans hn) hgo hfirst
                      · refine z_const hY eX8_readsCriterion_144 ?_
                        exact z_zreturn hY eX8_readsCriterion_145 rfl (by omega) (by rw [hφ]; rw [show yRc σ = (0, (yRt (yRd ρ) (ySg ρ)).2) from by unfold yRc; rw [if_pos hgo, if_neg hfirst, ← hn]; first | (rw [yTl_4 (by omega) (by omega)]; rfl) | (rw [yTl_f (by omega) (by omega) (by omega)]; rfl)]; exact ⟨rfl, rfl⟩) ⟨Nat.zero_le _, Nat.zero_le _⟩
                  refine z_aload hY eX8_readsCriterion_112 0 rfl ?_
                  refine m_gf hY hA eX8_readsCriterion_113 (v := z_i (ρ 6 0)) rfl ?_
                  refine z_const hY eX8_readsCriterion_116 ?_
                  refine z_icmpne hY eX8_readsCriterion_118 (by omega) (fun c118 => ?_) (fun c118 => ?_)
                  · refine z_const hY eX8_readsCriterion_125 ?_
                    refine z_top (b := ySg ρ) (by unfold ySg; first | exact (if_pos (by omega)).symm | exact (if_neg (by omega)).symm) ?_
                    exact hJ71
                  · refine z_const hY eX8_readsCriterion_121 ?_
                    refine z_goto hY eX8_readsCriterion_122 ?_
                    refine z_top (b := ySg ρ) (by unfold ySg; first | exact (if_pos (by omega)).symm | exact (if_neg (by omega)).symm) ?_
                    exact hJ71
                · refine z_aload hY eX8_readsCriterion_103 0 rfl ?_
                  refine z_const hY eX8_readsCriterion_104 ?_
                  refine z_callVr (As := [z_i 45]) (rest := []) (r := z_i (z_bl (ρ 4 0 = 1 ∧ ρ 6 0 = 45))) hY eX8_readsCriterion_106 (m_sgn hG hA (σ := ρ) hPr (by omega)) (mH_at hA (k := 40) (by decide)) (by decide) (Nat.le_of_ble_eq_true rfl) ⟨Nat.zero_le _, Nat.zero_le _⟩ ?_
                  refine z_ifeqb hY eX8_readsCriterion_109 (fun c109 => ?_) (fun c109 => ?_)
                  · refine z_aload hY eX8_readsCriterion_152 0 rfl ?_
                    refine z_dup hY eX8_readsCriterion_153 rfl ?_
                    refine m_gf hY hA eX8_readsCriterion_154 (v := z_i (ρ 13 0)) rfl ?_
                    refine z_const hY eX8_readsCriterion_157 ?_
                    refine z_iadd hY eX8_readsCriterion_158 ?_
                    refine m_pf hY hA eX8_readsCriterion_159 (by decide) ?_
                    refine z_const hY eX8_readsCriterion_162 ?_
                    exact z_zreturn hY eX8_readsCriterion_163 rfl (by omega) (by rw [hφ]; rw [show yRc σ = (1, z_u ρ 13 0 ((ρ 13 0) + 1)) from by unfold yRc; rw [if_pos hgo, if_neg hfirst, ← hn, yTl_e (by omega)]; rfl]; exact ⟨rfl, rfl⟩) ⟨Nat.zero_le _, Nat.zero_le _⟩
                  · have hsg : -1 ≤ ySg ρ ∧ ySg ρ ≤ 1 := by unfold ySg; split <;> omega
                    have hJ82 : z_W Y 126 [(0, .ref (A 40)), (1, z_i t)] [z_i (ySg ρ)] (mH A ρ h) 0 0 := by
                      refine z_istore hY eX8_readsCriterion_126 (ls' := [(2, z_i (ySg ρ)), (0, .ref (A 40)), (1, z_i t)]) rfl ?_
                      refine z_aload hY eX8_readsCriterion_127 1 rfl ?_
                      refine z_callV (As := []) (rest := []) hY eX8_readsCriterion_128 (m_reads hG hA (σ := ρ) (show mP ρ from hPr).1) (mH_at hA (k := 40) (by decide)) (by decide) (Nat.le_of_ble_eq_true rfl) ⟨Nat.zero_le _, Nat.zero_le _⟩ (fun _ _ q => q.elim) (fun v83 h83 q83 => ?_)
                      obtain ⟨rfl, rfl⟩ := q83
                      have hP84 : mP (yRd ρ) := mP_r (show mP ρ from hPr)
                      obtain ⟨⟨hp1_85, hp2_85, hp4_85⟩, hp3_85, hp5_85, hp6_85⟩ := id hP84
                      have hk86 : yRd ρ 13 0 = ρ 13 0 := congrFun (yRd_k (by decide)) 0
                      refine z_iload hY eX8_readsCriterion_131 2 rfl ?_
                      refine z_const hY eX8_readsCriterion_132 ?_
                      refine z_icmpeq hY eX8_readsCriterion_133 (by omega) (fun c133 => ?_) (fun c133 => ?_)
                      · refine z_const hY eX8_readsCriterion_144 ?_
                        exact z_zreturn hY eX8_readsCriterion_145 rfl (by omega) (by rw [hφ]; rw [show yRc σ = (0, (yRd ρ)) from by unfold yRc; rw [if_pos hgo, if_neg hfirst, ← hn]; first | (rw [yTl_4 (by omega) (by omega)]; rfl) | (rw [yTl_f (by omega) (by omega) (by omega)]; rfl)]; exact ⟨rfl, rfl⟩) ⟨Nat.zero_le _, Nat.zero_le _⟩
                      · refine z_aload hY eX8_readsCriterion_136 1 rfl ?_
                        refine z_iload hY eX8_readsCriterion_137 0 rfl ?_
                        refine z_callV (As := [z_i (ySg ρ)]) (rest := []) hY eX8_readsCriterion_138 (m_readsTerm hG hA (σ := (yRd ρ)) hP84 (by omega) (s := (ySg ρ)) (by omega)) (mH_at hA (k := 40) (by decide)) (by decide) (Nat.le_of_ble_eq_true rfl) ⟨Nat.zero_le _, Nat.zero_le _⟩ (fun _ _ q => q.elim) (fun v87 h87 q87 => ?_)
                        obtain ⟨rfl, rfl⟩ := q87
                        have hP88 : mP (yRt (yRd ρ) (ySg ρ)).2 := mP_yRt hP84 (ySg ρ)
                        have h01 := yRt_01 (yRd ρ) (ySg ρ)
                        obtain ⟨⟨hp1_89, hp2_89, hp4_89⟩, hp3_89, hp5_89, hp6_89⟩ := id hP88
                        have hk90 : (yRt (yRd ρ) (ySg ρ)).2 13 0 = (yRd ρ) 13 0 := congrFun (yRt_k (by decide)) 0
                        refine z_ifne hY eX8_readsCriterion_141 (by omega) (fun c141 => ?_) (fun c141 => ?_)
                        · refine z_iinc hY eX8_readsCriterion_146 2 rfl (ls' := [(1, z_i (t + 1)), (2, z_i (ySg ρ)), (0, .ref (A 40))]) rfl ?_
                          refine z_goto hY eX8_readsCriterion_149 ?_
                          refine z_sub [2, 0] (ls' := [(0, .ref (A 40)), (1, z_i (t + 1))]) rfl ?_
                          exact ih94 (t + 1) ((yRt (yRd ρ) (ySg ρ)).2) (by omega) (by omega) (by assumption) (by omega) ((yTl_c (by omega) (by omega) (by omega)).symm.trans hn) hgo hfirst
                        · refine z_const hY eX8_readsCriterion_144 ?_
                          exact z_zreturn hY eX8_readsCriterion_145 rfl (by omega) (by rw [hφ]; rw [show yRc σ = (0, (yRt (yRd ρ) (ySg ρ)).2) from by unfold yRc; rw [if_pos hgo, if_neg hfirst, ← hn]; first | (rw [yTl_4 (by omega) (by omega)]; rfl) | (rw [yTl_f (by omega) (by omega) (by omega)]; rfl)]; exact ⟨rfl, rfl⟩) ⟨Nat.zero_le _, Nat.zero_le _⟩
                    refine z_aload hY eX8_readsCriterion_112 0 rfl ?_
                    refine m_gf hY hA eX8_readsCriterion_113 (v := z_i (ρ 6 0)) rfl ?_
                    refine z_const hY eX8_readsCriterion_116 ?_
                    refine z_icmpne hY eX8_readsCriterion_118 (by omega) (fun c118 => ?_) (fun c118 => ?_)
                    · refine z_const hY eX8_readsCriterion_125 ?_
                      refine z_top (b := ySg ρ) (by unfold ySg; first | exact (if_pos (by omega)).symm | exact (if_neg (by omega)).symm) ?_
                      exact hJ82
                    · refine z_const hY eX8_readsCriterion_121 ?_
                      refine z_goto hY eX8_readsCriterion_122 ?_
                      refine z_top (b := ySg ρ) (by unfold ySg; first | exact (if_pos (by omega)).symm | exact (if_neg (by omega)).symm) ?_
                      exact hJ82
            exact lp94 _ 1 ((yRt (yRd (yC0 σ)) 1).2) (Nat.lt_succ_self _) (by omega) (by assumption) (by omega) rfl (by omega) (by omega)
          · refine z_const hY eX8_readsCriterion_90 ?_
            exact z_zreturn hY eX8_readsCriterion_91 rfl (by omega) (by rw [hφ]; rw [show yRc σ = (0, (yRt (yRd (yC0 σ)) 1).2) from by unfold yRc; rw [if_pos (by omega), if_pos (by omega)]; unfold yNc; rw [if_pos (by omega)]; exact Prod.ext (by omega) rfl]; exact ⟨rfl, rfl⟩) ⟨Nat.zero_le _, Nat.zero_le _⟩
        · refine z_const hY eX8_readsCriterion_45 ?_
          refine z_goto hY eX8_readsCriterion_46 ?_
          refine m_bas hY hA eX8_readsCriterion_50 (j := 11) (N := 4) (by decide) (fun _ => rfl) (by omega) (by first | omega | exact z_bl01 _) ?_
          refine z_const hY eX8_readsCriterion_51 ?_
          refine z_istore hY eX8_readsCriterion_52 (ls' := [(1, z_i 0), (0, .ref (A 40))]) rfl ?_
          refine z_iload hY eX8_readsCriterion_53 0 rfl ?_
          refine z_const hY eX8_readsCriterion_54 ?_
          refine z_icmpge hY eX8_readsCriterion_55 (by omega) (fun c => absurd c (by omega)) (fun _ => ?_)
          refine z_aload hY eX8_readsCriterion_58 1 rfl ?_
          refine m_gf hY hA eX8_readsCriterion_59 (v := .ref (A 9)) rfl ?_
          refine z_const hY eX8_readsCriterion_62 ?_
          refine z_aload hY eX8_readsCriterion_63 1 rfl ?_
          refine m_gf hY hA eX8_readsCriterion_64 (v := z_i (σ 13 0)) (by simp [mF, z_u, z_ur]) ?_
          refine z_imul hY eX8_readsCriterion_67 ?_
          refine z_iload hY eX8_readsCriterion_68 0 rfl ?_
          refine z_iadd hY eX8_readsCriterion_69 ?_
          refine z_top (b := 4 * (σ 13 0)) (by omega) ?_
          refine z_const hY eX8_readsCriterion_70 ?_
          refine m_ias hY hA eX8_readsCriterion_71 (j := 9) (N := 16) (by decide) (fun _ => rfl) (by omega) ?_
          refine z_iinc hY eX8_readsCriterion_72 0 rfl (ls' := [(1, z_i (0 + 1)), (0, .ref (A 40))]) rfl ?_
          refine z_lq (ls' := [(1, z_i 1), (0, .ref (A 40))]) rfl ?_
          refine z_goto hY eX8_readsCriterion_75 ?_
          refine z_iload hY eX8_readsCriterion_53 0 rfl ?_
          refine z_const hY eX8_readsCriterion_54 ?_
          refine z_icmpge hY eX8_readsCriterion_55 (by omega) (fun c => absurd c (by omega)) (fun _ => ?_)
          refine z_aload hY eX8_readsCriterion_58 1 rfl ?_
          refine m_gf hY hA eX8_readsCriterion_59 (v := .ref (A 9)) rfl ?_
          refine z_const hY eX8_readsCriterion_62 ?_
          refine z_aload hY eX8_readsCriterion_63 1 rfl ?_
          refine m_gf hY hA eX8_readsCriterion_64 (v := z_i (σ 13 0)) (by simp [mF, z_u, z_ur]) ?_
          refine z_imul hY eX8_readsCriterion_67 ?_
          refine z_iload hY eX8_readsCriterion_68 0 rfl ?_
          refine z_iadd hY eX8_readsCriterion_69 ?_
          refine z_const hY eX8_readsCriterion_70 ?_
          refine m_ias hY hA eX8_readsCriterion_71 (j := 9) (N := 16) (by decide) (fun _ => rfl) (by omega) ?_
          refine z_iinc hY eX8_readsCriterion_72 0 rfl (ls' := [(1, z_i (1 + 1)), (0, .ref (A 40))]) rfl ?_
          refine z_lq (ls' := [(1, z_i 2), (0, .ref (A 40))]) rfl ?_
          refine z_goto hY eX8_readsCriterion_75 ?_
          refine z_iload hY eX8_readsCriterion_53 0 rfl ?_
          refine z_const hY eX8_readsCriterion_54 ?_
          refine z_icmpge hY eX8_readsCriterion_55 (by omega) (fun c => absurd c (by omega)) (fun _ => ?_)
          refine z_aload hY eX8_readsCriterion_58 1 rfl ?_
          refine m_gf hY hA eX8_readsCriterion_59 (v := .ref (A 9)) rfl ?_
          refine z_const hY eX8_readsCriterion_62 ?_
          refine z_aload hY eX8_readsCriterion_63 1 rfl ?_
          refine m_gf hY hA eX8_readsCriterion_64 (v := z_i (σ 13 0)) (by simp [mF, z_u, z_ur]) ?_
          refine z_imul hY eX8_readsCriterion_67 ?_
          refine z_iload hY eX8_readsCriterion_68 0 rfl ?_
          refine z_iadd hY eX8_readsCriterion_69 ?_
          refine z_const hY eX8_readsCriterion_70 ?_
          refine m_ias hY hA eX8_readsCriterion_71 (j := 9) (N := 16) (by decide) (fun _ => rfl) (by omega) ?_
          refine z_iinc hY eX8_readsCriterion_72 0 rfl (ls' := [(1, z_i (2 + 1)), (0, .ref (A 40))]) rfl ?_
          refine z_lq (ls' := [(1, z_i 3), (0, .ref (A 40))]) rfl ?_
          refine z_goto hY eX8_readsCriterion_75 ?_
          refine z_iload hY eX8_readsCriterion_53 0 rfl ?_
          refine z_const hY eX8_readsCriterion_54 ?_
          refine z_icmpge hY eX8_readsCriterion_55 (by omega) (fun c => absurd c (by omega)) (fun _ => ?_)
          refine z_aload hY eX8_readsCriterion_58 1 rfl ?_
          refine m_gf hY hA eX8_readsCriterion_59 (v := .ref (A 9)) rfl ?_
          refine z_const hY eX8_readsCriterion_62 ?_
          refine z_aload hY eX8_readsCriterion_63 1 rfl ?_
          refine m_gf hY hA eX8_readsCriterion_64 (v := z_i (σ 13 0)) (by simp [mF, z_u, z_ur]) ?_
          refine z_imul hY eX8_readsCriterion_67 ?_
          refine z_iload hY eX8_readsCriterion_68 0 rfl ?_
          refine z_iadd hY eX8_readsCriterion_69 ?_
          refine z_const hY eX8_readsCriterion_70 ?_
          refine m_ias hY hA eX8_readsCriterion_71 (j := 9) (N := 16) (by decide) (fun _ => rfl) (by omega) ?_
          refine z_iinc hY eX8_readsCriterion_72 0 rfl (ls' := [(1, z_i (3 + 1)), (0, .ref (A 40))]) rfl ?_
          refine z_lq (ls' := [(1, z_i 4), (0, .ref (A 40))]) rfl ?_
          refine z_goto hY eX8_readsCriterion_75 ?_
          refine z_iload hY eX8_readsCriterion_53 0 rfl ?_
          refine z_const hY eX8_readsCriterion_54 ?_
          refine z_icmpge hY eX8_readsCriterion_55 (by omega) (fun _ => ?_) (fun c => absurd c (by omega))
          refine z_heq (congrArg (fun q => mH A q h) (show z_u (z_u (z_u (z_u (z_u σ 11 (σ 13 0) 1) 9 (4 * (σ 13 0)) 0) 9 (4 * (σ 13 0) + 1) 0) 9 (4 * (σ 13 0) + 2) 0) 9 (4 * (σ 13 0) + 3) 0 = yC0 σ from by first | (exfalso; omega) | (unfold yC0; first | rw [if_pos (by omega)] | rw [if_neg (by omega)]))) ?_
          have hPc : mP (yC0 σ) := hP
          have hkc : yC0 σ 13 0 = σ 13 0 := rfl
          refine z_aload hY eX8_readsCriterion_78 1 rfl ?_
          refine z_callV (As := []) (rest := []) hY eX8_readsCriterion_79 (m_reads hG hA (σ := (yC0 σ)) (show mP (yC0 σ) from hPc).1) (mH_at hA (k := 40) (by decide)) (by decide) (Nat.le_of_ble_eq_true rfl) ⟨Nat.zero_le _, Nat.zero_le _⟩ (fun _ _ q => q.elim) (fun v92 h92 q92 => ?_)
          obtain ⟨rfl, rfl⟩ := q92
          have hP93 : mP (yRd (yC0 σ)) := mP_r (show mP (yC0 σ) from hPc)
          obtain ⟨⟨hp1_94, hp2_94, hp4_94⟩, hp3_94, hp5_94, hp6_94⟩ := id hP93
          have hk95 : yRd (yC0 σ) 13 0 = (yC0 σ) 13 0 := congrFun (yRd_k (by decide)) 0
          refine z_aload hY eX8_readsCriterion_82 1 rfl ?_
          refine z_const hY eX8_readsCriterion_83 ?_
          refine z_callV (As := [z_i 1]) (rest := []) hY eX8_readsCriterion_84 (m_readsTerm hG hA (σ := (yRd (yC0 σ))) hP93 (by omega) (s := 1) (by omega)) (mH_at hA (k := 40) (by decide)) (by decide) (Nat.le_of_ble_eq_true rfl) ⟨Nat.zero_le _, Nat.zero_le _⟩ (fun _ _ q => q.elim) (fun v96 h96 q96 => ?_)
          obtain ⟨rfl, rfl⟩ := q96
          have hP97 : mP (yRt (yRd (yC0 σ)) 1).2 := mP_yRt hP93 1
          have h01 := yRt_01 (yRd (yC0 σ)) 1
          obtain ⟨⟨hp1_98, hp2_98, hp4_98⟩, hp3_98, hp5_98, hp6_98⟩ := id hP97
          have hk99 : (yRt (yRd (yC0 σ)) 1).2 13 0 = (yRd (yC0 σ)) 13 0 := congrFun (yRt_k (by decide)) 0
          refine z_ifne hY eX8_readsCriterion_87 (by omega) (fun c87 => ?_) (fun c87 => ?_)
          · refine z_const hY eX8_readsCriterion_92 ?_
            refine z_istore hY eX8_readsCriterion_93 (ls' := [(1, z_i 1), (0, .ref (A 40))]) rfl ?_
            refine z_sub [1, 0] (ls' := [(0, .ref (A 40)), (1, z_i 1)]) rfl ?_
            have lp94 : ∀ (fu : Nat) (t : Int) (ρ : z_S), (4 - t).toNat < fu → (1 ≤ t ∧ t ≤ 4) → (mP ρ) → (ρ 13 0 ≤ 3) → (yTl (4 - t).toNat ρ = yTl 3 (yRt (yRd (yC0 σ)) 1).2) → (yGo σ) → ((yRt (yRd (yC0 σ)) 1).1 ≠ 0) → z_W Y 94 [(0, .ref (A 40)), (1, z_i t)] [] (mH A ρ h) 0 0 := by
              intro fu
              induction fu with
              | zero => intro t ρ hf; exact absurd hf (Nat.not_lt_zero _)
              | succ fu ih94 =>
                intro t ρ hf h0 hPr hnr hn hgo hfirst
                obtain ⟨⟨hp1_0, hp2_0, hp4_0⟩, hp3_0, hp5_0, hp6_0⟩ := id hPr
                refine z_aload hY eX8_readsCriterion_94 0 rfl ?_
                refine z_const hY eX8_readsCriterion_95 ?_
                refine z_callVr (As := [z_i 43]) (rest := []) (r := z_i (z_bl (ρ 4 0 = 1 ∧ ρ 6 0 = 43))) hY eX8_readsCriterion_97 (m_sgn hG hA (σ := ρ) hPr (by omega)) (mH_at hA (k := 40) (by decide)) (by decide) (Nat.le_of_ble_eq_true rfl) ⟨Nat.zero_le _, Nat.zero_le _⟩ ?_
                refine z_ifneb hY eX8_readsCriterion_100 (fun c100 => ?_) (fun c100 => ?_)
                · have hsg : -1 ≤ ySg ρ ∧ ySg ρ ≤ 1 := by unfold ySg; split <;> omega
                  have hJ100 : z_W Y 126 [(0, .ref (A 40)), (1, z_i t)] [z_i (ySg ρ)] (mH A ρ h) 0 0 := by
                    refine z_istore hY eX8_readsCriterion_126 (ls' := [(2, z_i (ySg ρ)), (0, .ref (A 40)), (1, z_i t)]) rfl ?_
                    refine z_aload hY eX8_readsCriterion_127 1 rfl ?_
                    refine z_callV (As := []) (rest := []) hY eX8_readsCriterion_128 (m_reads hG hA (σ := ρ) (show mP ρ from hPr).1) (mH_at hA (k := 40) (by decide)) (by decide) (Nat.le_of_ble_eq_true rfl) ⟨Nat.zero_le _, Nat.zero_le _⟩ (fun _ _ q => q.elim) (fun v101 h101 q101 => ?_)
                    obtain ⟨rfl, rfl⟩ := q101
                    have hP102 : mP (yRd ρ) := mP_r (show mP ρ from hPr)
                    obtain ⟨⟨hp1_103, hp2_103, hp4_103⟩, hp3_103, hp5_103, hp6_103⟩ := id hP102
                    have hk104 : yRd ρ 13 0 = ρ 13 0 := congrFun (yRd_k (by decide)) 0
                    refine z_iload hY eX8_readsCriterion_131 2 rfl ?_
                    refine z_const hY eX8_readsCriterion_132 ?_
                    refine z_icmpeq hY eX8_readsCriterion_133 (by omega) (fun c133 => ?_) (fun c133 => ?_)
                    · refine z_const hY eX8_readsCriterion_144 ?_
                      exact z_zreturn hY eX8_readsCriterion_145 rfl (by omega) (by rw [hφ]; rw [show yRc σ = (0, (yRd ρ)) from by unfold yRc; rw [if_pos hgo, if_neg hfirst, ← hn]; first | (rw [yTl_4 (by omega) (by omega)]; rfl) | (rw [yTl_f (by omega) (by omega) (by omega)]; rfl)]; exact ⟨rfl, rfl⟩) ⟨Nat.zero_le _, Nat.zero_le _⟩
                    · refine z_aload hY eX8_readsCriterion_136 1 rfl ?_
                      refine z_iload hY eX8_readsCriterion_137 0 rfl ?_
                      refine z_callV (As := [z_i (ySg ρ)]) (rest := []) hY eX8_readsCriterion_138 (m_readsTerm hG hA (σ := (yRd ρ)) hP102 (by omega) (s := (ySg ρ)) (by omega)) (mH_at hA (k := 40) (by decide)) (by decide) (Nat.le_of_ble_eq_true rfl) ⟨Nat.zero_le _, Nat.zero_le _⟩ (fun _ _ q => q.elim) (fun v105 h105 q105 => ?_)
                      obtain ⟨rfl, rfl⟩ := q105
                      have hP106 : mP (yRt (yRd ρ) (ySg ρ)).2 := mP_yRt hP102 (ySg ρ)
                      have h01 := yRt_01 (yRd ρ) (ySg ρ)
                      obtain ⟨⟨hp1_107, hp2_107, hp4_107⟩, hp3_107, hp5_107, hp6_107⟩ := id hP106
                      have hk108 : (yRt (yRd ρ) (ySg ρ)).2 13 0 = (yRd ρ) 13 0 := congrFun (yRt_k (by decide)) 0
                      refine z_ifne hY eX8_readsCriterion_141 (by omega) (fun c141 => ?_) (fun c141 => ?_)
                      · refine z_iinc hY eX8_readsCriterion_146 2 rfl (ls' := [(1, z_i (t + 1)), (2, z_i (ySg ρ)), (0, .ref (A 40))]) rfl ?_
                        refine z_goto hY eX8_readsCriterion_149 ?_
                        refine z_sub [2, 0] (ls' := [(0, .ref (A 40)), (1, z_i (t + 1))]) rfl ?_
                        exact ih94 (t + 1) ((yRt (yRd ρ) (ySg ρ)).2) (by omega) (by omega) (by assumption) (by omega) ((yTl_c (by omega) (by omega) (by omega)).symm.trans hn) hgo hfirst
                      · refine z_const hY eX8_readsCriterion_144 ?_
                        exact z_zreturn hY eX8_readsCriterion_145 rfl (by omega) (by rw [hφ]; rw [show yRc σ = (0, (yRt (yRd ρ) (ySg ρ)).2) from by unfold yRc; rw [if_pos hgo, if_neg hfirst, ← hn]; first | (rw [yTl_4 (by omega) (by omega)]; rfl) | (rw [yTl_f (by omega) (by omega) (by omega)]; rfl)]; exact ⟨rfl, rfl⟩) ⟨Nat.zero_le _, Nat.zero_le _⟩
                  refine z_aload hY eX8_readsCriterion_112 0 rfl ?_
                  refine m_gf hY hA eX8_readsCriterion_113 (v := z_i (ρ 6 0)) rfl ?_
                  refine z_const hY eX8_readsCriterion_116 ?_
                  refine z_icmpne hY eX8_readsCriterion_118 (by omega) (fun c118 => ?_) (fun c118 => ?_)
                  · refine z_const hY eX8_readsCriterion_125 ?_
                    refine z_top (b := ySg ρ) (by unfold ySg; first | exact (if_pos (by omega)).symm | exact (if_neg (by omega)).symm) ?_
                    exact hJ100
                  · refine z_const hY eX8_readsCriterion_121 ?_
                    refine z_goto hY eX8_readsCriterion_122 ?_
                    refine z_top (b := ySg ρ) (by unfold ySg; first | exact (if_pos (by omega)).symm | exact (if_neg (by omega)).symm) ?_
                    exact hJ100
                · refine z_aload hY eX8_readsCriterion_103 0 rfl ?_
                  refine z_const hY eX8_readsCriterion_104 ?_
                  refine z_callVr (As := [z_i 45]) (rest := []) (r := z_i (z_bl (ρ 4 0 = 1 ∧ ρ 6 0 = 45))) hY eX8_readsCriterion_106 (m_sgn hG hA (σ := ρ) hPr (by omega)) (mH_at hA (k := 40) (by decide)) (by decide) (Nat.le_of_ble_eq_true rfl) ⟨Nat.zero_le _, Nat.zero_le _⟩ ?_
                  refine z_ifeqb hY eX8_readsCriterion_109 (fun c109 => ?_) (fun c109 => ?_)
                  · refine z_aload hY eX8_readsCriterion_152 0 rfl ?_
                    refine z_dup hY eX8_readsCriterion_153 rfl ?_
                    refine m_gf hY hA eX8_readsCriterion_154 (v := z_i (ρ 13 0)) rfl ?_
                    refine z_const hY eX8_readsCriterion_157 ?_
                    refine z_iadd hY eX8_readsCriterion_158 ?_
                    refine m_pf hY hA eX8_readsCriterion_159 (by decide) ?_
                    refine z_const hY eX8_readsCriterion_162 ?_
                    exact z_zreturn hY eX8_readsCriterion_163 rfl (by omega) (by rw [hφ]; rw [show yRc σ = (1, z_u ρ 13 0 ((ρ 13 0) + 1)) from by unfold yRc; rw [if_pos hgo, if_neg hfirst, ← hn, yTl_e (by omega)]; rfl]; exact ⟨rfl, rfl⟩) ⟨Nat.zero_le _, Nat.zero_le _⟩
                  · have hsg : -1 ≤ ySg ρ ∧ ySg ρ ≤ 1 := by unfold ySg; split <;> omega
                    have hJ111 : z_W Y 126 [(0, .ref (A 40)), (1, z_i t)] [z_i (ySg ρ)] (mH A ρ h) 0 0 := by
                      refine z_istore hY eX8_readsCriterion_126 (ls' := [(2, z_i (ySg ρ)), (0, .ref (A 40)), (1, z_i t)]) rfl ?_
                      refine z_aload hY eX8_readsCriterion_127 1 rfl ?_
                      refine z_callV (As := []) (rest := []) hY eX8_readsCriterion_128 (m_reads hG hA (σ := ρ) (show mP ρ from hPr).1) (mH_at hA (k := 40) (by decide)) (by decide) (Nat.le_of_ble_eq_true rfl) ⟨Nat.zero_le _, Nat.zero_le _⟩ (fun _ _ q => q.elim) (fun v112 h112 q112 => ?_)
                      obtain ⟨rfl, rfl⟩ := q112
                      have hP113 : mP (yRd ρ) := mP_r (show mP ρ from hPr)
                      obtain ⟨⟨hp1_114, hp2_114, hp4_114⟩, hp3_114, hp5_114, hp6_114⟩ := id hP113
                      have hk115 : yRd ρ 13 0 = ρ 13 0 := congrFun (yRd_k (by decide)) 0
                      refine z_iload hY eX8_readsCriterion_131 2 rfl ?_
                      refine z_const hY eX8_readsCriterion_132 ?_
                      refine z_icmpeq hY eX8_readsCriterion_133 (by omega) (fun c133 => ?_) (fun c133 => ?_)
                      · refine z_const hY eX8_readsCriterion_144 ?_
                        exact z_zreturn hY eX8_readsCriterion_145 rfl (by omega) (by rw [hφ]; rw [show yRc σ = (0, (yRd ρ)) from by unfold yRc; rw [if_pos hgo, if_neg hfirst, ← hn]; first | (rw [yTl_4 (by omega) (by omega)]; rfl) | (rw [yTl_f (by omega) (by omega) (by omega)]; rfl)]; exact ⟨rfl, rfl⟩) ⟨Nat.zero_le _, Nat.zero_le _⟩
                      · refine z_aload hY eX8_readsCriterion_136 1 rfl ?_
                        refine z_iload hY eX8_readsCriterion_137 0 rfl ?_
                        refine z_callV (As := [z_i (ySg ρ)]) (rest := []) hY eX8_readsCriterion_138 (m_readsTerm hG hA (σ := (yRd ρ)) hP113 (by omega) (s := (ySg ρ)) (by omega)) (mH_at hA (k := 40) (by decide)) (by decide) (Nat.le_of_ble_eq_true rfl) ⟨Nat.zero_le _, Nat.zero_le _⟩ (fun _ _ q => q.elim) (fun v116 h116 q116 => ?_)
                        obtain ⟨rfl, rfl⟩ := q116
                        have hP117 : mP (yRt (yRd ρ) (ySg ρ)).2 := mP_yRt hP113 (ySg ρ)
                        have h01 := yRt_01 (yRd ρ) (ySg ρ)
                        obtain ⟨⟨hp1_118, hp2_118, hp4_118⟩, hp3_118, hp5_118, hp6_118⟩ := id hP117
                        have hk119 : (yRt (yRd ρ) (ySg ρ)).2 13 0 = (yRd ρ) 13 0 := congrFun (yRt_k (by decide)) 0
                        refine z_ifne hY eX8_readsCriterion_141 (by omega) (fun c141 => ?_) (fun c141 => ?_)
                        · refine z_iinc hY eX8_readsCriterion_146 2 rfl (ls' := [(1, z_i (t + 1)), (2, z_i (ySg ρ)), (0, .ref (A 40))]) rfl ?_
                          refine z_goto hY eX8_readsCriterion_149 ?_
                          refine z_sub [2, 0] (ls' := [(0, .ref (A 40)), (1, z_i (t + 1))]) rfl ?_
                          exact ih94 (t + 1) ((yRt (yRd ρ) (ySg ρ)).2) (by omega) (by omega) (by assumption) (by omega) ((yTl_c (by omega) (by omega) (by omega)).symm.trans hn) hgo hfirst
                        · refine z_const hY eX8_readsCriterion_144 ?_
                          exact z_zreturn hY eX8_readsCriterion_145 rfl (by omega) (by rw [hφ]; rw [show yRc σ = (0, (yRt (yRd ρ) (ySg ρ)).2) from by unfold yRc; rw [if_pos hgo, if_neg hfirst, ← hn]; first | (rw [yTl_4 (by omega) (by omega)]; rfl) | (rw [yTl_f (by omega) (by omega) (by omega)]; rfl)]; exact ⟨rfl, rfl⟩) ⟨Nat.zero_le _, Nat.zero_le _⟩
                    refine z_aload hY eX8_readsCriterion_112 0 rfl ?_
                    refine m_gf hY hA eX8_readsCriterion_113 (v := z_i (ρ 6 0)) rfl ?_
                    refine z_const hY eX8_readsCriterion_116 ?_
                    refine z_icmpne hY eX8_readsCriterion_118 (by omega) (fun c118 => ?_) (fun c118 => ?_)
                    · refine z_const hY eX8_readsCriterion_125 ?_
                      refine z_top (b := ySg ρ) (by unfold ySg; first | exact (if_pos (by omega)).symm | exact (if_neg (by omega)).symm) ?_
                      exact hJ111
                    · refine z_const hY eX8_readsCriterion_121 ?_
                      refine z_goto hY eX8_readsCriterion_122 ?_
                      refine z_top (b := ySg ρ) (by unfold ySg; first | exact (if_pos (by omega)).symm | exact (if_neg (by omega)).symm) ?_
                      exact hJ111
            exact lp94 _ 1 ((yRt (yRd (yC0 σ)) 1).2) (Nat.lt_succ_self _) (by omega) (by assumption) (by omega) rfl (by omega) (by omega)
          · refine z_const hY eX8_readsCriterion_90 ?_
            exact z_zreturn hY eX8_readsCriterion_91 rfl (by omega) (by rw [hφ]; rw [show yRc σ = (0, (yRt (yRd (yC0 σ)) 1).2) from by unfold yRc; rw [if_pos (by omega), if_pos (by omega)]; unfold yNc; rw [if_pos (by omega)]; exact Prod.ext (by omega) rfl]; exact ⟨rfl, rfl⟩) ⟨Nat.zero_le _, Nat.zero_le _⟩
      · refine z_const hY eX8_readsCriterion_26 ?_
        exact z_zreturn hY eX8_readsCriterion_27 rfl (by omega) (by rw [hφ]; rw [show yRc σ = (0, σ) from by unfold yRc; rw [if_neg (by omega)]]; exact ⟨rfl, rfl⟩) ⟨Nat.zero_le _, Nat.zero_le _⟩
theorem m_readsOrder {G : z_G} {A : Nat → Nat} {σ : z_S} {h : z_H} (hG : z_OK G) (hA : mI A) (h2 : 0 ≤ σ 2 0 ∧ σ 2 0 ≤ 100) (h1 : ∀ i : Int, 0 ≤ σ 1 i ∧ σ 1 i ≤ 255) (h6 : -1000000 ≤ σ 6 0 ∧ σ 6 0 ≤ 1000000) : z_T G mX8_readsOrder [.ref (A 40)] (mH A σ h) 4 0 0 (fun v h' => v = some (z_i (yRo σ).1) ∧ h' = mH A (yRo σ).2 h) (z_no) := by
  have hPi : mP0 (z_u (z_u σ 7 0 0) 13 0 0) := ⟨⟨by show (0 : Int) ≤ 0; omega, by show (0 : Int) ≤ σ 2 0; omega, h2.2⟩, h1, by show (0 : Int) ≤ 0 ∧ (0 : Int) ≤ 4; omega⟩
  refine z_T_of hG pX8_readsOrder (Nat.le_of_ble_eq_true rfl) (ls0 := [(0, .ref (A 40))]) rfl fun Y hY hg hmc hms hφ hψ => ?_
  subst hg
  refine z_aload hY eX8_readsOrder_0 0 rfl ?_
  refine z_const hY eX8_readsOrder_1 ?_
  refine m_pf hY hA eX8_readsOrder_2 (by decide) ?_
  refine z_aload hY eX8_readsOrder_5 0 rfl ?_
  refine z_const hY eX8_readsOrder_6 ?_
  refine m_pf hY hA eX8_readsOrder_7 (by decide) ?_
  refine z_aload hY eX8_readsOrder_10 0 rfl ?_
  refine z_callV (As := []) (rest := []) hY eX8_readsOrder_11 (m_reads hG hA (σ := z_u (z_u σ 7 0 0) 13 0 0) hPi) (mH_at hA (k := 40) (by decide)) (by decide) (Nat.le_of_ble_eq_true rfl) ⟨Nat.zero_le _, Nat.zero_le _⟩ (fun _ _ q => q.elim) (fun v1 h1 q1 => ?_)
  obtain ⟨rfl, rfl⟩ := q1
  refine z_heq (congrArg (fun q => mH A q h) (show yRd (z_u (z_u σ 7 0 0) 13 0 0) = yRo0 σ from rfl)) ?_
  have hP0 : mP (yRo0 σ) := mP_yRd hPi h6
  obtain ⟨⟨hp1_2, hp2_2, hp4_2⟩, hp3_2, hp5_2, hp6_2⟩ := id hP0
  have hk0 : yRo0 σ 13 0 = 0 := congrFun (yRd_k (by decide)) 0
  refine z_aload hY eX8_readsOrder_14 0 rfl ?_
  refine z_callV (As := []) (rest := []) hY eX8_readsOrder_15 (m_readsCriterion hG hA (σ := (yRo0 σ)) hP0) (mH_at hA (k := 40) (by decide)) (by decide) (Nat.le_of_ble_eq_true rfl) ⟨Nat.zero_le _, Nat.zero_le _⟩ (fun _ _ q => q.elim) (fun v3 h3 q3 => ?_)
  obtain ⟨rfl, rfl⟩ := q3
  obtain ⟨hP4, hcs4⟩ := yRc_s hP0
  obtain ⟨⟨hp1_5, hp2_5, hp4_5⟩, hp3_5, hp5_5, hp6_5⟩ := id hP4
  refine z_ifne hY eX8_readsOrder_18 (by omega) (fun c18 => ?_) (fun c18 => ?_)
  · have lp23 : ∀ (fu : Nat) (g : Int) (ρ : z_S), (g).toNat < fu → (2 ≤ g ∧ g ≤ 5) → (mP ρ) → (ρ 13 0 = 6 - g) → (yCl2 g.toNat ρ = yCl2 5 (yRc (yRo0 σ)).2) → ((yRc (yRo0 σ)).1 ≠ 0) → z_W Y 23 [(0, .ref (A 40))] [] (mH A ρ h) 0 0 := by
      intro fu
      induction fu with
      | zero => intro g ρ hf; exact absurd hf (Nat.not_lt_zero _)
      | succ fu ih23 =>
        intro g ρ hf h0 hPr hnr hn hfirst
        obtain ⟨⟨hp1_0, hp2_0, hp4_0⟩, hp3_0, hp5_0, hp6_0⟩ := id hPr
        refine z_aload hY eX8_readsOrder_23 0 rfl ?_
        refine z_const hY eX8_readsOrder_24 ?_
        refine z_callVr (As := [z_i 59]) (rest := []) (r := z_i (z_bl (ρ 4 0 = 1 ∧ ρ 6 0 = 59))) hY eX8_readsOrder_26 (m_sgn hG hA (σ := ρ) hPr (by omega)) (mH_at hA (k := 40) (by decide)) (by decide) (Nat.le_of_ble_eq_true rfl) ⟨Nat.zero_le _, Nat.zero_le _⟩ ?_
        refine z_ifeqb hY eX8_readsOrder_29 (fun c29 => ?_) (fun c29 => ?_)
        · refine z_aload hY eX8_readsOrder_45 0 rfl ?_
          refine m_gf hY hA eX8_readsOrder_46 (v := z_i (ρ 4 0)) rfl ?_
          refine z_ifne hY eX8_readsOrder_49 (by omega) (fun c49 => ?_) (fun c49 => ?_)
          · refine z_const hY eX8_readsOrder_56 ?_
            exact z_zreturn hY eX8_readsOrder_57 rfl (by omega) (by rw [hφ]; rw [show yRo σ = (0, ρ) from by unfold yRo; rw [if_neg hfirst, ← hn, yCl2_e (by omega) (by omega)]; first | rw [if_pos (by omega)] | rw [if_neg (by omega)]]; exact ⟨rfl, rfl⟩) ⟨Nat.zero_le _, Nat.zero_le _⟩
          · refine z_const hY eX8_readsOrder_52 ?_
            refine z_goto hY eX8_readsOrder_53 ?_
            exact z_zreturn hY eX8_readsOrder_57 rfl (by omega) (by rw [hφ]; rw [show yRo σ = (1, ρ) from by unfold yRo; rw [if_neg hfirst, ← hn, yCl2_e (by omega) (by omega)]; first | rw [if_pos (by omega)] | rw [if_neg (by omega)]]; exact ⟨rfl, rfl⟩) ⟨Nat.zero_le _, Nat.zero_le _⟩
        · refine z_aload hY eX8_readsOrder_32 0 rfl ?_
          refine z_callV (As := []) (rest := []) hY eX8_readsOrder_33 (m_reads hG hA (σ := ρ) (show mP ρ from hPr).1) (mH_at hA (k := 40) (by decide)) (by decide) (Nat.le_of_ble_eq_true rfl) ⟨Nat.zero_le _, Nat.zero_le _⟩ (fun _ _ q => q.elim) (fun v7 h7 q7 => ?_)
          obtain ⟨rfl, rfl⟩ := q7
          have hP8 : mP (yRd ρ) := mP_r (show mP ρ from hPr)
          obtain ⟨⟨hp1_9, hp2_9, hp4_9⟩, hp3_9, hp5_9, hp6_9⟩ := id hP8
          have hk10 : yRd ρ 13 0 = ρ 13 0 := congrFun (yRd_k (by decide)) 0
          refine z_aload hY eX8_readsOrder_36 0 rfl ?_
          refine z_callV (As := []) (rest := []) hY eX8_readsOrder_37 (m_readsCriterion hG hA (σ := (yRd ρ)) hP8) (mH_at hA (k := 40) (by decide)) (by decide) (Nat.le_of_ble_eq_true rfl) ⟨Nat.zero_le _, Nat.zero_le _⟩ (fun _ _ q => q.elim) (fun v11 h11 q11 => ?_)
          obtain ⟨rfl, rfl⟩ := q11
          obtain ⟨hP12, hcs12⟩ := yRc_s hP8
          obtain ⟨⟨hp1_13, hp2_13, hp4_13⟩, hp3_13, hp5_13, hp6_13⟩ := id hP12
          refine z_ifne hY eX8_readsOrder_40 (by omega) (fun c40 => ?_) (fun c40 => ?_)
          · exact ih23 (g - 1) ((yRc (yRd ρ)).2) (by omega) (by omega) (by assumption) (by omega) ((yCl2_c (by omega) (by omega) (by omega)).symm.trans hn) hfirst
          · refine z_const hY eX8_readsOrder_43 ?_
            exact z_zreturn hY eX8_readsOrder_44 rfl (by omega) (by rw [hφ]; rw [show yRo σ = (0, (yRc (yRd ρ)).2) from by unfold yRo; rw [if_neg hfirst, ← hn]; exact yCl2_f (by omega) (by omega) (by omega)]; exact ⟨rfl, rfl⟩) ⟨Nat.zero_le _, Nat.zero_le _⟩
    exact lp23 _ 5 ((yRc (yRo0 σ)).2) (Nat.lt_succ_self _) (by omega) (by assumption) (by omega) rfl (by omega)
  · refine z_const hY eX8_readsOrder_21 ?_
    exact z_zreturn hY eX8_readsOrder_22 rfl (by omega) (by rw [hφ]; rw [show yRo σ = (0, (yRc (yRo0 σ)).2) from by unfold yRo; rw [if_pos (by omega)]; exact Prod.ext (by omega) rfl]; exact ⟨rfl, rfl⟩) ⟨Nat.zero_le _, Nat.zero_le _⟩
theorem m_failsX_t {G : z_G} {A : Nat → Nat} {σ : z_S} {h : z_H} (hG : z_OK G) (hA : mI A) (h00 : σ 0 0 = 0) {g c : Int} (hg1 : g ≠ 0) (hr : -2147483648 ≤ g ∧ g ≤ 2147483647) : z_Tr G mX8_fails [.ref (A 40), z_i g, z_i c] (mH A σ h) 0 (z_i 0) := by
  refine z_T_of hG pX8_fails (Nat.le_of_ble_eq_true rfl) (ls0 := [(0, .ref (A 40)), (1, z_i g), (2, z_i c)]) rfl fun Y hY hg hmc hms hφ hψ => ?_
  subst hg
  refine z_iload hY eX8_fails_0 1 rfl ?_
  refine z_ifne hY eX8_fails_1 (by omega) (fun c1 => ?_) (fun c1 => ?_)
  · refine z_aload hY eX8_fails_16 0 rfl ?_
    refine m_gf hY hA eX8_fails_17 (v := z_i (σ 0 0)) rfl ?_
    refine z_ifeq hY eX8_fails_20 (by omega) (fun c20 => ?_) (fun c20 => ?_)
    · refine z_const hY eX8_fails_27 ?_
      exact z_zreturn hY eX8_fails_28 rfl (by omega) (by rw [hφ]; first | exact ⟨congrArg (fun q => some (z_i q)) (by omega), rfl⟩ | (exfalso; omega)) ⟨Nat.zero_le _, Nat.zero_le _⟩
    · refine z_const hY eX8_fails_23 ?_
      refine z_goto hY eX8_fails_24 ?_
      exact z_zreturn hY eX8_fails_28 rfl (by omega) (by rw [hφ]; first | exact ⟨congrArg (fun q => some (z_i q)) (by omega), rfl⟩ | (exfalso; omega)) ⟨Nat.zero_le _, Nat.zero_le _⟩
  · refine z_aload hY eX8_fails_4 0 rfl ?_
    refine m_gf hY hA eX8_fails_5 (v := z_i (σ 0 0)) rfl ?_
    refine z_ifne hY eX8_fails_8 (by omega) (fun c8 => ?_) (fun c8 => ?_)
    · refine z_aload hY eX8_fails_16 0 rfl ?_
      refine m_gf hY hA eX8_fails_17 (v := z_i (σ 0 0)) rfl ?_
      refine z_ifeq hY eX8_fails_20 (by omega) (fun c20 => ?_) (fun c20 => ?_)
      · refine z_const hY eX8_fails_27 ?_
        exact z_zreturn hY eX8_fails_28 rfl (by omega) (by rw [hφ]; first | exact ⟨congrArg (fun q => some (z_i q)) (by omega), rfl⟩ | (exfalso; omega)) ⟨Nat.zero_le _, Nat.zero_le _⟩
      · refine z_const hY eX8_fails_23 ?_
        refine z_goto hY eX8_fails_24 ?_
        exact z_zreturn hY eX8_fails_28 rfl (by omega) (by rw [hφ]; first | exact ⟨congrArg (fun q => some (z_i q)) (by omega), rfl⟩ | (exfalso; omega)) ⟨Nat.zero_le _, Nat.zero_le _⟩
    · refine z_aload hY eX8_fails_11 0 rfl ?_
      refine z_iload hY eX8_fails_12 2 rfl ?_
      refine m_pf hY hA eX8_fails_13 (by decide) ?_
      refine z_aload hY eX8_fails_16 0 rfl ?_
      refine m_gf hY hA eX8_fails_17 (v := z_i c) (by simp [mF, z_u, z_ur]) ?_
      refine z_ifeq hY eX8_fails_20 (by omega) (fun c20 => ?_) (fun c20 => ?_)
      · refine z_const hY eX8_fails_27 ?_
        exact z_zreturn hY eX8_fails_28 rfl (by omega) (by rw [hφ]; first | exact ⟨congrArg (fun q => some (z_i q)) (by omega), rfl⟩ | (exfalso; omega)) ⟨Nat.zero_le _, Nat.zero_le _⟩
      · refine z_const hY eX8_fails_23 ?_
        refine z_goto hY eX8_fails_24 ?_
        exact z_zreturn hY eX8_fails_28 rfl (by omega) (by rw [hφ]; first | exact ⟨congrArg (fun q => some (z_i q)) (by omega), rfl⟩ | (exfalso; omega)) ⟨Nat.zero_le _, Nat.zero_le _⟩
theorem m_failsX_f {G : z_G} {A : Nat → Nat} {σ : z_S} {h : z_H} (hG : z_OK G) (hA : mI A) (h00 : σ 0 0 = 0) {g c : Int} (hg1 : g = 0) (hr : 0 < c ∧ c ≤ 10) : z_T G mX8_fails [.ref (A 40), z_i g, z_i c] (mH A σ h) 0 0 0 (fun v h' => v = some (z_i 1) ∧ h' = mH A (z_u σ 0 0 c) h) (z_no) := by
  refine z_T_of hG pX8_fails (Nat.le_of_ble_eq_true rfl) (ls0 := [(0, .ref (A 40)), (1, z_i g), (2, z_i c)]) rfl fun Y hY hg hmc hms hφ hψ => ?_
  subst hg
  refine z_iload hY eX8_fails_0 1 rfl ?_
  refine z_ifne hY eX8_fails_1 (by omega) (fun c1 => ?_) (fun c1 => ?_)
  · refine z_aload hY eX8_fails_16 0 rfl ?_
    refine m_gf hY hA eX8_fails_17 (v := z_i (σ 0 0)) rfl ?_
    refine z_ifeq hY eX8_fails_20 (by omega) (fun c20 => ?_) (fun c20 => ?_)
    · refine z_const hY eX8_fails_27 ?_
      exact z_zreturn hY eX8_fails_28 rfl (by omega) (by rw [hφ]; first | exact ⟨congrArg (fun q => some (z_i q)) (by omega), rfl⟩ | (exfalso; omega)) ⟨Nat.zero_le _, Nat.zero_le _⟩
    · refine z_const hY eX8_fails_23 ?_
      refine z_goto hY eX8_fails_24 ?_
      exact z_zreturn hY eX8_fails_28 rfl (by omega) (by rw [hφ]; first | exact ⟨congrArg (fun q => some (z_i q)) (by omega), rfl⟩ | (exfalso; omega)) ⟨Nat.zero_le _, Nat.zero_le _⟩
  · refine z_aload hY eX8_fails_4 0 rfl ?_
    refine m_gf hY hA eX8_fails_5 (v := z_i (σ 0 0)) rfl ?_
    refine z_ifne hY eX8_fails_8 (by omega) (fun c8 => ?_) (fun c8 => ?_)
    · refine z_aload hY eX8_fails_16 0 rfl ?_
      refine m_gf hY hA eX8_fails_17 (v := z_i (σ 0 0)) rfl ?_
      refine z_ifeq hY eX8_fails_20 (by omega) (fun c20 => ?_) (fun c20 => ?_)
      · refine z_const hY eX8_fails_27 ?_
        exact z_zreturn hY eX8_fails_28 rfl (by omega) (by rw [hφ]; first | exact ⟨congrArg (fun q => some (z_i q)) (by omega), rfl⟩ | (exfalso; omega)) ⟨Nat.zero_le _, Nat.zero_le _⟩
      · refine z_const hY eX8_fails_23 ?_
        refine z_goto hY eX8_fails_24 ?_
        exact z_zreturn hY eX8_fails_28 rfl (by omega) (by rw [hφ]; first | exact ⟨congrArg (fun q => some (z_i q)) (by omega), rfl⟩ | (exfalso; omega)) ⟨Nat.zero_le _, Nat.zero_le _⟩
    · refine z_aload hY eX8_fails_11 0 rfl ?_
      refine z_iload hY eX8_fails_12 2 rfl ?_
      refine m_pf hY hA eX8_fails_13 (by decide) ?_
      refine z_aload hY eX8_fails_16 0 rfl ?_
      refine m_gf hY hA eX8_fails_17 (v := z_i c) (by simp [mF, z_u, z_ur]) ?_
      refine z_ifeq hY eX8_fails_20 (by omega) (fun c20 => ?_) (fun c20 => ?_)
      · refine z_const hY eX8_fails_27 ?_
        exact z_zreturn hY eX8_fails_28 rfl (by omega) (by rw [hφ]; first | exact ⟨congrArg (fun q => some (z_i q)) (by omega), rfl⟩ | (exfalso; omega)) ⟨Nat.zero_le _, Nat.zero_le _⟩
      · refine z_const hY eX8_fails_23 ?_
        refine z_goto hY eX8_fails_24 ?_
        exact z_zreturn hY eX8_fails_28 rfl (by omega) (by rw [hφ]; first | exact ⟨congrArg (fun q => some (z_i q)) (by omega), rfl⟩ | (exfalso; omega)) ⟨Nat.zero_le _, Nat.zero_le _⟩
theorem yRc_k {k : Nat} (hk : k ≠ 4 ∧ k ≠ 5 ∧ k ≠ 6 ∧ k ≠ 7 ∧ k ≠ 9) (h11 : k ≠ 11) (h13 : k ≠ 13) (σ : z_S) : (yRc σ).2 k = σ k := by
  have h4 : k ≠ 4 ∧ k ≠ 5 ∧ k ≠ 6 ∧ k ≠ 7 := ⟨hk.1, hk.2.1, hk.2.2.1, hk.2.2.2.1⟩
  have e0 : (yC0 σ) k = σ k := by unfold yC0; rw [z_u_ne hk.2.2.2.2, z_u_ne hk.2.2.2.2, z_u_ne hk.2.2.2.2, z_u_ne hk.2.2.2.2, z_u_ne h11]
  have e1 : (yRt (yRd (yC0 σ)) 1).2 k = σ k := ((yRt_k hk).trans (yRd_k h4)).trans e0
  have hN : ∀ q : Int × z_S, q.2 k = σ k → (yNc q).2 k = σ k := by
    intro q hq
    unfold yNc
    split
    · exact hq
    · exact (z_u_ne h13).trans hq
  unfold yRc
  split
  · apply hN
    split
    · exact e1
    · exact (yTl_k hk _ _).trans e1
  · rfl
theorem yCl2_k {k : Nat} (hk : k ≠ 4 ∧ k ≠ 5 ∧ k ≠ 6 ∧ k ≠ 7 ∧ k ≠ 9) (h11 : k ≠ 11) (h13 : k ≠ 13) : ∀ (f : Nat) (σ : z_S), (yCl2 f σ).2 k = σ k := by
  have h4 : k ≠ 4 ∧ k ≠ 5 ∧ k ≠ 6 ∧ k ≠ 7 := ⟨hk.1, hk.2.1, hk.2.2.1, hk.2.2.2.1⟩
  intro f
  induction f with
  | zero => intro σ; rfl
  | succ f ih =>
    intro σ
    unfold yCl2
    split
    · split
      · exact (yRc_k hk h11 h13 _).trans (yRd_k h4)
      · exact (ih _).trans ((yRc_k hk h11 h13 _).trans (yRd_k h4))
    · rfl
theorem yRo_k {k : Nat} (hk : k ≠ 4 ∧ k ≠ 5 ∧ k ≠ 6 ∧ k ≠ 7 ∧ k ≠ 9) (h11 : k ≠ 11) (h13 : k ≠ 13) (σ : z_S) : (yRo σ).2 k = σ k := by
  have h4 : k ≠ 4 ∧ k ≠ 5 ∧ k ≠ 6 ∧ k ≠ 7 := ⟨hk.1, hk.2.1, hk.2.2.1, hk.2.2.2.1⟩
  have e0 : yRo0 σ k = σ k := by unfold yRo0; rw [yRd_k h4, z_u_ne h13, z_u_ne hk.2.2.2.1]
  unfold yRo
  split
  · exact (yRc_k hk h11 h13 _).trans e0
  · exact (yCl2_k hk h11 h13 _ _).trans ((yRc_k hk h11 h13 _).trans e0)
theorem yCl2_s : ∀ (f : Nat) (σ : z_S), mP σ → 1 ≤ σ 13 0 → mP (yCl2 f σ).2 ∧ ((yCl2 f σ).1 = 0 ∨ ((yCl2 f σ).1 = 1 ∧ 1 ≤ (yCl2 f σ).2 13 0)) := by
  intro f
  induction f with
  | zero => intro σ hP _; exact ⟨hP, Or.inl rfl⟩
  | succ f ih =>
    intro σ hP h1
    have e13 : (yRd σ) 13 0 = σ 13 0 := congrFun (yRd_k (by decide)) 0
    obtain ⟨q1, q2⟩ := yRc_s (mP_r hP)
    unfold yCl2
    split
    · split
      · rename_i h2; exact ⟨q1, Or.inl h2⟩
      · rename_i h2
        exact ih _ q1 (by omega)
    · refine ⟨hP, ?_⟩
      show (if σ 4 0 = 0 then (1 : Int) else 0) = 0 ∨ ((if σ 4 0 = 0 then (1 : Int) else 0) = 1 ∧ 1 ≤ σ 13 0)
      split <;> omega
theorem yRo_s {σ : z_S} (hP : mP (yRo0 σ)) : mP (yRo σ).2 ∧ ((yRo σ).1 = 0 ∨ ((yRo σ).1 = 1 ∧ 1 ≤ (yRo σ).2 13 0)) := by
  have e13 : (yRo0 σ) 13 0 = 0 := congrFun (yRd_k (by decide)) 0
  obtain ⟨q1, q2⟩ := yRc_s hP
  unfold yRo
  split
  · rename_i h2; exact ⟨q1, Or.inl h2⟩
  · exact yCl2_s _ _ q1 (by omega)
-- isNewGreater has truth values
def m11 (σ : z_S) : Prop := ∀ i, σ 11 i = 0 ∨ σ 11 i = 1
theorem m11_of {ρ σ : z_S} (h : m11 σ) (e : ρ 11 = σ 11) : m11 ρ := fun i => by rw [e]; exact h i
theorem m11_c {σ : z_S} (h : m11 σ) : m11 (yC0 σ) := by
  intro i
  unfold yC0
  rw [z_u_ne (by decide), z_u_ne (by decide), z_u_ne (by decide), z_u_ne (by decide), z_u_eq]
  unfold z_up
  split
  · split
    · exact Or.inr rfl
    · exact Or.inl rfl
  · exact h i
theorem m11_rc {σ : z_S} (h : m11 σ) : m11 (yRc σ).2 := by
  have hk : (11 : Nat) ≠ 4 ∧ (11 : Nat) ≠ 5 ∧ (11 : Nat) ≠ 6 ∧ (11 : Nat) ≠ 7 ∧ (11 : Nat) ≠ 9 := by decide
  have h1 : m11 (yRt (yRd (yC0 σ)) 1).2 := m11_of (m11_c h) ((yRt_k hk).trans (yRd_k (by decide)))
  have h2 : m11 (yTl 3 (yRt (yRd (yC0 σ)) 1).2).2 := m11_of h1 (yTl_k hk _ _)
  have hN : ∀ q : Int × z_S, m11 q.2 → m11 (yNc q).2 := by
    intro q hq
    unfold yNc
    split
    · exact hq
    · exact hq
  unfold yRc
  split
  · apply hN
    split
    · exact h1
    · exact h2
  · exact h
theorem m11_cl : ∀ (f : Nat) (σ : z_S), m11 σ → m11 (yCl2 f σ).2 := by
  intro f
  induction f with
  | zero => intro σ h; exact h
  | succ f ih =>
    intro σ h
    have h1 : m11 (yRc (yRd σ)).2 := m11_rc (m11_of h (yRd_k (by decide)))
    unfold yCl2
    split
    · split
      · exact h1
      · exact ih _ h1
    · exact h
theorem m11_ro {σ : z_S} (h : m11 σ) : m11 (yRo σ).2 := by
  have h0 : m11 (yRc (yRo0 σ)).2 := m11_rc (m11_of h (show yRo0 σ 11 = σ 11 from yRd_k (by decide)))
  unfold yRo
  split
  · exact h0
  · exact m11_cl _ _ h0
def ySo (σ : z_S) : z_S := z_ur (z_ur (z_u (z_u (z_u (yRo σ).2 3 0 (-1)) 2 0 0) 12 0 ((yRo σ).2 13 0)) 8 (fun i => if 0 ≤ i ∧ i < 4 * (yRo σ).2 13 0 then (yRo σ).2 9 i else (yRo σ).2 8 i)) 10 (fun i => if 0 ≤ i ∧ i < (yRo σ).2 13 0 then (yRo σ).2 11 i else (yRo σ).2 10 i)
def ySf (σ : z_S) : z_S := z_u (z_u (z_u (yRo σ).2 3 0 ((yRo σ).2 5 0)) 2 0 0) 0 0 1
def S_setOrder (σ : z_S)  (c r : Int) (ρ : z_S) : Prop := if (yRo σ).1 ≠ 0 then c = 0 ∧ r = (yRo σ).2 13 0 ∧ ρ = ySo σ else c = 1 ∧ ρ = ySf σ
theorem p_setOrder {G : z_G} {A : Nat → Nat} {σ τ : z_S} {h : z_H} (hτ : z_u σ 0 0 0 = τ) (hG : z_OK G) (hA : mI A) (hB : mB τ) (hV : mV τ) (h11 : m11 τ) : z_T G mX8_setOrder [.ref (A 40)] (mH A σ h) 5 0 0 (fun v h' => ∃ (c r : Int) (ρ : z_S), v = some (z_i r) ∧ h' = mH A ρ h ∧ S_setOrder τ  c r ρ) (z_no) := by
  have h00 : τ 0 0 = 0 := by rw [← hτ]; rfl
  obtain ⟨hf, hsc, hcm, hcr, hth, hgr, hlm, hld, hlo, hro, htm, hre, hpa, htp, hgp⟩ := id hV
  refine z_T_of hG pX8_setOrder (Nat.le_of_ble_eq_true rfl) (ls0 := [(0, .ref (A 40))]) rfl fun Y hY hg hmc hms hφ hψ => ?_
  subst hg
  refine z_aload hY eX8_setOrder_0 0 rfl ?_
  refine z_const hY eX8_setOrder_1 ?_
  refine m_pf hY hA eX8_setOrder_2 (by decide) ?_
  rw [hτ]
  refine z_aload hY eX8_setOrder_5 0 rfl ?_
  refine z_callV (As := []) (rest := []) hY eX8_setOrder_6 (m_readsOrder hG hA (σ := τ) htm htp (hB 6 0)) (mH_at hA (k := 40) (by decide)) (by decide) (Nat.le_of_ble_eq_true rfl) ⟨Nat.zero_le _, Nat.zero_le _⟩ (fun _ _ q => q.elim) (fun v1 h1 q1 => ?_)
  obtain ⟨rfl, rfl⟩ := q1
  have hPi : mP0 (z_u (z_u τ 7 0 0) 13 0 0) := ⟨⟨by show (0 : Int) ≤ 0; omega, by show (0 : Int) ≤ τ 2 0; omega, htm.2⟩, htp, by show (0 : Int) ≤ 0 ∧ (0 : Int) ≤ 4; omega⟩
  obtain ⟨⟨⟨hp1, hp2, hp4⟩, hp3, hp5, hp6⟩, hro1⟩ := yRo_s (mP_yRd hPi (hB 6 0))
  have h000 : (yRo τ).2 0 0 = 0 := (congrFun (yRo_k (by decide) (by decide) (by decide) τ) 0).trans h00
  have h1101 := m11_ro h11
  refine z_istore hY eX8_setOrder_9 (ls' := [(1, z_i ((yRo τ).1)), (0, .ref (A 40))]) rfl ?_
  refine z_aload hY eX8_setOrder_10 1 rfl ?_
  refine z_iload hY eX8_setOrder_11 0 rfl ?_
  refine z_ifeq hY eX8_setOrder_12 (by omega) (fun c12 => ?_) (fun c12 => ?_)
  · refine z_aload hY eX8_setOrder_19 1 rfl ?_
    refine m_gf hY hA eX8_setOrder_20 (v := z_i ((yRo τ).2 5 0)) rfl ?_
    refine m_pf hY hA eX8_setOrder_23 (by decide) ?_
    refine z_aload hY eX8_setOrder_26 1 rfl ?_
    refine z_const hY eX8_setOrder_27 ?_
    refine m_pf hY hA eX8_setOrder_28 (by decide) ?_
    refine z_aload hY eX8_setOrder_31 1 rfl ?_
    refine z_iload hY eX8_setOrder_32 0 rfl ?_
    refine z_const hY eX8_setOrder_33 ?_
    by_cases g3 : ((yRo τ).1) ≠ 0
    · refine z_callVr (As := [z_i ((yRo τ).1), z_i 1]) (rest := []) (r := z_i 0) hY eX8_setOrder_34 (m_failsX_t hG hA (σ := z_u (z_u ((yRo τ).2) 3 0 ((yRo τ).2 5 0)) 2 0 0) h000 g3 (by omega)) (mH_at hA (k := 40) (by decide)) (by decide) (Nat.le_of_ble_eq_true rfl) ⟨Nat.zero_le _, Nat.zero_le _⟩ ?_
      refine z_ifeq hY eX8_setOrder_37 (by omega) (fun _ => ?_) (fun c => absurd c (by omega))
      exfalso; omega
    · refine z_callV (As := [z_i ((yRo τ).1), z_i 1]) (rest := []) hY eX8_setOrder_34 (m_failsX_f hG hA (σ := z_u (z_u ((yRo τ).2) 3 0 ((yRo τ).2 5 0)) 2 0 0) h000 (by omega) (by omega)) (mH_at hA (k := 40) (by decide)) (by decide) (Nat.le_of_ble_eq_true rfl) ⟨Nat.zero_le _, Nat.zero_le _⟩ (fun _ _ q => q.elim) (fun v4 h4 q4 => ?_)
      obtain ⟨rfl, rfl⟩ := q4
      refine z_ifeq hY eX8_setOrder_37 (by omega) (fun c => absurd c (by omega)) (fun _ => ?_)
      refine z_const hY eX8_setOrder_40 ?_
      exact z_ireturn hY eX8_setOrder_41 rfl (by rw [hφ]; first | (exfalso; omega) | exact ⟨1, _, _, rfl, rfl, by unfold S_setOrder; rw [if_neg (by omega)]; exact ⟨rfl, rfl⟩⟩) ⟨Nat.zero_le _, Nat.zero_le _⟩
  · refine z_const hY eX8_setOrder_15 ?_
    refine z_goto hY eX8_setOrder_16 ?_
    refine m_pf hY hA eX8_setOrder_23 (by decide) ?_
    refine z_aload hY eX8_setOrder_26 1 rfl ?_
    refine z_const hY eX8_setOrder_27 ?_
    refine m_pf hY hA eX8_setOrder_28 (by decide) ?_
    refine z_aload hY eX8_setOrder_31 1 rfl ?_
    refine z_iload hY eX8_setOrder_32 0 rfl ?_
    refine z_const hY eX8_setOrder_33 ?_
    by_cases g5 : ((yRo τ).1) ≠ 0
    · refine z_callVr (As := [z_i ((yRo τ).1), z_i 1]) (rest := []) (r := z_i 0) hY eX8_setOrder_34 (m_failsX_t hG hA (σ := z_u (z_u ((yRo τ).2) 3 0 (-1)) 2 0 0) h000 g5 (by omega)) (mH_at hA (k := 40) (by decide)) (by decide) (Nat.le_of_ble_eq_true rfl) ⟨Nat.zero_le _, Nat.zero_le _⟩ ?_
      refine z_ifeq hY eX8_setOrder_37 (by omega) (fun _ => ?_) (fun c => absurd c (by omega))
      refine z_aload hY eX8_setOrder_42 1 rfl ?_
      refine z_aload hY eX8_setOrder_43 1 rfl ?_
      refine m_gf hY hA eX8_setOrder_44 (v := z_i ((yRo τ).2 13 0)) (by simp [mF, z_u, z_ur]) ?_
      refine m_pf hY hA eX8_setOrder_47 (by decide) ?_
      refine z_const hY eX8_setOrder_50 ?_
      refine z_istore hY eX8_setOrder_51 (ls' := [(2, z_i 0), (1, z_i ((yRo τ).1)), (0, .ref (A 40))]) rfl ?_
      refine z_sub [2, 0] (ls' := [(0, .ref (A 40)), (2, z_i 0)]) rfl ?_
      have lp52 : ∀ (fu : Nat) (k : Int), (4 * (yRo τ).2 13 0 - k).toNat < fu → (0 ≤ k ∧ k ≤ 4 * (yRo τ).2 13 0) → z_W Y 52 [(0, .ref (A 40)), (2, z_i k)] [] (mH A (z_ur (z_u (z_u (z_u ((yRo τ).2) 3 0 (-1)) 2 0 0) 12 0 ((yRo τ).2 13 0)) 8 (fun i => if 0 ≤ i ∧ i < k then (yRo τ).2 9 i else (yRo τ).2 8 i)) h) 0 0 := by
        intro fu
        induction fu with
        | zero => intro k hf; exact absurd hf (Nat.not_lt_zero _)
        | succ fu ih52 =>
          intro k hf h0
          refine z_iload hY eX8_setOrder_52 1 rfl ?_
          refine z_const hY eX8_setOrder_53 ?_
          refine z_aload hY eX8_setOrder_54 0 rfl ?_
          refine m_gf hY hA eX8_setOrder_55 (v := z_i ((yRo τ).2 13 0)) (by simp [mF, z_u, z_ur]) ?_
          refine z_imul hY eX8_setOrder_58 ?_
          refine z_icmpge hY eX8_setOrder_59 (by omega) (fun c59 => ?_) (fun c59 => ?_)
          · refine z_heq (congrArg (fun q => mH A q h) (show z_ur (z_u (z_u (z_u ((yRo τ).2) 3 0 (-1)) 2 0 0) 12 0 ((yRo τ).2 13 0)) 8 (fun i => if 0 ≤ i ∧ i < k then (yRo τ).2 9 i else (yRo τ).2 8 i) = z_ur (z_u (z_u (z_u ((yRo τ).2) 3 0 (-1)) 2 0 0) 12 0 ((yRo τ).2 13 0)) 8 (fun i => if 0 ≤ i ∧ i < 4 * (yRo τ).2 13 0 then (yRo τ).2 9 i else (yRo τ).2 8 i) from by rw [show k = 4 * (yRo τ).2 13 0 by omega])) ?_
            refine z_const hY eX8_setOrder_80 ?_
            refine z_istore hY eX8_setOrder_81 (ls' := [(2, z_i 0), (0, .ref (A 40))]) rfl ?_
            refine z_sub [1, 0] (ls' := [(0, .ref (A 40)), (2, z_i 0)]) rfl ?_
            have lp82 : ∀ (fu : Nat) (k : Int), ((yRo τ).2 13 0 - k).toNat < fu → (0 ≤ k ∧ k ≤ (yRo τ).2 13 0) → z_W Y 82 [(0, .ref (A 40)), (2, z_i k)] [] (mH A (z_ur (z_ur (z_u (z_u (z_u ((yRo τ).2) 3 0 (-1)) 2 0 0) 12 0 ((yRo τ).2 13 0)) 8 (fun i => if 0 ≤ i ∧ i < 4 * (yRo τ).2 13 0 then (yRo τ).2 9 i else (yRo τ).2 8 i)) 10 (fun i => if 0 ≤ i ∧ i < k then (yRo τ).2 11 i else (yRo τ).2 10 i)) h) 0 0 := by
              intro fu
              induction fu with
              | zero => intro k hf; exact absurd hf (Nat.not_lt_zero _)
              | succ fu ih82 =>
                intro k hf h0
                have hk01 := h1101 k
                refine z_iload hY eX8_setOrder_82 1 rfl ?_
                refine z_aload hY eX8_setOrder_83 0 rfl ?_
                refine m_gf hY hA eX8_setOrder_84 (v := z_i ((yRo τ).2 13 0)) (by simp [mF, z_u, z_ur]) ?_
                refine z_icmpge hY eX8_setOrder_87 (by omega) (fun c87 => ?_) (fun c87 => ?_)
                · refine z_aload hY eX8_setOrder_108 0 rfl ?_
                  refine m_gf hY hA eX8_setOrder_109 (v := z_i ((yRo τ).2 13 0)) (by simp [mF, z_u, z_ur]) ?_
                  exact z_ireturn hY eX8_setOrder_112 rfl (by rw [hφ]; first | (exfalso; omega) | exact ⟨0, _, _, rfl, rfl, by unfold S_setOrder; rw [if_pos (by omega)]; refine ⟨rfl, rfl, ?_⟩; rw [show k = (yRo τ).2 13 0 by omega]; rfl⟩) ⟨Nat.zero_le _, Nat.zero_le _⟩
                · refine z_aload hY eX8_setOrder_90 0 rfl ?_
                  refine m_gf hY hA eX8_setOrder_91 (v := .ref (A 10)) rfl ?_
                  refine z_iload hY eX8_setOrder_94 1 rfl ?_
                  refine z_aload hY eX8_setOrder_95 0 rfl ?_
                  refine m_gf hY hA eX8_setOrder_96 (v := .ref (A 11)) rfl ?_
                  refine z_iload hY eX8_setOrder_99 1 rfl ?_
                  refine m_bal hY hA eX8_setOrder_100 (j := 11) (N := 4) (x := (yRo τ).2 11 k) (by decide) rfl (by omega) (by simp [z_u, z_ur]) ?_
                  refine m_bas hY hA eX8_setOrder_101 (j := 10) (N := 4) (by decide) (fun _ => rfl) (by omega) (by first | omega | exact z_bl01 _) ?_
                  refine z_iinc hY eX8_setOrder_102 1 rfl (ls' := [(2, z_i (k + 1)), (0, .ref (A 40))]) rfl ?_
                  refine z_goto hY eX8_setOrder_105 ?_
                  refine z_sub [1, 0] (ls' := [(0, .ref (A 40)), (2, z_i (k + 1))]) rfl ?_
                  refine z_heq (congrArg (fun q => mH A q h) (show z_u (z_ur (z_ur (z_u (z_u (z_u ((yRo τ).2) 3 0 (-1)) 2 0 0) 12 0 ((yRo τ).2 13 0)) 8 (fun i => if 0 ≤ i ∧ i < 4 * (yRo τ).2 13 0 then (yRo τ).2 9 i else (yRo τ).2 8 i)) 10 (fun i => if 0 ≤ i ∧ i < k then (yRo τ).2 11 i else (yRo τ).2 10 i)) 10 k ((yRo τ).2 11 k) = z_ur (z_ur (z_u (z_u (z_u ((yRo τ).2) 3 0 (-1)) 2 0 0) 12 0 ((yRo τ).2 13 0)) 8 (fun i => if 0 ≤ i ∧ i < 4 * (yRo τ).2 13 0 then (yRo τ).2 9 i else (yRo τ).2 8 i)) 10 (fun i => if 0 ≤ i ∧ i < (k + 1) then (yRo τ).2 11 i else (yRo τ).2 10 i) from (z_ur_u (if_pos (by omega)) (fun j hj => by show ite _ _ _ = ite _ _ _; split <;> split <;> first | rfl | (exfalso; omega))))) ?_
                  exact ih82 (k + 1) (by omega) (by omega)
            refine z_heq (congrArg (fun q => mH A q h) (show z_ur (z_u (z_u (z_u ((yRo τ).2) 3 0 (-1)) 2 0 0) 12 0 ((yRo τ).2 13 0)) 8 (fun i => if 0 ≤ i ∧ i < 4 * (yRo τ).2 13 0 then (yRo τ).2 9 i else (yRo τ).2 8 i) = z_ur (z_ur (z_u (z_u (z_u ((yRo τ).2) 3 0 (-1)) 2 0 0) 12 0 ((yRo τ).2 13 0)) 8 (fun i => if 0 ≤ i ∧ i < 4 * (yRo τ).2 13 0 then (yRo τ).2 9 i else (yRo τ).2 8 i)) 10 (fun i => if 0 ≤ i ∧ i < 0 then (yRo τ).2 11 i else (yRo τ).2 10 i) from (z_ur_id (fun i => if_neg (by omega))))) ?_
            exact lp82 _ 0 (Nat.lt_succ_self _) (by omega)
          · refine z_aload hY eX8_setOrder_62 0 rfl ?_
            refine m_gf hY hA eX8_setOrder_63 (v := .ref (A 8)) rfl ?_
            refine z_iload hY eX8_setOrder_66 1 rfl ?_
            refine z_aload hY eX8_setOrder_67 0 rfl ?_
            refine m_gf hY hA eX8_setOrder_68 (v := .ref (A 9)) rfl ?_
            refine z_iload hY eX8_setOrder_71 1 rfl ?_
            refine m_ial hY hA eX8_setOrder_72 (j := 9) (N := 16) (x := (yRo τ).2 9 k) (by decide) rfl (by omega) (by simp [z_u, z_ur]) ?_
            refine m_ias hY hA eX8_setOrder_73 (j := 8) (N := 16) (by decide) (fun _ => rfl) (by omega) ?_
            refine z_iinc hY eX8_setOrder_74 1 rfl (ls' := [(2, z_i (k + 1)), (0, .ref (A 40))]) rfl ?_
            refine z_goto hY eX8_setOrder_77 ?_
            refine z_sub [1, 0] (ls' := [(0, .ref (A 40)), (2, z_i (k + 1))]) rfl ?_
            refine z_heq (congrArg (fun q => mH A q h) (show z_u (z_ur (z_u (z_u (z_u ((yRo τ).2) 3 0 (-1)) 2 0 0) 12 0 ((yRo τ).2 13 0)) 8 (fun i => if 0 ≤ i ∧ i < k then (yRo τ).2 9 i else (yRo τ).2 8 i)) 8 k ((yRo τ).2 9 k) = z_ur (z_u (z_u (z_u ((yRo τ).2) 3 0 (-1)) 2 0 0) 12 0 ((yRo τ).2 13 0)) 8 (fun i => if 0 ≤ i ∧ i < (k + 1) then (yRo τ).2 9 i else (yRo τ).2 8 i) from (z_ur_u (if_pos (by omega)) (fun j hj => by show ite _ _ _ = ite _ _ _; split <;> split <;> first | rfl | (exfalso; omega))))) ?_
            exact ih52 (k + 1) (by omega) (by omega)
      refine z_heq (congrArg (fun q => mH A q h) (show z_u (z_u (z_u ((yRo τ).2) 3 0 (-1)) 2 0 0) 12 0 ((yRo τ).2 13 0) = z_ur (z_u (z_u (z_u ((yRo τ).2) 3 0 (-1)) 2 0 0) 12 0 ((yRo τ).2 13 0)) 8 (fun i => if 0 ≤ i ∧ i < 0 then (yRo τ).2 9 i else (yRo τ).2 8 i) from (z_ur_id (fun i => if_neg (by omega))))) ?_
      exact lp52 _ 0 (Nat.lt_succ_self _) (by omega)
    · refine z_callV (As := [z_i ((yRo τ).1), z_i 1]) (rest := []) hY eX8_setOrder_34 (m_failsX_f hG hA (σ := z_u (z_u ((yRo τ).2) 3 0 (-1)) 2 0 0) h000 (by omega) (by omega)) (mH_at hA (k := 40) (by decide)) (by decide) (Nat.le_of_ble_eq_true rfl) ⟨Nat.zero_le _, Nat.zero_le _⟩ (fun _ _ q => q.elim) (fun v9 h9 q9 => ?_)
      obtain ⟨rfl, rfl⟩ := q9
      refine z_ifeq hY eX8_setOrder_37 (by omega) (fun c => absurd c (by omega)) (fun _ => ?_)
      refine z_const hY eX8_setOrder_40 ?_
      exact z_ireturn hY eX8_setOrder_41 rfl (by rw [hφ]; first | (exfalso; omega) | exact ⟨1, _, _, rfl, rfl, by unfold S_setOrder; rw [if_neg (by omega)]; exact ⟨rfl, rfl⟩⟩) ⟨Nat.zero_le _, Nat.zero_le _⟩
end M6
