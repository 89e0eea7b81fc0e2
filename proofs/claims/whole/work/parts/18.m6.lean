/-! THE MODEL's tape and its reader (laid by wip/whole/gen/gm6.py). -/
section M6
/-- what holds while the model reads: at, the tape, the value, newCriteria, the token -/
def mP (σ : z_S) : Prop := (0 ≤ σ 7 0 ∧ σ 7 0 ≤ σ 2 0 ∧ σ 2 0 ≤ 100) ∧ (∀ i : Int, 0 ≤ σ 1 i ∧ σ 1 i ≤ 255) ∧ (-1000000 ≤ σ 6 0 ∧ σ 6 0 ≤ 1000000) ∧ (0 ≤ σ 13 0 ∧ σ 13 0 ≤ 4) ∧ (0 ≤ σ 4 0 ∧ σ 4 0 ≤ 4) ∧ (σ 4 0 = 3 → 97 ≤ σ 6 0 ∧ σ 6 0 ≤ 100)
/-- behind the blanks; behind the digits; what the first three digits say -/
def ySk (σ : z_S) : Nat → Int → Int
  | 0, i => i
  | f + 1, i => if σ 1 i = 32 ∨ σ 1 i = 10 then ySk σ f (i + 1) else i
abbrev yDi (σ : z_S) (i : Int) : Prop := 48 ≤ σ 1 i ∧ σ 1 i ≤ 57
def yDe (σ : z_S) : Nat → Int → Int
  | 0, i => i
  | f + 1, i => if yDi σ i then yDe σ f (i + 1) else i
def yDv (σ : z_S) : Nat → Int → Int → Int → Int
  | 0, _, _, v => v
  | f + 1, i, d, v => if yDi σ i then yDv σ f (i + 1) (d + 1) (if d < 3 then 10 * v + σ 1 i - 48 else v) else v
def yA (σ : z_S) : Int := ySk σ (σ 2 0 - σ 7 0).toNat (σ 7 0)
def yE (σ : z_S) : Int := yDe σ (σ 2 0 - yA σ).toNat (yA σ)
def yW (σ : z_S) : Int := yDv σ (σ 2 0 - yA σ).toNat (yA σ) 0 0
/-- the token's kind at a byte that is no digit -/
def yTo (b : Int) : Int := if sgn b then 1 else if 97 ≤ b ∧ b ≤ 100 then 3 else 4
/-- the state behind reads() -/
def yRd (σ : z_S) : z_S := if yA σ = σ 2 0 then z_u (z_u (z_u σ 7 0 (yA σ)) 5 0 (yA σ)) 4 0 0
  else if 48 ≤ σ 1 (yA σ) ∧ σ 1 (yA σ) ≤ 57 then z_u (z_u (z_u (z_u σ 7 0 (yE σ)) 5 0 (yA σ)) 4 0 (if yE σ - yA σ ≤ 3 then 2 else 4)) 6 0 (yW σ)
  else z_u (z_u (z_u (z_u σ 7 0 (yA σ + 1)) 5 0 (yA σ)) 4 0 (yTo (σ 1 (yA σ)))) 6 0 (σ 1 (yA σ))
theorem ySk_t {σ : z_S} {m i : Int} (h : i < m) (hp : σ 1 i = 32 ∨ σ 1 i = 10) : ySk σ (m - i).toNat i = ySk σ (m - (i + 1)).toNat (i + 1) := by
  rw [show (m - i).toNat = (m - (i + 1)).toNat + 1 by omega]
  exact if_pos hp
theorem ySk_f {σ : z_S} {m i : Int} (h : m ≤ i ∨ ¬ (σ 1 i = 32 ∨ σ 1 i = 10)) : ySk σ (m - i).toNat i = i := by
  by_cases hm : m ≤ i
  · rw [show (m - i).toNat = 0 by omega]; rfl
  · rw [show (m - i).toNat = (m - (i + 1)).toNat + 1 by omega]
    exact if_neg (h.resolve_left hm)
theorem yDe_t {σ : z_S} {m i : Int} (h : i < m) (hp : yDi σ i) : yDe σ (m - i).toNat i = yDe σ (m - (i + 1)).toNat (i + 1) := by
  rw [show (m - i).toNat = (m - (i + 1)).toNat + 1 by omega]
  exact if_pos hp
theorem yDe_f {σ : z_S} {m i : Int} (h : m ≤ i ∨ ¬ yDi σ i) : yDe σ (m - i).toNat i = i := by
  by_cases hm : m ≤ i
  · rw [show (m - i).toNat = 0 by omega]; rfl
  · rw [show (m - i).toNat = (m - (i + 1)).toNat + 1 by omega]
    exact if_neg (h.resolve_left hm)
theorem yDv_t {σ : z_S} {m i d v : Int} (h : i < m) (hp : yDi σ i) : yDv σ (m - i).toNat i d v = yDv σ (m - (i + 1)).toNat (i + 1) (d + 1) (if d < 3 then 10 * v + σ 1 i - 48 else v) := by
  rw [show (m - i).toNat = (m - (i + 1)).toNat + 1 by omega]
  exact if_pos hp
theorem yDv_f {σ : z_S} {m i d v : Int} (h : m ≤ i ∨ ¬ yDi σ i) : yDv σ (m - i).toNat i d v = v := by
  by_cases hm : m ≤ i
  · rw [show (m - i).toNat = 0 by omega]; rfl
  · rw [show (m - i).toNat = (m - (i + 1)).toNat + 1 by omega]
    exact if_neg (h.resolve_left hm)
theorem ySk_b {σ : z_S} : ∀ (f : Nat) (i : Int), i ≤ ySk σ f i ∧ ySk σ f i ≤ i + f := by
  intro f
  induction f with
  | zero => intro i; exact ⟨by show i ≤ i; omega, by show i ≤ i + ((0 : Nat) : Int); omega⟩
  | succ f ih =>
    intro i
    show i ≤ ite _ _ _ ∧ ite _ _ _ ≤ _
    have := ih (i + 1)
    split <;> omega
theorem yDe_b {σ : z_S} : ∀ (f : Nat) (i : Int), i ≤ yDe σ f i ∧ yDe σ f i ≤ i + f := by
  intro f
  induction f with
  | zero => intro i; exact ⟨by show i ≤ i; omega, by show i ≤ i + ((0 : Nat) : Int); omega⟩
  | succ f ih =>
    intro i
    show i ≤ ite _ _ _ ∧ ite _ _ _ ≤ _
    have := ih (i + 1)
    split <;> omega
theorem yDv_b {σ : z_S} : ∀ (f : Nat) (i d v : Int), 0 ≤ d → 0 ≤ v → v ≤ 10 ^ (min d 3).toNat - 1 → 0 ≤ yDv σ f i d v ∧ yDv σ f i d v ≤ 999 := by
  intro f
  induction f with
  | zero =>
    intro i d v h0 h1 h2
    show 0 ≤ v ∧ v ≤ 999
    refine ⟨h1, Int.le_trans h2 ?_⟩
    rcases (show (min d 3).toNat = 0 ∨ (min d 3).toNat = 1 ∨ (min d 3).toNat = 2 ∨ (min d 3).toNat = 3 by omega) with e | e | e | e <;> rw [e] <;> decide
  | succ f ih =>
    intro i d v h0 h1 h2
    show 0 ≤ ite _ _ _ ∧ ite _ _ _ ≤ _
    split
    · rename_i hd
      refine ih _ _ _ (by omega) (by split <;> omega) ?_
      rcases (show d = 0 ∨ d = 1 ∨ d = 2 ∨ 3 ≤ d by omega) with rfl | rfl | rfl | e
      · rw [if_pos (by omega)]
        have h3 : v ≤ 0 := h2
        show _ ≤ (10 : Int) - 1
        omega
      · rw [if_pos (by omega)]
        have h3 : v ≤ 9 := h2
        show _ ≤ (100 : Int) - 1
        omega
      · rw [if_pos (by omega)]
        have h3 : v ≤ 99 := h2
        show _ ≤ (1000 : Int) - 1
        omega
      · rw [if_neg (by omega), show min (d + 1) 3 = 3 by omega]
        rw [show min d 3 = 3 by omega] at h2
        exact h2
    · refine ⟨h1, Int.le_trans h2 ?_⟩
      rcases (show (min d 3).toNat = 0 ∨ (min d 3).toNat = 1 ∨ (min d 3).toNat = 2 ∨ (min d 3).toNat = 3 by omega) with e | e | e | e <;> rw [e] <;> decide
theorem yA_b {σ : z_S} (hP : mP σ) : σ 7 0 ≤ yA σ ∧ yA σ ≤ σ 2 0 := by
  have := ySk_b (σ := σ) (σ 2 0 - σ 7 0).toNat (σ 7 0)
  have := hP.1
  unfold yA
  omega
theorem yE_b {σ : z_S} (hP : mP σ) : yA σ ≤ yE σ ∧ yE σ ≤ σ 2 0 := by
  have := yDe_b (σ := σ) (σ 2 0 - yA σ).toNat (yA σ)
  have := yA_b hP
  unfold yE
  omega
theorem yW_b {σ : z_S} : 0 ≤ yW σ ∧ yW σ ≤ 999 := yDv_b _ _ _ _ (by omega) (by omega) (by decide)
theorem mP_yRd {σ : z_S} (hP : mP σ) : mP (yRd σ) := by
  have ha := yA_b hP
  have he := yE_b hP
  have hw := yW_b (σ := σ)
  obtain ⟨q1, q2, q3, q4, q5, q6⟩ := hP
  have hb := q2 (yA σ)
  unfold yRd
  split
  · refine ⟨?_, q2, q3, q4, ?_, ?_⟩
    · show 0 ≤ yA σ ∧ yA σ ≤ σ 2 0 ∧ σ 2 0 ≤ 100
      omega
    · show (0 : Int) ≤ 0 ∧ (0 : Int) ≤ 4
      omega
    · intro (h : (0 : Int) = 3)
      omega
  · split
    · refine ⟨?_, q2, ?_, q4, ?_, ?_⟩
      · show 0 ≤ yE σ ∧ yE σ ≤ σ 2 0 ∧ σ 2 0 ≤ 100
        omega
      · show -1000000 ≤ yW σ ∧ yW σ ≤ 1000000
        omega
      · show 0 ≤ (if yE σ - yA σ ≤ 3 then (2 : Int) else 4) ∧ (if yE σ - yA σ ≤ 3 then (2 : Int) else 4) ≤ 4
        split <;> omega
      · intro (h : (if yE σ - yA σ ≤ 3 then (2 : Int) else 4) = 3)
        split at h <;> omega
    · refine ⟨?_, q2, ?_, q4, ?_, ?_⟩
      · show 0 ≤ yA σ + 1 ∧ yA σ + 1 ≤ σ 2 0 ∧ σ 2 0 ≤ 100
        omega
      · show -1000000 ≤ σ 1 (yA σ) ∧ σ 1 (yA σ) ≤ 1000000
        omega
      · show 0 ≤ yTo (σ 1 (yA σ)) ∧ yTo (σ 1 (yA σ)) ≤ 4
        unfold yTo
        split
        · omega
        · split <;> omega
      · intro (h : yTo (σ 1 (yA σ)) = 3)
        show 97 ≤ σ 1 (yA σ) ∧ σ 1 (yA σ) ≤ 100
        unfold yTo at h
        split at h
        · omega
        · split at h <;> omega
theorem yRd_k {σ : z_S} {k : Nat} (hk : k ≠ 4 ∧ k ≠ 5 ∧ k ≠ 6 ∧ k ≠ 7) : yRd σ k = σ k := by
  unfold yRd
  split
  · rw [z_u_ne hk.1, z_u_ne hk.2.1, z_u_ne hk.2.2.2]
  · split
    · rw [z_u_ne hk.2.2.1, z_u_ne hk.1, z_u_ne hk.2.1, z_u_ne hk.2.2.2]
    · rw [z_u_ne hk.2.2.1, z_u_ne hk.1, z_u_ne hk.2.1, z_u_ne hk.2.2.2]
/-- readsTerm(s): whether it holds, and the state behind it -/
def yTt (σ : z_S) (s t : Int) : Int × z_S := if σ 4 0 ≠ 3 then (0, σ) else (1, yRd (z_u σ 9 (4 * σ 13 0 + σ 6 0 - 97) (σ 9 (4 * σ 13 0 + σ 6 0 - 97) + s * t)))
def yRt (σ : z_S) (s : Int) : Int × z_S := if σ 4 0 = 2 then (if yRd σ 4 0 = 1 ∧ yRd σ 6 0 = 42 then yTt (yRd (yRd σ)) s (σ 6 0) else (0, yRd σ)) else yTt σ s 1
theorem mP_u9 {σ : z_S} (hP : mP σ) {i v : Int} : mP (z_u σ 9 i v) := hP
theorem mP_u11 {σ : z_S} (hP : mP σ) {i v : Int} : mP (z_u σ 11 i v) := hP
theorem mP_yTt {σ : z_S} (hP : mP σ) (s t : Int) : mP (yTt σ s t).2 := by
  unfold yTt
  split
  · exact hP
  · exact mP_yRd (mP_u9 hP)
theorem mP_yRt {σ : z_S} (hP : mP σ) (s : Int) : mP (yRt σ s).2 := by
  unfold yRt
  split
  · split
    · exact mP_yTt (mP_yRd (mP_yRd hP)) _ _
    · exact mP_yRd hP
  · exact mP_yTt hP _ _
theorem yRt_01 (σ : z_S) (s : Int) : (yRt σ s).1 = 0 ∨ (yRt σ s).1 = 1 := by
  unfold yRt yTt
  (repeat' split) <;> first | exact Or.inl rfl | exact Or.inr rfl
theorem yRt_k {σ : z_S} {s : Int} {k : Nat} (hk : k ≠ 4 ∧ k ≠ 5 ∧ k ≠ 6 ∧ k ≠ 7 ∧ k ≠ 9) : (yRt σ s).2 k = σ k := by
  have h4 : k ≠ 4 ∧ k ≠ 5 ∧ k ≠ 6 ∧ k ≠ 7 := ⟨hk.1, hk.2.1, hk.2.2.1, hk.2.2.2.1⟩
  have ht : ∀ ρ t, (yTt ρ s t).2 k = ρ k := by
    intro ρ t
    unfold yTt
    split
    · rfl
    · exact (yRd_k h4).trans (z_u_ne hk.2.2.2.2)
  unfold yRt
  split
  · split
    · rw [ht, yRd_k h4, yRd_k h4]
    · exact yRd_k h4
  · exact ht _ _
/-- the terms behind the first one -/
def yTl : Nat → z_S → Int × z_S
  | 0, σ => if σ 4 0 = 1 ∧ (σ 6 0 = 43 ∨ σ 6 0 = 45) then (0, yRd σ) else (1, σ)
  | f + 1, σ => if σ 4 0 = 1 ∧ (σ 6 0 = 43 ∨ σ 6 0 = 45) then (if (yRt (yRd σ) (if σ 6 0 = 43 then 1 else -1)).1 = 0 then yRt (yRd σ) (if σ 6 0 = 43 then 1 else -1) else yTl f (yRt (yRd σ) (if σ 6 0 = 43 then 1 else -1)).2) else (1, σ)
def yC0 (σ : z_S) : z_S := z_u (z_u (z_u (z_u (z_u σ 11 (σ 13 0) (if σ 6 0 = 62 then 1 else 0)) 9 (4 * σ 13 0) 0) 9 (4 * σ 13 0 + 1) 0) 9 (4 * σ 13 0 + 2) 0) 9 (4 * σ 13 0 + 3) 0
def yNc (q : Int × z_S) : Int × z_S := if q.1 = 0 then q else (1, z_u q.2 13 0 (q.2 13 0 + 1))
abbrev yGo (σ : z_S) : Prop := σ 4 0 = 1 ∧ (σ 6 0 = 62 ∨ σ 6 0 = 60) ∧ σ 13 0 ≠ 4
/-- readsCriterion() -/
def yRc (σ : z_S) : Int × z_S := if yGo σ then yNc (if (yRt (yRd (yC0 σ)) 1).1 = 0 then yRt (yRd (yC0 σ)) 1 else yTl 3 (yRt (yRd (yC0 σ)) 1).2) else (0, σ)
/-- the criteria behind the first one -/
def yCl2 : Nat → z_S → Int × z_S
  | 0, σ => (0, σ)
  | f + 1, σ => if σ 4 0 = 1 ∧ σ 6 0 = 59 then (if (yRc (yRd σ)).1 = 0 then yRc (yRd σ) else yCl2 f (yRc (yRd σ)).2) else (if σ 4 0 = 0 then 1 else 0, σ)
def yRo0 (σ : z_S) : z_S := yRd (z_u (z_u σ 7 0 0) 13 0 0)
/-- readsOrder() -/
def yRo (σ : z_S) : Int × z_S := if (yRc (yRo0 σ)).1 = 0 then yRc (yRo0 σ) else yCl2 5 (yRc (yRo0 σ)).2

theorem m_takesBytes {G : z_G} {A : Nat → Nat} {σ : z_S} {h : z_H} (hG : z_OK G) (hA : mI A) {v : Int} (hr : -2147483648 ≤ v ∧ v ≤ 2147483647) (hroom : σ 2 0 + yBy v ≤ 100) (h20 : 0 ≤ σ 2 0) : z_T G mX8_takesBytes [.ref (A 40), z_i v] (mH A σ h) 0 0 0 (fun v' h' => v' = none ∧ h' = mH A (yTk σ v) h) (z_no) := by
  refine z_T_of hG pX8_takesBytes (Nat.le_of_ble_eq_true rfl) (ls0 := [(0, .ref (A 40)), (1, z_i v)]) rfl fun Y hY hg hmc hms hφ hψ => ?_
  subst hg
  unfold yBy at hroom
  refine z_const hY eX8_takesBytes_0 ?_
  refine z_istore hY eX8_takesBytes_2 (ls' := [(2, z_i 24), (0, .ref (A 40)), (1, z_i v)]) rfl ?_
  refine z_iload hY eX8_takesBytes_3 0 rfl ?_
  refine z_iflt hY eX8_takesBytes_4 (by omega) (fun c => absurd c (by omega)) (fun _ => ?_)
  refine z_iload hY eX8_takesBytes_7 2 rfl ?_
  refine z_iload hY eX8_takesBytes_8 0 rfl ?_
  refine z_ishr hY eX8_takesBytes_9 (by omega) (D := 16777216) (by unfold z_sk; omega) ?_
  refine z_const hY eX8_takesBytes_10 ?_
  refine z_iand255 hY eX8_takesBytes_13 ?_
  refine z_istore hY eX8_takesBytes_14 (ls' := [(3, z_i ((v / 16777216) % 256)), (2, z_i 24), (0, .ref (A 40)), (1, z_i v)]) rfl ?_
  refine z_iload hY eX8_takesBytes_15 0 rfl ?_
  have h2n1 := yPb_2 σ ((v / 16777216) % 256)
  have hJ2 : z_W Y 42 [(2, z_i 24), (0, .ref (A 40)), (1, z_i v)] [] (mH A (yPb σ ((v / 16777216) % 256)) h) 0 0 := by
    refine z_iinc hY eX8_takesBytes_42 0 rfl (ls' := [(2, z_i (24 + (-8))), (0, .ref (A 40)), (1, z_i v)]) rfl ?_
    refine z_lq (ls' := [(2, z_i 16), (0, .ref (A 40)), (1, z_i v)]) rfl ?_
    refine z_goto hY eX8_takesBytes_45 ?_
    refine z_iload hY eX8_takesBytes_3 0 rfl ?_
    refine z_iflt hY eX8_takesBytes_4 (by omega) (fun c => absurd c (by omega)) (fun _ => ?_)
    refine z_iload hY eX8_takesBytes_7 2 rfl ?_
    refine z_iload hY eX8_takesBytes_8 0 rfl ?_
    refine z_ishr hY eX8_takesBytes_9 (by omega) (D := 65536) (by unfold z_sk; omega) ?_
    refine z_const hY eX8_takesBytes_10 ?_
    refine z_iand255 hY eX8_takesBytes_13 ?_
    refine z_istore hY eX8_takesBytes_14 (ls' := [(3, z_i ((v / 65536) % 256)), (2, z_i 16), (0, .ref (A 40)), (1, z_i v)]) rfl ?_
    refine z_iload hY eX8_takesBytes_15 0 rfl ?_
    have h2n3 := yPb_2 (yPb σ ((v / 16777216) % 256)) ((v / 65536) % 256)
    have hJ4 : z_W Y 42 [(2, z_i 16), (0, .ref (A 40)), (1, z_i v)] [] (mH A (yPb (yPb σ ((v / 16777216) % 256)) ((v / 65536) % 256)) h) 0 0 := by
      refine z_iinc hY eX8_takesBytes_42 0 rfl (ls' := [(2, z_i (16 + (-8))), (0, .ref (A 40)), (1, z_i v)]) rfl ?_
      refine z_lq (ls' := [(2, z_i 8), (0, .ref (A 40)), (1, z_i v)]) rfl ?_
      refine z_goto hY eX8_takesBytes_45 ?_
      refine z_iload hY eX8_takesBytes_3 0 rfl ?_
      refine z_iflt hY eX8_takesBytes_4 (by omega) (fun c => absurd c (by omega)) (fun _ => ?_)
      refine z_iload hY eX8_takesBytes_7 2 rfl ?_
      refine z_iload hY eX8_takesBytes_8 0 rfl ?_
      refine z_ishr hY eX8_takesBytes_9 (by omega) (D := 256) (by unfold z_sk; omega) ?_
      refine z_const hY eX8_takesBytes_10 ?_
      refine z_iand255 hY eX8_takesBytes_13 ?_
      refine z_istore hY eX8_takesBytes_14 (ls' := [(3, z_i ((v / 256) % 256)), (2, z_i 8), (0, .ref (A 40)), (1, z_i v)]) rfl ?_
      refine z_iload hY eX8_takesBytes_15 0 rfl ?_
      have h2n5 := yPb_2 (yPb (yPb σ ((v / 16777216) % 256)) ((v / 65536) % 256)) ((v / 256) % 256)
      have hJ6 : z_W Y 42 [(2, z_i 8), (0, .ref (A 40)), (1, z_i v)] [] (mH A (yPb (yPb (yPb σ ((v / 16777216) % 256)) ((v / 65536) % 256)) ((v / 256) % 256)) h) 0 0 := by
        refine z_iinc hY eX8_takesBytes_42 0 rfl (ls' := [(2, z_i (8 + (-8))), (0, .ref (A 40)), (1, z_i v)]) rfl ?_
        refine z_lq (ls' := [(2, z_i 0), (0, .ref (A 40)), (1, z_i v)]) rfl ?_
        refine z_goto hY eX8_takesBytes_45 ?_
        refine z_iload hY eX8_takesBytes_3 0 rfl ?_
        refine z_iflt hY eX8_takesBytes_4 (by omega) (fun c => absurd c (by omega)) (fun _ => ?_)
        refine z_iload hY eX8_takesBytes_7 2 rfl ?_
        refine z_iload hY eX8_takesBytes_8 0 rfl ?_
        refine z_ishr hY eX8_takesBytes_9 (by omega) (D := 1) (by unfold z_sk; omega) ?_
        refine z_const hY eX8_takesBytes_10 ?_
        refine z_iand255 hY eX8_takesBytes_13 ?_
        refine z_istore hY eX8_takesBytes_14 (ls' := [(3, z_i ((v / 1) % 256)), (2, z_i 0), (0, .ref (A 40)), (1, z_i v)]) rfl ?_
        refine z_iload hY eX8_takesBytes_15 0 rfl ?_
        have h2n7 := yPb_2 (yPb (yPb (yPb σ ((v / 16777216) % 256)) ((v / 65536) % 256)) ((v / 256) % 256)) ((v / 1) % 256)
        have hJ8 : z_W Y 42 [(2, z_i 0), (0, .ref (A 40)), (1, z_i v)] [] (mH A (yPb (yPb (yPb (yPb σ ((v / 16777216) % 256)) ((v / 65536) % 256)) ((v / 256) % 256)) ((v / 1) % 256)) h) 0 0 := by
          refine z_iinc hY eX8_takesBytes_42 0 rfl (ls' := [(2, z_i (0 + (-8))), (0, .ref (A 40)), (1, z_i v)]) rfl ?_
          refine z_lq (ls' := [(2, z_i (-8)), (0, .ref (A 40)), (1, z_i v)]) rfl ?_
          refine z_goto hY eX8_takesBytes_45 ?_
          refine z_iload hY eX8_takesBytes_3 0 rfl ?_
          refine z_iflt hY eX8_takesBytes_4 (by omega) (fun _ => ?_) (fun c => absurd c (by omega))
          exact z_return hY eX8_takesBytes_48 rfl (by rw [hφ]; exact ⟨rfl, rfl⟩) ⟨Nat.zero_le _, Nat.zero_le _⟩
        refine z_ifne hY eX8_takesBytes_16 (by omega) (fun c16 => ?_) (fun c16 => ?_)
        · refine z_aload hY eX8_takesBytes_22 2 rfl ?_
          refine m_gf hY hA eX8_takesBytes_23 (v := .ref (A 1)) rfl ?_
          refine z_aload hY eX8_takesBytes_26 2 rfl ?_
          refine m_gf hY hA eX8_takesBytes_27 (v := z_i ((yPb (yPb (yPb σ ((v / 16777216) % 256)) ((v / 65536) % 256)) ((v / 256) % 256)) 2 0)) rfl ?_
          refine z_iload hY eX8_takesBytes_30 0 rfl ?_
          refine m_ias hY hA eX8_takesBytes_31 (j := 1) (N := 100) (by decide) (fun _ => rfl) (by omega) ?_
          refine z_aload hY eX8_takesBytes_32 2 rfl ?_
          refine z_dup hY eX8_takesBytes_33 rfl ?_
          refine m_gf hY hA eX8_takesBytes_34 (v := z_i ((yPb (yPb (yPb σ ((v / 16777216) % 256)) ((v / 65536) % 256)) ((v / 256) % 256)) 2 0)) (by simp [mF, z_u, z_ur]) ?_
          refine z_const hY eX8_takesBytes_37 ?_
          refine z_iadd hY eX8_takesBytes_38 ?_
          refine m_pf hY hA eX8_takesBytes_39 (by decide) ?_
          refine z_sub [1, 2, 3] (ls' := [(2, z_i 0), (0, .ref (A 40)), (1, z_i v)]) rfl ?_
          exact z_heq (congrArg (fun q => mH A q h) (show z_u (z_u (yPb (yPb (yPb σ ((v / 16777216) % 256)) ((v / 65536) % 256)) ((v / 256) % 256)) 1 ((yPb (yPb (yPb σ ((v / 16777216) % 256)) ((v / 65536) % 256)) ((v / 256) % 256)) 2 0) ((v / 1) % 256)) 2 0 (((yPb (yPb (yPb σ ((v / 16777216) % 256)) ((v / 65536) % 256)) ((v / 256) % 256)) 2 0) + 1) = (yPb (yPb (yPb (yPb σ ((v / 16777216) % 256)) ((v / 65536) % 256)) ((v / 256) % 256)) ((v / 1) % 256)) from (by unfold yPb; first | exact (if_pos (by omega)).symm | exact (if_neg (by omega)).symm))) hJ8
        · refine z_goto hY eX8_takesBytes_19 ?_
          refine z_sub [1, 2, 3] (ls' := [(2, z_i 0), (0, .ref (A 40)), (1, z_i v)]) rfl ?_
          exact z_heq (congrArg (fun q => mH A q h) (show (yPb (yPb (yPb σ ((v / 16777216) % 256)) ((v / 65536) % 256)) ((v / 256) % 256)) = (yPb (yPb (yPb (yPb σ ((v / 16777216) % 256)) ((v / 65536) % 256)) ((v / 256) % 256)) ((v / 1) % 256)) from (by unfold yPb; first | exact (if_pos (by omega)).symm | exact (if_neg (by omega)).symm))) hJ8
      refine z_ifne hY eX8_takesBytes_16 (by omega) (fun c16 => ?_) (fun c16 => ?_)
      · refine z_aload hY eX8_takesBytes_22 2 rfl ?_
        refine m_gf hY hA eX8_takesBytes_23 (v := .ref (A 1)) rfl ?_
        refine z_aload hY eX8_takesBytes_26 2 rfl ?_
        refine m_gf hY hA eX8_takesBytes_27 (v := z_i ((yPb (yPb σ ((v / 16777216) % 256)) ((v / 65536) % 256)) 2 0)) rfl ?_
        refine z_iload hY eX8_takesBytes_30 0 rfl ?_
        refine m_ias hY hA eX8_takesBytes_31 (j := 1) (N := 100) (by decide) (fun _ => rfl) (by omega) ?_
        refine z_aload hY eX8_takesBytes_32 2 rfl ?_
        refine z_dup hY eX8_takesBytes_33 rfl ?_
        refine m_gf hY hA eX8_takesBytes_34 (v := z_i ((yPb (yPb σ ((v / 16777216) % 256)) ((v / 65536) % 256)) 2 0)) (by simp [mF, z_u, z_ur]) ?_
        refine z_const hY eX8_takesBytes_37 ?_
        refine z_iadd hY eX8_takesBytes_38 ?_
        refine m_pf hY hA eX8_takesBytes_39 (by decide) ?_
        refine z_sub [1, 2, 3] (ls' := [(2, z_i 8), (0, .ref (A 40)), (1, z_i v)]) rfl ?_
        exact z_heq (congrArg (fun q => mH A q h) (show z_u (z_u (yPb (yPb σ ((v / 16777216) % 256)) ((v / 65536) % 256)) 1 ((yPb (yPb σ ((v / 16777216) % 256)) ((v / 65536) % 256)) 2 0) ((v / 256) % 256)) 2 0 (((yPb (yPb σ ((v / 16777216) % 256)) ((v / 65536) % 256)) 2 0) + 1) = (yPb (yPb (yPb σ ((v / 16777216) % 256)) ((v / 65536) % 256)) ((v / 256) % 256)) from (by unfold yPb; first | exact (if_pos (by omega)).symm | exact (if_neg (by omega)).symm))) hJ6
      · refine z_goto hY eX8_takesBytes_19 ?_
        refine z_sub [1, 2, 3] (ls' := [(2, z_i 8), (0, .ref (A 40)), (1, z_i v)]) rfl ?_
        exact z_heq (congrArg (fun q => mH A q h) (show (yPb (yPb σ ((v / 16777216) % 256)) ((v / 65536) % 256)) = (yPb (yPb (yPb σ ((v / 16777216) % 256)) ((v / 65536) % 256)) ((v / 256) % 256)) from (by unfold yPb; first | exact (if_pos (by omega)).symm | exact (if_neg (by omega)).symm))) hJ6
    refine z_ifne hY eX8_takesBytes_16 (by omega) (fun c16 => ?_) (fun c16 => ?_)
    · refine z_aload hY eX8_takesBytes_22 2 rfl ?_
      refine m_gf hY hA eX8_takesBytes_23 (v := .ref (A 1)) rfl ?_
      refine z_aload hY eX8_takesBytes_26 2 rfl ?_
      refine m_gf hY hA eX8_takesBytes_27 (v := z_i ((yPb σ ((v / 16777216) % 256)) 2 0)) rfl ?_
      refine z_iload hY eX8_takesBytes_30 0 rfl ?_
      refine m_ias hY hA eX8_takesBytes_31 (j := 1) (N := 100) (by decide) (fun _ => rfl) (by omega) ?_
      refine z_aload hY eX8_takesBytes_32 2 rfl ?_
      refine z_dup hY eX8_takesBytes_33 rfl ?_
      refine m_gf hY hA eX8_takesBytes_34 (v := z_i ((yPb σ ((v / 16777216) % 256)) 2 0)) (by simp [mF, z_u, z_ur]) ?_
      refine z_const hY eX8_takesBytes_37 ?_
      refine z_iadd hY eX8_takesBytes_38 ?_
      refine m_pf hY hA eX8_takesBytes_39 (by decide) ?_
      refine z_sub [1, 2, 3] (ls' := [(2, z_i 16), (0, .ref (A 40)), (1, z_i v)]) rfl ?_
      exact z_heq (congrArg (fun q => mH A q h) (show z_u (z_u (yPb σ ((v / 16777216) % 256)) 1 ((yPb σ ((v / 16777216) % 256)) 2 0) ((v / 65536) % 256)) 2 0 (((yPb σ ((v / 16777216) % 256)) 2 0) + 1) = (yPb (yPb σ ((v / 16777216) % 256)) ((v / 65536) % 256)) from (by unfold yPb; first | exact (if_pos (by omega)).symm | exact (if_neg (by omega)).symm))) hJ4
    · refine z_goto hY eX8_takesBytes_19 ?_
      refine z_sub [1, 2, 3] (ls' := [(2, z_i 16), (0, .ref (A 40)), (1, z_i v)]) rfl ?_
      exact z_heq (congrArg (fun q => mH A q h) (show (yPb σ ((v / 16777216) % 256)) = (yPb (yPb σ ((v / 16777216) % 256)) ((v / 65536) % 256)) from (by unfold yPb; first | exact (if_pos (by omega)).symm | exact (if_neg (by omega)).symm))) hJ4
  refine z_ifne hY eX8_takesBytes_16 (by omega) (fun c16 => ?_) (fun c16 => ?_)
  · refine z_aload hY eX8_takesBytes_22 2 rfl ?_
    refine m_gf hY hA eX8_takesBytes_23 (v := .ref (A 1)) rfl ?_
    refine z_aload hY eX8_takesBytes_26 2 rfl ?_
    refine m_gf hY hA eX8_takesBytes_27 (v := z_i (σ 2 0)) rfl ?_
    refine z_iload hY eX8_takesBytes_30 0 rfl ?_
    refine m_ias hY hA eX8_takesBytes_31 (j := 1) (N := 100) (by decide) (fun _ => rfl) (by omega) ?_
    refine z_aload hY eX8_takesBytes_32 2 rfl ?_
    refine z_dup hY eX8_takesBytes_33 rfl ?_
    refine m_gf hY hA eX8_takesBytes_34 (v := z_i (σ 2 0)) (by simp [mF, z_u, z_ur]) ?_
    refine z_const hY eX8_takesBytes_37 ?_
    refine z_iadd hY eX8_takesBytes_38 ?_
    refine m_pf hY hA eX8_takesBytes_39 (by decide) ?_
    refine z_sub [1, 2, 3] (ls' := [(2, z_i 24), (0, .ref (A 40)), (1, z_i v)]) rfl ?_
    exact z_heq (congrArg (fun q => mH A q h) (show z_u (z_u σ 1 (σ 2 0) ((v / 16777216) % 256)) 2 0 ((σ 2 0) + 1) = (yPb σ ((v / 16777216) % 256)) from (by unfold yPb; first | exact (if_pos (by omega)).symm | exact (if_neg (by omega)).symm))) hJ2
  · refine z_goto hY eX8_takesBytes_19 ?_
    refine z_sub [1, 2, 3] (ls' := [(2, z_i 24), (0, .ref (A 40)), (1, z_i v)]) rfl ?_
    exact z_heq (congrArg (fun q => mH A q h) (show σ = (yPb σ ((v / 16777216) % 256)) from (by unfold yPb; first | exact (if_pos (by omega)).symm | exact (if_neg (by omega)).symm))) hJ2
def S_append (σ : z_S) (a b k d e : Int) (c r : Int) (ρ : z_S) : Prop := if σ 2 0 + (yBy a + yBy b + yBy k + yBy d + yBy e) ≤ 100 then c = 0 ∧ r = σ 2 0 + (yBy a + yBy b + yBy k + yBy d + yBy e) ∧ ρ = yTk (yTk (yTk (yTk (yTk σ a) b) k) d) e else c = 1 ∧ ρ = z_u σ 0 0 1
theorem p_append {G : z_G} {A : Nat → Nat} {σ τ : z_S} {h : z_H} (hτ : z_u σ 0 0 0 = τ) (hG : z_OK G) (hA : mI A) (hB : mB τ) (hV : mV τ) {a b k d e : Int} (hr : -2147483648 ≤ a ∧ a ≤ 2147483647 ∧ -2147483648 ≤ b ∧ b ≤ 2147483647 ∧ -2147483648 ≤ k ∧ k ≤ 2147483647 ∧ -2147483648 ≤ d ∧ d ≤ 2147483647 ∧ -2147483648 ≤ e ∧ e ≤ 2147483647) : z_T G mX8_append [.ref (A 40), z_i a, z_i b, z_i k, z_i d, z_i e] (mH A σ h) 1 0 0 (fun v h' => ∃ (c r : Int) (ρ : z_S), v = some (z_i r) ∧ h' = mH A ρ h ∧ S_append τ a b k d e c r ρ) (z_no) := by
  have h00 : τ 0 0 = 0 := by rw [← hτ]; rfl
  obtain ⟨hf, hsc, hcm, hcr, hth, hgr, hlm, hld, hlo, hro, htm, hre, hpa, htp, hgp⟩ := id hV
  refine z_T_of hG pX8_append (Nat.le_of_ble_eq_true rfl) (ls0 := [(0, .ref (A 40)), (1, z_i a), (2, z_i b), (3, z_i k), (4, z_i d), (5, z_i e)]) rfl fun Y hY hg hmc hms hφ hψ => ?_
  subst hg
  refine z_aload hY eX8_append_0 0 rfl ?_
  refine z_const hY eX8_append_1 ?_
  refine m_pf hY hA eX8_append_2 (by decide) ?_
  rw [hτ]
  refine z_iload hY eX8_append_5 1 rfl ?_
  refine z_callSr (As := [z_i a]) (rest := []) (r := z_i (yBy a)) hY eX8_append_6 (m_bytesIn hG (by omega)) (by decide) (Nat.le_of_ble_eq_true rfl) ⟨Nat.zero_le _, Nat.zero_le _⟩ ?_
  have hc1 := yBy_b a
  refine z_iload hY eX8_append_9 2 rfl ?_
  refine z_callSr (As := [z_i b]) (rest := [z_i (yBy a)]) (r := z_i (yBy b)) hY eX8_append_10 (m_bytesIn hG (by omega)) (by decide) (Nat.le_of_ble_eq_true rfl) ⟨Nat.zero_le _, Nat.zero_le _⟩ ?_
  have hc2 := yBy_b b
  refine z_iadd hY eX8_append_13 ?_
  refine z_iload hY eX8_append_14 3 rfl ?_
  refine z_callSr (As := [z_i k]) (rest := [z_i ((yBy a) + (yBy b))]) (r := z_i (yBy k)) hY eX8_append_15 (m_bytesIn hG (by omega)) (by decide) (Nat.le_of_ble_eq_true rfl) ⟨Nat.zero_le _, Nat.zero_le _⟩ ?_
  have hc3 := yBy_b k
  refine z_iadd hY eX8_append_18 ?_
  refine z_iload hY eX8_append_19 4 rfl ?_
  refine z_callSr (As := [z_i d]) (rest := [z_i ((yBy a) + (yBy b) + (yBy k))]) (r := z_i (yBy d)) hY eX8_append_21 (m_bytesIn hG (by omega)) (by decide) (Nat.le_of_ble_eq_true rfl) ⟨Nat.zero_le _, Nat.zero_le _⟩ ?_
  have hc4 := yBy_b d
  refine z_iadd hY eX8_append_24 ?_
  refine z_iload hY eX8_append_25 5 rfl ?_
  refine z_callSr (As := [z_i e]) (rest := [z_i ((yBy a) + (yBy b) + (yBy k) + (yBy d))]) (r := z_i (yBy e)) hY eX8_append_27 (m_bytesIn hG (by omega)) (by decide) (Nat.le_of_ble_eq_true rfl) ⟨Nat.zero_le _, Nat.zero_le _⟩ ?_
  have hc5 := yBy_b e
  refine z_iadd hY eX8_append_30 ?_
  refine z_istore hY eX8_append_31 (ls' := [(6, z_i ((yBy a) + (yBy b) + (yBy k) + (yBy d) + (yBy e))), (0, .ref (A 40)), (1, z_i a), (2, z_i b), (3, z_i k), (4, z_i d), (5, z_i e)]) rfl ?_
  refine z_aload hY eX8_append_33 1 rfl ?_
  refine z_aload hY eX8_append_34 1 rfl ?_
  refine m_gf hY hA eX8_append_35 (v := z_i (τ 2 0)) rfl ?_
  refine z_iload hY eX8_append_38 0 rfl ?_
  refine z_iadd hY eX8_append_40 ?_
  refine z_top (b := (τ 2 0) + (yBy a) + (yBy b) + (yBy k) + (yBy d) + (yBy e)) (by omega) ?_
  refine z_const hY eX8_append_41 ?_
  refine z_icmpgt hY eX8_append_43 (by omega) (fun c43 => ?_) (fun c43 => ?_)
  · refine z_const hY eX8_append_50 ?_
    refine z_const hY eX8_append_51 ?_
    refine z_callV (As := [z_i 0, z_i 1]) (rest := []) hY eX8_append_52 (m_fails_f hG hA hB h00 (g := 0) (c := 1) (by omega) (by omega)) (mH_at hA (k := 40) (by decide)) (by decide) (Nat.le_of_ble_eq_true rfl) ⟨Nat.zero_le _, Nat.zero_le _⟩ (fun _ _ q => q.elim) (fun v7 h7 q7 => ?_)
    obtain ⟨rfl, rfl⟩ := q7
    refine z_ifeq hY eX8_append_55 (by omega) (fun c => absurd c (by omega)) (fun _ => ?_)
    refine z_const hY eX8_append_58 ?_
    exact z_ireturn hY eX8_append_59 rfl (by rw [hφ]; exact ⟨1, _, _, rfl, rfl, by unfold S_append; (repeat' split) <;> first | exact ⟨rfl, rfl, rfl⟩ | exact ⟨rfl, by omega, rfl⟩ | exact ⟨rfl, rfl⟩ | (exfalso; omega)⟩) ⟨Nat.zero_le _, Nat.zero_le _⟩
  · refine z_const hY eX8_append_46 ?_
    refine z_goto hY eX8_append_47 ?_
    refine z_const hY eX8_append_51 ?_
    refine z_callVr (As := [z_i 1, z_i 1]) (rest := []) (r := z_i 0) hY eX8_append_52 (m_fails_t hG hA hB h00 (g := 1) (c := 1) (by omega) (by omega)) (mH_at hA (k := 40) (by decide)) (by decide) (Nat.le_of_ble_eq_true rfl) ⟨Nat.zero_le _, Nat.zero_le _⟩ ?_
    refine z_ifeq hY eX8_append_55 (by omega) (fun _ => ?_) (fun c => absurd c (by omega))
    refine z_aload hY eX8_append_60 1 rfl ?_
    refine z_iload hY eX8_append_61 2 rfl ?_
    refine z_callV (As := [z_i a]) (rest := []) hY eX8_append_62 (m_takesBytes hG hA (v := a) (by omega) (by omega) (by omega)) (mH_at hA (k := 40) (by decide)) (by decide) (Nat.le_of_ble_eq_true rfl) ⟨Nat.zero_le _, Nat.zero_le _⟩ (fun _ _ q => q.elim) (fun v8 h8 q8 => ?_)
    obtain ⟨rfl, rfl⟩ := q8
    have h2n9 := yTk_2 τ a
    refine z_aload hY eX8_append_65 1 rfl ?_
    refine z_iload hY eX8_append_66 3 rfl ?_
    refine z_callV (As := [z_i b]) (rest := []) hY eX8_append_67 (m_takesBytes hG hA (v := b) (by omega) (by omega) (by omega)) (mH_at hA (k := 40) (by decide)) (by decide) (Nat.le_of_ble_eq_true rfl) ⟨Nat.zero_le _, Nat.zero_le _⟩ (fun _ _ q => q.elim) (fun v10 h10 q10 => ?_)
    obtain ⟨rfl, rfl⟩ := q10
    have h2n11 := yTk_2 (yTk τ a) b
    refine z_aload hY eX8_append_70 1 rfl ?_
    refine z_iload hY eX8_append_71 4 rfl ?_
    refine z_callV (As := [z_i k]) (rest := []) hY eX8_append_72 (m_takesBytes hG hA (v := k) (by omega) (by omega) (by omega)) (mH_at hA (k := 40) (by decide)) (by decide) (Nat.le_of_ble_eq_true rfl) ⟨Nat.zero_le _, Nat.zero_le _⟩ (fun _ _ q => q.elim) (fun v12 h12 q12 => ?_)
    obtain ⟨rfl, rfl⟩ := q12
    have h2n13 := yTk_2 (yTk (yTk τ a) b) k
    refine z_aload hY eX8_append_75 1 rfl ?_
    refine z_iload hY eX8_append_76 5 rfl ?_
    refine z_callV (As := [z_i d]) (rest := []) hY eX8_append_78 (m_takesBytes hG hA (v := d) (by omega) (by omega) (by omega)) (mH_at hA (k := 40) (by decide)) (by decide) (Nat.le_of_ble_eq_true rfl) ⟨Nat.zero_le _, Nat.zero_le _⟩ (fun _ _ q => q.elim) (fun v14 h14 q14 => ?_)
    obtain ⟨rfl, rfl⟩ := q14
    have h2n15 := yTk_2 (yTk (yTk (yTk τ a) b) k) d
    refine z_aload hY eX8_append_81 1 rfl ?_
    refine z_iload hY eX8_append_82 6 rfl ?_
    refine z_callV (As := [z_i e]) (rest := []) hY eX8_append_84 (m_takesBytes hG hA (v := e) (by omega) (by omega) (by omega)) (mH_at hA (k := 40) (by decide)) (by decide) (Nat.le_of_ble_eq_true rfl) ⟨Nat.zero_le _, Nat.zero_le _⟩ (fun _ _ q => q.elim) (fun v16 h16 q16 => ?_)
    obtain ⟨rfl, rfl⟩ := q16
    have h2n17 := yTk_2 (yTk (yTk (yTk (yTk τ a) b) k) d) e
    refine z_aload hY eX8_append_87 1 rfl ?_
    refine m_gf hY hA eX8_append_88 (v := z_i ((yTk (yTk (yTk (yTk (yTk τ a) b) k) d) e) 2 0)) rfl ?_
    exact z_ireturn hY eX8_append_91 rfl (by rw [hφ]; exact ⟨0, _, _, rfl, rfl, by unfold S_append; (repeat' split) <;> first | exact ⟨rfl, rfl, rfl⟩ | exact ⟨rfl, by omega, rfl⟩ | exact ⟨rfl, rfl⟩ | (exfalso; omega)⟩) ⟨Nat.zero_le _, Nat.zero_le _⟩
theorem m_sgn {G : z_G} {A : Nat → Nat} {σ : z_S} {h : z_H} (hG : z_OK G) (hA : mI A) (hP : mP σ) {b : Int} (hr : -2147483648 ≤ b ∧ b ≤ 2147483647) : z_Tr G mX8_isSignNow [.ref (A 40), z_i b] (mH A σ h) 0 (z_i (z_bl (σ 4 0 = 1 ∧ σ 6 0 = b))) := by
  obtain ⟨hp1, hp2, hp3, hp4, hp5, hp6⟩ := id hP
  refine z_T_of hG pX8_isSignNow (Nat.le_of_ble_eq_true rfl) (ls0 := [(0, .ref (A 40)), (1, z_i b)]) rfl fun Y hY hg hmc hms hφ hψ => ?_
  subst hg
  refine z_aload hY eX8_isSignNow_0 0 rfl ?_
  refine m_gf hY hA eX8_isSignNow_1 (v := z_i (σ 4 0)) rfl ?_
  refine z_const hY eX8_isSignNow_4 ?_
  refine z_icmpne hY eX8_isSignNow_5 (by omega) (fun c5 => ?_) (fun c5 => ?_)
  · refine z_const hY eX8_isSignNow_20 ?_
    exact z_zreturn hY eX8_isSignNow_21 rfl (by omega) (by rw [hφ]; exact ⟨congrArg (fun q => some (z_i q)) (by first | rfl | omega | (simp only [z_bl]; split <;> omega)), rfl⟩) ⟨Nat.zero_le _, Nat.zero_le _⟩
  · refine z_aload hY eX8_isSignNow_8 0 rfl ?_
    refine m_gf hY hA eX8_isSignNow_9 (v := z_i (σ 6 0)) rfl ?_
    refine z_iload hY eX8_isSignNow_12 1 rfl ?_
    refine z_icmpne hY eX8_isSignNow_13 (by omega) (fun c13 => ?_) (fun c13 => ?_)
    · refine z_const hY eX8_isSignNow_20 ?_
      exact z_zreturn hY eX8_isSignNow_21 rfl (by omega) (by rw [hφ]; exact ⟨congrArg (fun q => some (z_i q)) (by first | rfl | omega | (simp only [z_bl]; split <;> omega)), rfl⟩) ⟨Nat.zero_le _, Nat.zero_le _⟩
    · refine z_const hY eX8_isSignNow_16 ?_
      refine z_goto hY eX8_isSignNow_17 ?_
      exact z_zreturn hY eX8_isSignNow_21 rfl (by omega) (by rw [hφ]; exact ⟨congrArg (fun q => some (z_i q)) (by first | rfl | omega | (simp only [z_bl]; split <;> omega)), rfl⟩) ⟨Nat.zero_le _, Nat.zero_le _⟩
end M6
