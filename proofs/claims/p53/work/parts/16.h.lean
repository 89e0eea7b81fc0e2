/-! THE MODEL's methods that change it (laid by wip/whole/gen/gm4.py). -/
section M4
def z_ur (σ : z_S) (k : Nat) (f : Int → Int) : z_S := fun k' => if k' = k then f else σ k'
theorem z_ur_at {σ : z_S} {k : Nat} {f : Int → Int} : z_ur σ k f k = f := if_pos rfl
theorem z_ur_ne {σ : z_S} {k k' : Nat} {f : Int → Int} (h : k' ≠ k) : z_ur σ k f k' = σ k' := if_neg h
theorem z_ur_u {σ : z_S} {k : Nat} {f g : Int → Int} {i v : Int} (h1 : g i = v) (h2 : ∀ j, j ≠ i → g j = f j) : z_u (z_ur σ k f) k i v = z_ur σ k g := by
  funext k' j
  unfold z_u z_ur
  by_cases hk : k' = k
  · rw [if_pos hk, if_pos hk, if_pos hk]
    by_cases hj : j = i
    · rw [if_pos hj, hj, h1]
    · rw [if_neg hj, h2 j hj]
  · rw [if_neg hk, if_neg hk, if_neg hk]
theorem z_ur_id {σ : z_S} {k : Nat} {f : Int → Int} (h : ∀ i, f i = σ k i) : σ = z_ur σ k f := by
  funext k' j
  unfold z_ur
  by_cases hk : k' = k
  · rw [if_pos hk, hk, h]
  · rw [if_neg hk]
theorem z_u_u {σ : z_S} {k : Nat} {i v w : Int} : z_u (z_u σ k i v) k i w = z_u σ k i w := by
  funext k' j
  unfold z_u
  by_cases hk : k' = k
  · rw [if_pos hk, if_pos hk, if_pos hk]
    by_cases hj : j = i
    · rw [if_pos hj, if_pos hj]
    · rw [if_neg hj, if_neg hj, if_neg hj]
  · rw [if_neg hk, if_neg hk, if_neg hk]
theorem z_u_same {σ : z_S} {k : Nat} {i v : Int} (h : σ k i = v) : z_u σ k i v = σ := by
  funext k' j
  unfold z_u
  by_cases hk : k' = k
  · rw [if_pos hk]
    by_cases hj : j = i
    · rw [if_pos hj, hk, hj, h]
    · rw [if_neg hj, hk]
  · rw [if_neg hk]
theorem mB_u {σ : z_S} (hB : mB σ) {k : Nat} {i v : Int} (hv : -1000000 ≤ v ∧ v ≤ 1000000) : mB (z_u σ k i v) := by
  intro k' j
  unfold z_u
  split
  · split
    · exact hv
    · rename_i e _; exact hB _ _
  · exact hB _ _
theorem mV_14 {σ : z_S} (hV : mV σ) {i v : Int} (hv : -100000 ≤ v ∧ v ≤ 100000) : mV (z_u σ 14 i v) := by
  refine ⟨hV.1, fun j => ?_, hV.2.2⟩
  rw [z_u_eq]
  unfold z_up
  split
  · exact hv
  · exact hV.2.1 j
theorem mV_18 {σ : z_S} (hV : mV σ) {i v : Int} (hv : v = 0 ∨ v = 1) : mV (z_u σ 18 i v) := by
  refine ⟨hV.1, hV.2.1, hV.2.2.1, hV.2.2.2.1, fun j => ?_, hV.2.2.2.2.2⟩
  rw [z_u_eq]
  unfold z_up
  split
  · exact hv
  · exact hV.2.2.2.2.1 j
def yBe (σ : z_S) (e k v : Int) : z_S := if k = 0 ∧ σ 14 (4 * e + k) ≠ v then z_u (z_u (z_u σ 14 (4 * e + k) v) 20 0 (σ 20 0 + 1)) 16 e (σ 20 0 + 1) else z_u σ 14 (4 * e + k) v
theorem yBe_at {σ : z_S} {e k v : Int} : yBe σ e k v 14 (4 * e + k) = v := by
  unfold yBe
  split
  · rw [z_u_ne (by decide), z_u_ne (by decide)]; exact z_u_at
  · exact z_u_at
def yCo (σ : z_S) (g : Int) : z_S := z_u (z_u (z_u (z_u (z_u (z_u σ 19 0 (σ 19 0 + 1)) 18 (σ 19 0) 1) 15 (σ 19 0) g) 22 (σ 19 0) (-1)) 20 0 (σ 20 0 + 1)) 16 (σ 19 0) (σ 20 0 + 1)
def yLv (σ : z_S) (e : Int) : z_S := if lp σ e = -1 then z_u σ 18 e 0 else z_ur (z_u (z_u σ 18 e 0) 25 0 (σ 25 0 - 1)) 21 (fun i => if lp σ e - 1 ≤ i ∧ i < σ 25 0 - 1 then σ 21 (i + 1) else σ 21 i)
def yEn (σ : z_S) (e : Int) : z_S := z_u (z_u (z_u (z_u σ 21 (σ 25 0) e) 25 0 (σ 25 0 + 1)) 22 e (σ 30 0)) 23 e (-1)
def yCh (σ : z_S) (e o w : Int) : z_S := if w = 0 then z_u (z_u σ 23 e (σ 30 0)) 23 o (σ 30 0) else z_u (z_ur (z_u (z_u σ 23 e (σ 30 0)) 23 o (σ 30 0)) 21 (fun i => if lp σ o - 1 < i ∧ i ≤ lp σ e - 1 then σ 21 (i - 1) else σ 21 i)) 21 (lp σ o - 1) e

def S_clearTape (σ : z_S)  (c r : Int) (ρ : z_S) : Prop := c = 0 ∧ r = σ 2 0 ∧ ρ = z_u σ 2 0 0
def S_come (σ : z_S) (g : Int) (c r : Int) (ρ : z_S) : Prop := if 0 ≤ g ∧ g ≤ 4 then (if σ 19 0 < 30 then c = 0 ∧ r = σ 19 0 ∧ ρ = yCo σ g else c = 2 ∧ ρ = z_u σ 0 0 2) else c = 1 ∧ ρ = z_u σ 0 0 1
def S_score (σ : z_S) (e k m : Int) (c r : Int) (ρ : z_S) : Prop := if pr σ e then (if 0 ≤ k ∧ k ≤ 3 then (if -100000 ≤ σ 14 (4 * e + k) + m ∧ σ 14 (4 * e + k) + m ≤ 100000 then c = 0 ∧ r = σ 14 (4 * e + k) + m ∧ ρ = yBe σ e k (σ 14 (4 * e + k) + m) else c = 2 ∧ ρ = z_u σ 0 0 2) else c = 2 ∧ ρ = z_u σ 0 0 2) else c = 1 ∧ ρ = z_u σ 0 0 1
def S_setScore (σ : z_S) (e k w : Int) (c r : Int) (ρ : z_S) : Prop := if pr σ e then (if 0 ≤ k ∧ k ≤ 3 then (if -100000 ≤ w ∧ w ≤ 100000 then c = 0 ∧ r = σ 14 (4 * e + k) ∧ ρ = yBe σ e k w else c = 2 ∧ ρ = z_u σ 0 0 2) else c = 2 ∧ ρ = z_u σ 0 0 2) else c = 1 ∧ ρ = z_u σ 0 0 1
def S_setReach (σ : z_S) (q : Int) (c r : Int) (ρ : z_S) : Prop := if 1 ≤ q ∧ q ≤ 5 then c = 0 ∧ r = σ 26 0 ∧ ρ = z_u σ 26 0 q else c = 1 ∧ ρ = z_u σ 0 0 1
def S_setPatience (σ : z_S) (q : Int) (c r : Int) (ρ : z_S) : Prop := if 1 ≤ q ∧ q ≤ 9 then c = 0 ∧ r = σ 27 0 ∧ ρ = z_u σ 27 0 q else c = 1 ∧ ρ = z_u σ 0 0 1
def S_leave (σ : z_S) (e : Int) (c r : Int) (ρ : z_S) : Prop := if pr σ e then c = 0 ∧ r = pl σ e ∧ ρ = yLv σ e else c = 1 ∧ ρ = z_u σ 0 0 1
def S_enter (σ : z_S) (e : Int) (c r : Int) (ρ : z_S) : Prop := if pr σ e then (if lp σ e = -1 then c = 0 ∧ r = σ 25 0 + 1 ∧ ρ = yEn σ e else c = 2 ∧ ρ = z_u σ 0 0 2) else c = 1 ∧ ρ = z_u σ 0 0 1
def S_challenge (σ : z_S) (e o w : Int) (c r : Int) (ρ : z_S) : Prop := if pr σ e ∧ pr σ o then (if lp σ e ≠ -1 ∧ lp σ o ≠ -1 ∧ lp σ o < lp σ e ∧ lp σ e - lp σ o ≤ σ 26 0 then c = 0 ∧ r = (if w = 0 then lp σ e else lp σ o) ∧ ρ = yCh σ e o w else c = 2 ∧ ρ = z_u σ 0 0 2) else c = 1 ∧ ρ = z_u σ 0 0 1
end M4
