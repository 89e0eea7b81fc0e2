/-! THE MODEL's public methods that read (laid by wip/whole/gen/gm2.py). -/
section M2
theorem z_u_id {τ : z_S} (h : τ 0 0 = 0) : z_u τ 0 0 0 = τ := by
  funext k i
  unfold z_u
  split
  · split
    · rename_i h1 h2; rw [h1, h2, h]
    · rfl
  · rfl
def z_fo (f : Int → Int → Int) (a : Int) : Nat → Int
  | 0 => a
  | n + 1 => f (z_fo f a n) n
def z_fl (f : Int → Int → Int) (a o : Int) : Int := z_fo f a o.toNat
theorem z_fl0 {f : Int → Int → Int} {a o : Int} (h : o ≤ 0) : z_fl f a o = a := by
  unfold z_fl
  rw [Int.toNat_of_nonpos h]
  rfl
theorem z_flS {f : Int → Int → Int} {a o : Int} (h : 0 ≤ o) : z_fl f a (o + 1) = f (z_fl f a o) o := by
  unfold z_fl
  rw [show (o + 1).toNat = o.toNat + 1 by omega]
  show f (z_fo f a o.toNat) (o.toNat : Int) = _
  rw [Int.toNat_of_nonneg h]

def S_errorPosition (σ : z_S)  (c r : Int) : Prop := c = 0 ∧ r = σ 3 0
def S_criterion (σ : z_S) (e k : Int) (c r : Int) : Prop := if pr σ e then (if 0 ≤ k ∧ k ≤ σ 12 0 - 1 then c = 0 ∧ r = vl σ e k else c = 2) else c = 1
def S_scoreOf (σ : z_S) (e k : Int) (c r : Int) : Prop := if pr σ e then (if 0 ≤ k ∧ k ≤ 3 then c = 0 ∧ r = σ 14 (4 * e + k) else c = 2) else c = 1
def S_groupOf (σ : z_S) (e : Int) (c r : Int) : Prop := if pr σ e then c = 0 ∧ r = σ 15 e else c = 1
def S_entrants (σ : z_S)  (c r : Int) : Prop := c = 0 ∧ r = my σ
def S_at (σ : z_S) (p : Int) (c r : Int) : Prop := if 1 ≤ p ∧ p ≤ my σ then c = 0 ∧ r = ea σ p else c = 1
def S_place (σ : z_S) (e : Int) (c r : Int) : Prop := if pr σ e then c = 0 ∧ r = pl σ e else c = 1
def S_rank (σ : z_S) (e s : Int) (c r : Int) : Prop := if pr σ e then (if 0 ≤ s ∧ s ≤ 2 then c = 0 ∧ r = (if s = 0 then bt σ e + 1 else if s = 1 then dn σ e else tm σ e) else c = 2) else c = 1
def S_alike (σ : z_S) (e : Int) (c r : Int) : Prop := if pr σ e then c = 0 ∧ r = al σ e else c = 1
def S_results (σ : z_S)  (c r : Int) : Prop := c = 0 ∧ r = z_sm (fun o => if isF σ o then (1 : Int) else 0) (σ 19 0)
def S_rankSum (σ : z_S)  (c r : Int) : Prop := c = 0 ∧ r = z_sm (fun o => if σ 18 o ≠ 0 then tm σ o else 0) (σ 19 0)
def S_above (σ : z_S) (p : Int) (c r : Int) : Prop := c = 0 ∧ r = z_sm (fun o => if σ 18 o ≠ 0 ∧ p < σ 14 (4 * o) then (1 : Int) else 0) (σ 19 0)
def S_with (σ : z_S) (p : Int) (c r : Int) : Prop := c = 0 ∧ r = z_sm (fun o => if σ 18 o ≠ 0 ∧ σ 14 (4 * o) = p then (1 : Int) else 0) (σ 19 0)
def S_between (σ : z_S) (p q : Int) (c r : Int) : Prop := if p ≤ q then c = 0 ∧ r = z_sm (fun o => if σ 18 o ≠ 0 ∧ p ≤ σ 14 (4 * o) ∧ σ 14 (4 * o) < q then (1 : Int) else 0) (σ 19 0) else c = 1
def yAh (σ : z_S) (p e : Int) : Int := z_sm (fun o => if σ 18 o ≠ 0 ∧ σ 14 (4 * o) = p ∧ σ 16 o < σ 16 e then (1 : Int) else 0) (σ 19 0)
def S_withAt (σ : z_S) (p i : Int) (c r : Int) : Prop := c = 0 ∧ r = z_ff (fun e => σ 18 e ≠ 0 ∧ σ 14 (4 * e) = p ∧ yAh σ p e = i) (σ 19 0)
def yNx (σ : z_S) (p : Int) : Int := z_fl (fun t e => if σ 18 e ≠ 0 ∧ p < σ 14 (4 * e) ∧ (t = -1 ∨ σ 14 (4 * e) < σ 14 (4 * t)) then e else t) (-1) (σ 19 0)
def S_next (σ : z_S) (p : Int) (c r : Int) : Prop := if yNx σ p = -1 then c = 1 else c = 0 ∧ r = σ 14 (4 * yNx σ p)
def S_median (σ : z_S) (b : Int) (c r : Int) : Prop := if 0 < my σ then c = 0 ∧ r = yPa σ (if b ≠ 0 then my σ / 2 + 1 else (my σ + 1) / 2) else c = 1
def S_quantile (σ : z_S) (p q : Int) (c r : Int) : Prop := if 1 ≤ q ∧ q ≤ 100 ∧ 0 ≤ p ∧ p ≤ q then (if 0 < my σ then c = 0 ∧ r = yPa σ (if (my σ * p + q - 1) / q < 1 then 1 else (my σ * p + q - 1) / q) else c = 2) else c = 1
def S_mayChallenge (σ : z_S) (e : Int) (c r : Int) : Prop := if pr σ e then c = 0 ∧ r = (if lp σ e = -1 then 0 else if lp σ e - 1 < σ 26 0 then lp σ e - 1 else σ 26 0) else c = 1
def S_ladderAt (σ : z_S) (p : Int) (c r : Int) : Prop := if 1 ≤ p ∧ p ≤ σ 25 0 then c = 0 ∧ r = σ 21 (p - 1) else c = 1
def S_ladderPlace (σ : z_S) (e : Int) (c r : Int) : Prop := if pr σ e then c = 0 ∧ r = lp σ e else c = 1
def S_round (σ : z_S)  (c r : Int) : Prop := c = 0 ∧ r = σ 30 0
def S_gain (σ : z_S) (e : Int) (c r : Int) : Prop := if pr σ e then c = 0 ∧ r = σ 14 (4 * e) - σ 17 e else c = 1
def S_placeThen (σ : z_S) (r0 e : Int) (c r : Int) : Prop := if kp σ r0 then (if 0 ≤ e ∧ e ≤ 29 then c = 0 ∧ r = yPi σ r0 e else c = 2) else c = 1
def yCl (σ : z_S) (r0 : Int) : Int := z_fl (fun m e => if σ 18 e ≠ 0 ∧ yPi σ r0 e ≠ -1 ∧ m < yPi σ r0 e - pl σ e then yPi σ r0 e - pl σ e else m) (-100000000) (σ 19 0)
def S_climb (σ : z_S) (r0 : Int) (c r : Int) : Prop := if kp σ r0 then c = 0 ∧ r = (if yCl σ r0 = -100000000 then 0 else yCl σ r0) else c = 1
def S_members (σ : z_S) (g : Int) (c r : Int) : Prop := if 0 ≤ g ∧ g ≤ 4 then c = 0 ∧ r = z_sm (fun o => if σ 18 o ≠ 0 ∧ σ 15 o = g then (1 : Int) else 0) (σ 19 0) else c = 1
def S_errors (σ : z_S)  (c r : Int) : Prop := c = 0 ∧ r = 0
end M2
