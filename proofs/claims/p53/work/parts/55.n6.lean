/-! FORMS: the sum of the greatest, by taking the greatest again and again, and by a row in order. -/
section N6
/-- how often a value stands in a row from the place i on -/
def jc (R : Int → Int) (n i v : Int) : Int := z_sm (fun j => if i ≤ j ∧ R j = v then (1 : Int) else 0) n
theorem jn_nn {f : Int → Int} (h : ∀ j, 0 ≤ f j) : ∀ n : Int, 0 ≤ n → 0 ≤ z_sm f n := by
  refine jn_ind ?_ ?_
  · rw [z_sm0 (by omega)]; omega
  · intro n h0 ih
    rw [z_smS h0]; have := h n; omega
theorem jn_ge {f : Int → Int} (h : ∀ j, 0 ≤ f j) {a n : Int} (ha : 0 ≤ a ∧ a < n) : f a ≤ z_sm f n := by
  have key : ∀ n : Int, 0 ≤ n → a < n → f a ≤ z_sm f n := by
    refine jn_ind (P := fun n => a < n → f a ≤ z_sm f n) ?_ ?_
    · intro q; omega
    · intro n h0 ih q
      rw [z_smS h0]
      by_cases e : a = n
      · subst e; have := jn_nn h a h0; omega
      · have := ih (by omega); have := h n; omega
  exact key n (by omega) ha.2
theorem jc_p {R : Int → Int} {n i j : Int} (h : 0 ≤ j ∧ i ≤ j ∧ j < n) : 1 ≤ jc R n i (R j) := by
  have h1 := jn_ge (f := fun q => if i ≤ q ∧ R q = R j then (1 : Int) else 0) (fun q => by show (0 : Int) ≤ if _ then _ else _; split <;> omega) (a := j) (n := n) ⟨h.1, h.2.2⟩
  have h2 : (if i ≤ j ∧ R j = R j then (1 : Int) else 0) = 1 := if_pos ⟨h.2.1, rfl⟩
  unfold jc
  have h3 : (if i ≤ j ∧ R j = R j then (1 : Int) else 0) ≤ z_sm (fun q => if i ≤ q ∧ R q = R j then (1 : Int) else 0) n := h1
  omega
theorem jc_x {R : Int → Int} {n i v : Int} (h : 1 ≤ jc R n i v) : ∃ j, (0 ≤ j ∧ i ≤ j ∧ j < n) ∧ R j = v := by
  by_cases c : ∃ j, (0 ≤ j ∧ i ≤ j ∧ j < n) ∧ R j = v
  · exact c
  · exfalso
    have : jc R n i v = 0 := z_sm_zero fun j h0 h1 => if_neg fun q => c ⟨j, ⟨h0, q.1, h1⟩, q.2⟩
    omega
/-- the greatest moved out -/
theorem jc_up {R : Int → Int} {n i g v : Int} (hi : 0 ≤ i) (hg : i ≤ g ∧ g < n) : jc (z_up R g (R i)) n (i + 1) v + (if R g = v then 1 else 0) = jc R n i v := by
  have hn : 0 ≤ n := by omega
  have e1 := jn_one (a := g) (v := if R g = v then (1 : Int) else 0) (n := n) ⟨by omega, hg.2⟩
  have e2 := jn_one (a := i) (v := if R i = v then (1 : Int) else 0) (n := n) ⟨hi, by omega⟩
  have e3 := jn_one (a := g) (v := if R i = v then (1 : Int) else 0) (n := n) ⟨by omega, hg.2⟩
  have e4 : z_sm (fun j => (if i + 1 ≤ j ∧ z_up R g (R i) j = v then (1 : Int) else 0) + ((if j = g then (if R g = v then (1 : Int) else 0) else 0) + (if j = i then (if R i = v then (1 : Int) else 0) else 0))) n = z_sm (fun j => (if i ≤ j ∧ R j = v then (1 : Int) else 0) + (if j = g then (if R i = v then (1 : Int) else 0) else 0)) n := z_sm_congr fun j h0 h1 => by
    unfold z_up
    by_cases c1 : j = g
    · subst c1
      by_cases c2 : j = i
      · subst c2
        rw [if_neg (by omega), if_pos rfl]
        by_cases c3 : R j = v
        · rw [if_pos c3, if_pos ⟨by omega, c3⟩]; rfl
        · rw [if_neg c3, if_neg (fun q => c3 q.2)]; rfl
      · rw [if_pos rfl, if_pos rfl, if_neg c2, if_pos rfl]
        by_cases c3 : R j = v
        · by_cases c4 : R i = v
          · rw [if_pos c3, if_pos c4, if_pos ⟨by omega, c4⟩, if_pos ⟨by omega, c3⟩]; rfl
          · rw [if_pos c3, if_neg c4, if_neg (fun q => c4 q.2), if_pos ⟨by omega, c3⟩]; rfl
        · by_cases c4 : R i = v
          · rw [if_neg c3, if_pos c4, if_pos ⟨by omega, c4⟩, if_neg (fun q => c3 q.2)]; rfl
          · rw [if_neg c3, if_neg c4, if_neg (fun q => c4 q.2), if_neg (fun q => c3 q.2)]; rfl
    · rw [if_neg c1, if_neg c1, if_neg c1]
      by_cases c2 : j = i
      · subst c2
        rw [if_neg (by omega), if_pos rfl]
        by_cases c3 : R j = v
        · rw [if_pos c3, if_pos ⟨by omega, c3⟩]; rfl
        · rw [if_neg c3, if_neg (fun q => c3 q.2)]; rfl
      · rw [if_neg c2]
        by_cases c3 : i ≤ j ∧ R j = v
        · rw [if_pos c3, if_pos ⟨by omega, c3.2⟩]; rfl
        · rw [if_neg c3, if_neg (fun q => c3 ⟨by omega, q.2⟩)]; rfl
  rw [jn_add hn, jn_add hn, jn_add hn, e1, e2, e3] at e4
  unfold jc
  omega
theorem gs_s {R : Int → Int} : ∀ (f : Nat) (j g : Int), R g ≤ R (gsL R f j g) ∧ ∀ q, j ≤ q → q < j + f → R q ≤ R (gsL R f j g) := by
  intro f
  induction f with
  | zero => intro j g; exact ⟨Int.le_refl _, fun q h1 h2 => by omega⟩
  | succ f ih =>
    intro j g
    unfold gsL
    by_cases c : R g < R j
    · rw [if_pos c]
      obtain ⟨a, b⟩ := ih (j + 1) j
      refine ⟨by omega, fun q h1 h2 => ?_⟩
      by_cases e : q = j
      · subst e; exact a
      · exact b q (by omega) (by omega)
    · rw [if_neg c]
      obtain ⟨a, b⟩ := ih (j + 1) g
      refine ⟨a, fun q h1 h2 => ?_⟩
      by_cases e : q = j
      · subst e; omega
      · exact b q (by omega) (by omega)
/-- a row in order, the greatest first -/
def jd (Y : Int → Int) (n : Int) : Prop := ∀ i j, 0 ≤ i → i < j → j < n → Y j ≤ Y i
theorem sl_d {n : Int} {Y : Int → Int} (hY : jd Y n) : ∀ (f : Nat) (R : Int → Int) (i t : Int), 0 ≤ i → i + f ≤ n → (∀ v, jc R n i v = jc Y n i v) → slL n f R i t = t + z_sm Y (i + f) - z_sm Y i := by
  intro f
  induction f with
  | zero => intro R i t _ _ _; rw [slL, show i + ((0 : Nat) : Int) = i by omega]; omega
  | succ f ih =>
    intro R i t h0 h1 hc
    rw [slL]
    have hb := gs_b (R := R) (n - (i + 1)).toNat (i + 1) i
    have hs := gs_s (R := R) (n - (i + 1)).toNat (i + 1) i
    generalize gsL R (n - (i + 1)).toNat (i + 1) i = g at hb hs ⊢
    have hg : i ≤ g ∧ g < n := by omega
    have hmax : ∀ q, i ≤ q → q < n → R q ≤ R g := fun q a b => by
      by_cases e : q = i
      · subst e; exact hs.1
      · exact hs.2 q (by omega) (by omega)
    have e1 : R g = Y i := by
      obtain ⟨j, hj, ej⟩ := jc_x (R := Y) (n := n) (i := i) (v := R g) (by rw [← hc]; exact jc_p ⟨by omega, hg.1, hg.2⟩)
      obtain ⟨j2, hj2, ej2⟩ := jc_x (R := R) (n := n) (i := i) (v := Y i) (by rw [hc]; exact jc_p ⟨h0, Int.le_refl _, by omega⟩)
      have k1 := hmax j2 hj2.2.1 hj2.2.2
      by_cases e : j = i
      · subst e; exact ej.symm
      · have k2 := hY i j h0 (by omega) hj.2.2
        omega
    have hc' : ∀ v, jc (z_up R g (R i)) n (i + 1) v = jc Y n (i + 1) v := fun v => by
      have k1 := jc_up (R := R) (v := v) h0 hg
      have k2 := jc_up (R := Y) (n := n) (i := i) (g := i) (v := v) h0 ⟨Int.le_refl _, by omega⟩
      have k3 : z_up Y i (Y i) = Y := funext fun q => by
            unfold z_up
            by_cases e : q = i
            · rw [if_pos e, e]
            · rw [if_neg e]
      rw [k3, ← e1] at k2
      have := hc v
      omega
    rw [ih _ (i + 1) _ (by omega) (by omega) hc', e1, show i + 1 + (f : Int) = i + ((f + 1 : Nat) : Int) by omega, z_smS h0]
    omega
/-- a row with one put in -/
theorem jn_ins {F : Int → Int} {w x : Int} (hw : 0 ≤ w) {R : Int → Int} : ∀ n : Int, w ≤ n → z_sm (fun j => F (if w < j ∧ j ≤ n then R (j - 1) else if j = w then x else R j)) (n + 1) = z_sm (fun j => F (R j)) n + F x := by
  intro n hn
  have e0 : z_sm (fun j => F (if w < j ∧ j ≤ n then R (j - 1) else if j = w then x else R j)) (n + 1) = z_sm (fun j => F (if w < j then R (j - 1) else if j = w then x else R j)) (n + 1) := z_sm_congr fun j h0 h1 => by
    by_cases c : w < j
    · rw [if_pos c, if_pos ⟨c, by omega⟩]
    · rw [if_neg c, if_neg (fun q => c q.1)]
  rw [e0]
  have key : ∀ d : Int, 0 ≤ d → z_sm (fun j => F (if w < j then R (j - 1) else if j = w then x else R j)) (w + d + 1) = z_sm (fun j => F (R j)) (w + d) + F x := by
    refine jn_ind ?_ ?_
    · rw [show w + 0 + 1 = w + 1 by omega, z_smS hw, if_neg (by omega), if_pos rfl, show w + 0 = w by omega]
      congr 1
      exact z_sm_congr fun j h0 h1 => by rw [if_neg (by omega), if_neg (by omega)]
    · intro d hd ih
      rw [show w + (d + 1) + 1 = (w + d + 1) + 1 by omega, z_smS (by omega), ih, if_pos (by omega), show w + (d + 1) = (w + d) + 1 by omega, z_smS (by omega), show w + d + 1 - 1 = w + d by omega]
      omega
  have := key (n - w) (by omega)
  rw [show w + (n - w) = n by omega] at this
  exact this
theorem yPs_s {R : Int → Int} {x : Int} : ∀ a : Nat, (0 < yPs R x a → x ≤ R (yPs R x a - 1)) ∧ ∀ j : Int, yPs R x a ≤ j → j < a → R j < x := by
  intro a
  induction a with
  | zero => exact ⟨fun h => by rw [yPs] at h; omega, fun j h1 h2 => by rw [yPs] at h1; omega⟩
  | succ a ih =>
    rw [yPs]
    by_cases c : R a < x
    · rw [if_pos c]
      refine ⟨ih.1, fun j h1 h2 => ?_⟩
      by_cases e : j = a
      · rw [e]; exact c
      · exact ih.2 j h1 (by omega)
    · rw [if_neg c]
      exact ⟨fun _ => by rw [show (a : Int) + 1 - 1 = a by omega]; omega, fun j h1 h2 => by omega⟩
theorem yRw_d (σ : z_S) (e : Int) (S : Int → Int) : ∀ n : Nat, jd (yRw σ e S n) n ∧ ∀ v, z_sm (fun j => if yRw σ e S n j = v then (1 : Int) else 0) n = z_sm (fun j => if yGn σ e j = v then (1 : Int) else 0) n := by
  intro n
  induction n with
  | zero => exact ⟨fun i j h0 h1 h2 => by omega, fun v => by rw [z_sm0 (by omega), z_sm0 (by omega)]⟩
  | succ n ih =>
    obtain ⟨hd, hc⟩ := ih
    have hb := yPs_b (yRw σ e S n) (yGn σ e n) n
    have hs := yPs_s (R := yRw σ e S n) (x := yGn σ e n) n
    have e0 : yRw σ e S (n + 1) = fun j => if yPs (yRw σ e S n) (yGn σ e n) n < j ∧ j ≤ n then yRw σ e S n (j - 1) else if j = yPs (yRw σ e S n) (yGn σ e n) n then yGn σ e n else yRw σ e S n j := by
      rw [yRw]
      funext j
      unfold yIn
      rw [show ((n : Int)).toNat = n from Int.toNat_natCast n]
    have en : ((n + 1 : Nat) : Int) = (n : Int) + 1 := by omega
    rw [e0, en]
    generalize yPs (yRw σ e S n) (yGn σ e n) n = w at hb hs
    generalize yRw σ e S n = R at hd hc hs
    refine ⟨fun i j h0 h1 h2 => ?_, fun v => ?_⟩
    · show (if w < j ∧ j ≤ (n : Int) then R (j - 1) else if j = w then yGn σ e n else R j) ≤ (if w < i ∧ i ≤ (n : Int) then R (i - 1) else if i = w then yGn σ e n else R i)
      by_cases c1 : w < j
      · rw [if_pos ⟨c1, by omega⟩]
        by_cases c2 : w < i
        · rw [if_pos ⟨c2, by omega⟩]; exact hd _ _ (by omega) (by omega) (by omega)
        · rw [if_neg (fun q => c2 q.1)]
          by_cases c3 : i = w
          · rw [if_pos c3]; have := hs.2 (j - 1) (by omega) (by omega); omega
          · rw [if_neg c3]
            by_cases c4 : i = j - 1
            · rw [c4]; exact Int.le_refl _
            · exact hd _ _ (by omega) (by omega) (by omega)
      · have ei : (if w < i ∧ i ≤ (n : Int) then R (i - 1) else if i = w then yGn σ e n else R i) = R i := by rw [if_neg (fun q => by omega), if_neg (by omega)]
        rw [if_neg (fun q => c1 q.1), ei]
        by_cases c3 : j = w
        · rw [if_pos c3]
          have k1 := hs.1 (by omega)
          by_cases c4 : i = w - 1
          · rw [c4]; exact k1
          · have := hd i (w - 1) h0 (by omega) (by omega); omega
        · rw [if_neg c3]; exact hd _ _ h0 h1 (by omega)
    · rw [jn_ins (F := fun q => if q = v then (1 : Int) else 0) hb.1 n hb.2, hc v, z_smS (by omega)]
variable {κ : c_K} {σ : z_S}
theorem jR.aForm (h : jR κ σ) {e k n : Int} (he : pr σ e) (hn : 1 ≤ n ∧ n ≤ 10 ∧ 1 ≤ k ∧ k ≤ n) : cFo κ e k n = yFo σ e k n := by
  obtain ⟨hd, hc⟩ := yRw_d σ e (fun _ => 0) n.toNat
  have en : ((n.toNat : Nat) : Int) = n := by omega
  rw [en] at hd hc
  have hv : ∀ j, 0 ≤ j → j < n → cGn κ e j = yGn σ e j := fun j h0 h1 => by
    unfold cGn yGn
    rw [h.a.2.1]
    by_cases c : σ 30 0 - j - 1 < 0
    · rw [if_pos c, if_pos c]
    · rw [if_neg c, if_neg c, (h.e (pr_b he)).2.2.2.2.1 (σ 30 0 - j - 1) (by omega) (by omega) (by omega)]
      congr 1
      omega
  unfold cFo yFo
  rw [sl_d hd (k - 0).toNat _ 0 0 (by omega) (by omega) (fun v => ?_), z_sm0 (f := yRw σ e (fun _ => 0) n.toNat) (o := 0) (by omega), show (0 : Int) + ((k - 0).toNat : Int) = k by omega]
  · omega
  · have e1 : jc (fun j => if 0 ≤ j ∧ j < n then cGn κ e j else 0) n 0 v = z_sm (fun j => if yGn σ e j = v then (1 : Int) else 0) n := jn_ct fun j h0 h1 => by
      show (0 ≤ j ∧ (if 0 ≤ j ∧ j < n then cGn κ e j else 0) = v) ↔ yGn σ e j = v
      rw [if_pos ⟨h0, h1⟩, hv j h0 h1]
      exact ⟨fun q => q.2, fun q => ⟨h0, q⟩⟩
    have e2 : jc (yRw σ e (fun _ => 0) n.toNat) n 0 v = z_sm (fun j => if yRw σ e (fun _ => 0) n.toNat j = v then (1 : Int) else 0) n := jn_ct fun j h0 h1 => ⟨fun q => q.2, fun q => ⟨h0, q⟩⟩
    rw [e1, e2, hc v]
end N6
