/-! GROUPS, the climb, the entrant in form: answers of the class are the model's. -/
section N5
/-- the place (from 0) of the (u + 1)-th of a group from the place i on -/
def gX (κ : c_K) (g : Int) : Nat → Int → Int → Int
  | 0, _, _ => -1
  | f + 1, i, u => if κ 35 (κ 20 1 i) 0 ≠ g then gX κ g f (i + 1) u else if u = 0 then i else gX κ g f (i + 1) (u - 1)
variable {κ : c_K} {σ : z_S}
theorem gX_b {g : Int} : ∀ (f : Nat) (i u : Int), gX κ g f i u = -1 ∨ (i ≤ gX κ g f i u ∧ gX κ g f i u < i + f) := by
  intro f
  induction f with
  | zero => intro i u; exact Or.inl rfl
  | succ f ih =>
    intro i u
    unfold gX
    by_cases c : κ 35 (κ 20 1 i) 0 ≠ g
    · rw [if_pos c]; have := ih (i + 1) u; omega
    · rw [if_neg c]
      by_cases c2 : u = 0
      · rw [if_pos c2]; exact Or.inr ⟨by omega, by omega⟩
      · rw [if_neg c2]; have := ih (i + 1) (u - 1); omega
theorem gX_m {g : Int} : ∀ (f : Nat) (i u : Int), 0 ≤ i → 0 ≤ u → gX κ g f i (u + 1) ≠ -1 → gX κ g f i u ≠ -1 := by
  intro f
  induction f with
  | zero => intro i u _ _ h; exact absurd rfl h
  | succ f ih =>
    intro i u hi hu h
    unfold gX at h ⊢
    by_cases c : κ 35 (κ 20 1 i) 0 ≠ g
    · rw [if_pos c] at h ⊢; exact ih (i + 1) u (by omega) hu h
    · rw [if_neg c] at h ⊢
      rw [if_neg (by omega)] at h
      by_cases c2 : u = 0
      · rw [if_pos c2]; omega
      · rw [if_neg c2]
        exact ih (i + 1) (u - 1) (by omega) (by omega) (by rw [show u - 1 + 1 = u + 1 - 1 by omega]; exact h)
theorem gX_0 {g : Int} : ∀ (f : Nat) (i : Int), z_fi (fun i => κ 35 (κ 20 1 i) 0 = g) f i = gX κ g f i 0 := by
  intro f
  induction f with
  | zero => intro i; rfl
  | succ f ih =>
    intro i
    unfold z_fi gX
    by_cases c : κ 35 (κ 20 1 i) 0 = g
    · rw [if_pos c, if_neg (fun q => q c), if_pos rfl]
    · rw [if_neg c, if_pos c, ih]
theorem ts_gX {g : Int} : ∀ (f : Nat) (i s : Int), 0 ≤ i → tsL κ g f i 3 s = s ∧ tsL κ g f i 2 s = (if gX κ g f i 0 = -1 then -1 else s + (gX κ g f i 0 + 1)) ∧ tsL κ g f i 1 s = (if gX κ g f i 1 = -1 then -1 else s + (gX κ g f i 0 + 1) + (gX κ g f i 1 + 1)) ∧ tsL κ g f i 0 s = (if gX κ g f i 2 = -1 then -1 else s + (gX κ g f i 0 + 1) + (gX κ g f i 1 + 1) + (gX κ g f i 2 + 1)) := by
  intro f
  induction f with
  | zero => intro i s _; exact ⟨rfl, rfl, rfl, rfl⟩
  | succ f ih =>
    intro i s h
    have e3 : tsL κ g (f + 1) i 3 s = s := by rw [tsL, if_neg (by omega), if_pos rfl]
    by_cases c : κ 35 (κ 20 1 i) 0 = g
    · have e0 : ∀ c s, c < 3 → tsL κ g (f + 1) i c s = tsL κ g f (i + 1) (c + 1) (s + i + 1) := fun c' s h => by
        rw [tsL, if_pos h, if_pos c]
      have x0 : gX κ g (f + 1) i 0 = i := by rw [gX, if_neg (fun q => q c), if_pos rfl]
      have x1 : gX κ g (f + 1) i 1 = gX κ g f (i + 1) 0 := by rw [gX, if_neg (fun q => q c), if_neg (by decide)]; rfl
      have x2 : gX κ g (f + 1) i 2 = gX κ g f (i + 1) 1 := by rw [gX, if_neg (fun q => q c), if_neg (by decide)]; rfl
      obtain ⟨i1, i2, i3, i4⟩ := ih (i + 1) (s + i + 1) (by omega)
      refine ⟨e3, ?_, ?_, ?_⟩
      · rw [e0 2 s (by omega), x0]
        show tsL κ g f (i + 1) 3 _ = _
        rw [i1, if_neg (by omega)]; omega
      · rw [e0 1 s (by omega), x0, x1]
        show tsL κ g f (i + 1) 2 _ = _
        rw [i2]
        split <;> omega
      · rw [e0 0 s (by omega), x0, x1, x2]
        show tsL κ g f (i + 1) 1 _ = _
        rw [i3]
        split <;> omega
    · have e0 : ∀ c s, c < 3 → tsL κ g (f + 1) i c s = tsL κ g f (i + 1) c s := fun c' s h => by
        rw [tsL, if_pos h, if_neg c]
      have x : ∀ u, gX κ g (f + 1) i u = gX κ g f (i + 1) u := fun u => by rw [gX, if_pos c]
      obtain ⟨i1, i2, i3, i4⟩ := ih (i + 1) s (by omega)
      exact ⟨e3, by rw [e0 2 s (by omega), x, i2], by rw [e0 1 s (by omega), x, x, i3], by rw [e0 0 s (by omega), x, x, x, i4]⟩
theorem jR.zog (h : jR κ σ) (hV : mV σ) {g : Int} : ∀ (f : Nat) (i u : Int), 0 ≤ i → i + f ≤ κ 24 1 0 → ogL σ g f (i + 1) u = if gX κ g f i u = -1 then -1 else κ 20 1 (gX κ g f i u) := by
  intro f
  induction f with
  | zero => intro i u _ _; rfl
  | succ f ih =>
    intro i u h0 h1
    have e1 := h.xea hV (p := i + 1) (by omega)
    rw [show i + 1 - 1 = i by omega] at e1
    have e2 := (h.e (pr_b (h.xsp (i := i) (by omega)))).2.1
    unfold ogL gX
    rw [e1, ← e2]
    by_cases c : κ 35 (κ 20 1 i) 0 ≠ g
    · rw [if_pos c, if_pos c, ih (i + 1) u (by omega) (by omega)]
    · rw [if_neg c, if_neg c]
      by_cases c2 : u = 0
      · rw [if_pos c2, if_pos c2, if_neg (by omega)]
      · rw [if_neg c2, if_neg c2, ih (i + 1) (u - 1) (by omega) (by omega)]
theorem jR.zyo (h : jR κ σ) (hV : mV σ) (g u : Int) : yOg σ g u = if gX κ g (κ 24 1 0).toNat 0 u = -1 then -1 else κ 20 1 (gX κ g (κ 24 1 0).toNat 0 u) := by
  have h0 := h.s.1.1
  unfold yOg
  rw [show my σ + 1 - 1 = κ 24 1 0 by rw [h.xn1 hV]; omega]
  exact h.zog hV _ 0 u (by omega) (by omega)
theorem jR.zgx (h : jR κ σ) (hV : mV σ) (g u : Int) (hx : gX κ g (κ 24 1 0).toNat 0 u ≠ -1) : yOg σ g u ≠ -1 ∧ pr σ (yOg σ g u) ∧ pl σ (yOg σ g u) = gX κ g (κ 24 1 0).toNat 0 u + 1 := by
  have h0 := h.s.1.1
  have hb := gX_b (κ := κ) (g := g) (κ 24 1 0).toNat 0 u
  have hi : 0 ≤ gX κ g (κ 24 1 0).toNat 0 u ∧ gX κ g (κ 24 1 0).toNat 0 u < κ 24 1 0 := by omega
  have hp := h.xsp hi
  rw [h.zyo hV, if_neg hx]
  exact ⟨by have := hp.1; omega, hp, h.xpl1 hV hi⟩
theorem jR.aTs (h : jR κ σ) (hV : mV σ) (g : Int) : cTs κ g = yTm σ g := by
  obtain ⟨-, -, -, k⟩ := ts_gX (κ := κ) (g := g) (κ 24 1 0).toNat 0 0 (by omega)
  unfold cTs yTm
  rw [show (κ 24 1 0 - 0).toNat = (κ 24 1 0).toNat by omega, k]
  by_cases c : gX κ g (κ 24 1 0).toNat 0 2 = -1
  · rw [if_pos c, if_pos (by rw [h.zyo hV, if_pos c])]
  · have c1 : gX κ g (κ 24 1 0).toNat 0 1 ≠ -1 := gX_m _ _ 1 (by omega) (by omega) c
    have c0 : gX κ g (κ 24 1 0).toNat 0 0 ≠ -1 := gX_m _ _ 0 (by omega) (by omega) c1
    obtain ⟨a2, -, b2⟩ := h.zgx hV g 2 c
    obtain ⟨-, -, b1⟩ := h.zgx hV g 1 c1
    obtain ⟨-, -, b0⟩ := h.zgx hV g 0 c0
    rw [if_neg c, if_neg a2, b0, b1, b2]
    omega
theorem jR.zfi (κ : c_K) (g : Int) : cFi κ g = if gX κ g (κ 24 1 0).toNat 0 0 = -1 then -1 else gX κ g (κ 24 1 0).toNat 0 0 + 1 := by
  unfold cFi z_ff
  rw [gX_0, show (κ 24 1 0 - 0).toNat = (κ 24 1 0).toNat by omega]
theorem jR.zfp (h : jR κ σ) (hV : mV σ) {g : Int} (hg : yTm σ g ≠ -1) : cFi κ g = pl σ (yOg σ g 0) := by
  rw [jR.zfi]
  have c2 : gX κ g (κ 24 1 0).toNat 0 2 ≠ -1 := fun q => hg (by unfold yTm; rw [if_pos (by rw [h.zyo hV, if_pos q])])
  have c1 : gX κ g (κ 24 1 0).toNat 0 1 ≠ -1 := gX_m _ _ 1 (by omega) (by omega) c2
  have c0 : gX κ g (κ 24 1 0).toNat 0 0 ≠ -1 := gX_m _ _ 0 (by omega) (by omega) c1
  rw [if_neg c0, (h.zgx hV g 0 c0).2.2]
theorem jR.aBest (h : jR κ σ) (hV : mV σ) (hS : cS κ) (g : Int) : (if cFi κ g = -1 then -1 else κ 34 (κ 20 1 (cFi κ g - 1)) 0) = yOg σ g 0 := by
  rw [jR.zfi, h.zyo hV]
  by_cases c : gX κ g (κ 24 1 0).toNat 0 0 = -1
  · rw [if_pos c, if_pos rfl, if_pos c]
  · have h0 := h.s.1.1
    have hb := gX_b (κ := κ) (g := g) (κ 24 1 0).toNat 0 0
    have hi : 0 ≤ gX κ g (κ 24 1 0).toNat 0 0 ∧ gX κ g (κ 24 1 0).toNat 0 0 < κ 24 1 0 := by omega
    rw [if_neg c, if_neg (by omega), if_neg c, show gX κ g (κ 24 1 0).toNat 0 0 + 1 - 1 = gX κ g (κ 24 1 0).toNat 0 0 by omega, jR.xn34 hS h (h.xsp hi)]
theorem jR.aGroupAt (h : jR κ σ) (hV : mV σ) (p : Int) : cGr κ p = z_ff (fun g => yTm σ g ≠ -1 ∧ yGh σ g = p) 5 := by
  unfold cGr
  refine jn_ffc fun g _ _ => ?_
  rw [h.aTs hV]
  refine and_congr_right fun hg => ?_
  have e1 : cGh κ g = z_sm (fun o => if o ≠ g ∧ yTm σ o ≠ -1 ∧ yGa σ o g then (1 : Int) else 0) 5 := by
    unfold cGh
    refine jn_ct fun o _ _ => ?_
    rw [h.aTs hV, h.aTs hV]
    constructor
    · rintro ⟨a, b⟩
      have k1 := h.zfp hV a
      have k2 := h.zfp hV hg
      refine ⟨fun q => ?_, a, ?_⟩
      · subst q; omega
      · show _ ∨ _
        omega
    · rintro ⟨-, a, b⟩
      have k1 := h.zfp hV a
      have k2 := h.zfp hV hg
      have b' : yTm σ o < yTm σ g ∨ (yTm σ o = yTm σ g ∧ pl σ (yOg σ o 0) < pl σ (yOg σ g 0)) := b
      exact ⟨a, by omega⟩
  unfold yGh
  rw [e1]
  omega
/-- the places of kept rounds -/
theorem jR.zpc (h : jR κ σ) {r e : Int} (hr : kp σ r) (he : 0 ≤ e ∧ e < σ 19 0) : cPc κ r e = yPi σ r e := by
  have h1 := hr.1; have h2 := hr.2.1
  unfold cPc yPi
  rw [if_neg (by omega), if_neg (by omega)]
  exact (h.e he).2.2.2.1 (r % 20) (by omega) (by omega) (by omega)
theorem jR.aPlaceThen (h : jR κ σ) {r e : Int} (hr : kp σ r) (he : 0 ≤ e ∧ e ≤ 29) : (if e < κ 24 0 0 then cPc κ r e else -1) = yPi σ r e := by
  rw [h.n]
  by_cases c : e < σ 19 0
  · rw [if_pos c, h.zpc hr ⟨he.1, c⟩]
  · have h1 := hr.1; have h2 := hr.2.1
    unfold yPi
    rw [if_neg c, if_neg (by omega), (h.z (e := e) (by omega)).2.2.2.1 (r % 20) (by omega) (by omega) (by omega)]
theorem cCb_s {r : Int} : ∀ (f : Nat) (i b g : Int), b = 0 ∨ b = 1 →
    (b = 0 ∧ (∀ j, i ≤ j → j < i + f → cPc κ r (κ 20 1 j) = -1) ∧ cCbL κ r f i b g = g) ∨
    (((b = 1 ∧ cCbL κ r f i b g = g) ∨ ∃ j, i ≤ j ∧ j < i + f ∧ cPc κ r (κ 20 1 j) ≠ -1 ∧ cCbL κ r f i b g = cPc κ r (κ 20 1 j) - κ 37 (κ 20 1 j) 0) ∧ (b = 1 → g ≤ cCbL κ r f i b g) ∧ ∀ j, i ≤ j → j < i + f → cPc κ r (κ 20 1 j) ≠ -1 → cPc κ r (κ 20 1 j) - κ 37 (κ 20 1 j) 0 ≤ cCbL κ r f i b g) := by
  intro f
  induction f with
  | zero =>
    intro i b g hb
    rcases hb with hb | hb
    · exact Or.inl ⟨hb, fun j h1 h2 => by omega, rfl⟩
    · exact Or.inr ⟨Or.inl ⟨hb, rfl⟩, fun _ => Int.le_refl _, fun j h1 h2 => by omega⟩
  | succ f ih =>
    intro i b g hb
    by_cases c : cPc κ r (κ 20 1 i) ≠ -1 ∧ (b = 0 ∨ g < cPc κ r (κ 20 1 i) - κ 37 (κ 20 1 i) 0)
    · have e : cCbL κ r (f + 1) i b g = cCbL κ r f (i + 1) 1 (cPc κ r (κ 20 1 i) - κ 37 (κ 20 1 i) 0) := by rw [cCbL, if_pos c]
      rw [e]
      rcases ih (i + 1) 1 (cPc κ r (κ 20 1 i) - κ 37 (κ 20 1 i) 0) (Or.inr rfl) with ⟨a, -⟩ | ⟨a1, a2, a3⟩
      · omega
      · have a2' := a2 rfl
        refine Or.inr ⟨Or.inr ?_, fun hb1 => by omega, fun j h1 h2 h3 => ?_⟩
        · rcases a1 with ⟨-, a1⟩ | ⟨j, b1, b2, b3, b4⟩
          · exact ⟨i, Int.le_refl _, by omega, c.1, a1⟩
          · exact ⟨j, by omega, by omega, b3, b4⟩
        · by_cases hj : j = i
          · subst hj; exact a2'
          · exact a3 j (by omega) (by omega) h3
    · have e : cCbL κ r (f + 1) i b g = cCbL κ r f (i + 1) b g := by rw [cCbL, if_neg c]
      rw [e]
      rcases ih (i + 1) b g hb with ⟨a1, a2, a3⟩ | ⟨a1, a2, a3⟩
      · refine Or.inl ⟨a1, fun j h1 h2 => ?_, a3⟩
        by_cases hj : j = i
        · subst hj
          by_cases c2 : cPc κ r (κ 20 1 j) = -1
          · exact c2
          · exact absurd ⟨c2, Or.inl a1⟩ c
        · exact a2 j (by omega) (by omega)
      · refine Or.inr ⟨?_, a2, fun j h1 h2 h3 => ?_⟩
        · rcases a1 with a1 | ⟨j, b1, b2, b3, b4⟩
          · exact Or.inl a1
          · exact Or.inr ⟨j, by omega, by omega, b3, b4⟩
        · by_cases hj : j = i
          · subst hj
            rcases hb with hb | hb
            · exact absurd ⟨h3, Or.inl hb⟩ c
            · have h4 := a2 hb
              by_cases c3 : g < cPc κ r (κ 20 1 j) - κ 37 (κ 20 1 j) 0
              · exact absurd ⟨h3, Or.inr c3⟩ c
              · omega
          · exact a3 j (by omega) (by omega) h3
theorem yCl_s {r : Int} (hB : mB σ) (hV : mV σ) : (yCl σ r = -100000000 ∧ ∀ o, pr σ o → yPi σ r o = -1) ∨ (yCl σ r ≠ -100000000 ∧ (∃ o, pr σ o ∧ yPi σ r o ≠ -1 ∧ yCl σ r = yPi σ r o - pl σ o) ∧ ∀ o, pr σ o → yPi σ r o ≠ -1 → yPi σ r o - pl σ o ≤ yCl σ r) := by
  have key := jn_fl (f := fun m e => if σ 18 e ≠ 0 ∧ yPi σ r e ≠ -1 ∧ m < yPi σ r e - pl σ e then yPi σ r e - pl σ e else m) (a := -100000000) (n := σ 19 0)
    (fun n m => (m = -100000000 ∧ ∀ o, 0 ≤ o → o < n → σ 18 o ≠ 0 → yPi σ r o = -1) ∨ (-100000000 < m ∧ (∃ o, (0 ≤ o ∧ o < n ∧ σ 18 o ≠ 0) ∧ yPi σ r o ≠ -1 ∧ m = yPi σ r o - pl σ o) ∧ ∀ o, 0 ≤ o → o < n → σ 18 o ≠ 0 → yPi σ r o ≠ -1 → yPi σ r o - pl σ o ≤ m))
    (Or.inl ⟨rfl, fun o h0 h1 => by omega⟩) (fun n m h0 h1 ih => ?_) (mV_n hV).1
  · rcases key with ⟨k1, k2⟩ | ⟨k1, ⟨o, ho, k2⟩, k3⟩
    · exact Or.inl ⟨k1, fun o ho => k2 o ho.1 ho.2.1 ho.2.2⟩
    · refine Or.inr ⟨?_, ⟨o, ho, k2⟩, fun o ho => k3 o ho.1 ho.2.1 ho.2.2⟩
      unfold yCl
      omega
  · have hn := (mV_n hV).2
    have b1 := yPi_b (r := r) (e := n) hB hV (by omega)
    have b2 := pl_b hV (e := n) (by omega)
    show _ ∨ _
    by_cases c : σ 18 n ≠ 0 ∧ yPi σ r n ≠ -1 ∧ m < yPi σ r n - pl σ n
    · rw [if_pos c]
      refine Or.inr ⟨by omega, ⟨n, ⟨h0, by omega, c.1⟩, c.2.1, rfl⟩, fun o a1 a2 a3 a4 => ?_⟩
      by_cases e : o = n
      · subst e; omega
      · rcases ih with ⟨i1, i2⟩ | ⟨i1, i2, i3⟩
        · exact absurd (i2 o a1 (by omega) a3) a4
        · have := i3 o a1 (by omega) a3 a4; omega
    · rw [if_neg c]
      rcases ih with ⟨i1, i2⟩ | ⟨i1, ⟨o, ⟨i2, i2', i2''⟩, i3⟩, i4⟩
      · refine Or.inl ⟨i1, fun o a1 a2 a3 => ?_⟩
        by_cases e : o = n
        · subst e
          by_cases e2 : yPi σ r o = -1
          · exact e2
          · exact absurd ⟨a3, e2, by omega⟩ c
        · exact i2 o a1 (by omega) a3
      · refine Or.inr ⟨i1, ⟨o, ⟨i2, by omega, i2''⟩, i3⟩, fun o a1 a2 a3 a4 => ?_⟩
        by_cases e : o = n
        · subst e
          by_cases e2 : m < yPi σ r o - pl σ o
          · exact absurd ⟨a3, a4, e2⟩ c
          · omega
        · exact i4 o a1 (by omega) a3 a4
theorem jR.aClimb (h : jR κ σ) (hB : mB σ) (hV : mV σ) {r : Int} (hr : kp σ r) : cCb κ r = if yCl σ r = -100000000 then 0 else yCl σ r := by
  have h0 := h.s.1.1
  have hc := cCb_s (κ := κ) (r := r) (κ 24 1 0 - 0).toNat 0 0 0 (Or.inl rfl)
  have hn : (0 : Int) + ((κ 24 1 0 - 0).toNat : Int) = κ 24 1 0 := by omega
  rw [hn] at hc
  have v : ∀ o, pr σ o → cPc κ r o = yPi σ r o ∧ κ 37 o 0 = pl σ o := fun o ho => ⟨h.zpc hr (pr_b ho), (h.xpl hV ho).1.symm⟩
  unfold cCb
  rcases yCl_s (r := r) hB hV with ⟨k1, k2⟩ | ⟨k1, ⟨o, ho, k2, k3⟩, k4⟩
  · rw [if_pos k1]
    rcases hc with ⟨-, -, c3⟩ | ⟨c1, -, -⟩
    · exact c3
    · rcases c1 with ⟨c1, -⟩ | ⟨j, a1, a2, a3, -⟩
      · omega
      · have hp := h.xsp ⟨a1, a2⟩
        exact absurd ((v _ hp).1.trans (k2 _ hp)) a3
  · rw [if_neg k1]
    obtain ⟨j, hj, rfl⟩ := h.xat ho
    rcases hc with ⟨-, c2, -⟩ | ⟨c1, -, c3⟩
    · exact absurd ((v _ ho).1.symm.trans (c2 j hj.1 hj.2)) k2
    · have b1 := c3 j hj.1 hj.2 (by rw [(v _ ho).1]; exact k2)
      rw [(v _ ho).1, (v _ ho).2] at b1
      rcases c1 with ⟨c1, -⟩ | ⟨j2, a1, a2, a3, a4⟩
      · omega
      · have hp := h.xsp ⟨a1, a2⟩
        rw [(v _ hp).1] at a3
        have b2 := k4 _ hp a3
        rw [(v _ hp).1, (v _ hp).2] at a4
        omega
theorem jR.aInForm (h : jR κ σ) (hV : mV σ) (hS : cS κ) {k n : Int} (hF : ∀ e, pr σ e → cFo κ e k n = yFo σ e k n) : cIf κ k n = yIf σ k n := by
  have h0 := h.s.1.1
  have key : ∀ (f : Nat) (i t g : Int), 0 ≤ i → i + f = κ 24 1 0 → t = z_fl (fun t o => if t = -1 ∨ yFo σ t k n < yFo σ (ea σ (o + 1)) k n then ea σ (o + 1) else t) (-1) i → (t ≠ -1 → g = yFo σ t k n) → cIfL κ k n f i t g = z_fl (fun t o => if t = -1 ∨ yFo σ t k n < yFo σ (ea σ (o + 1)) k n then ea σ (o + 1) else t) (-1) (κ 24 1 0) := by
    intro f
    induction f with
    | zero => intro i t g _ hi ht _; rw [cIfL, ht, show κ 24 1 0 = i by omega]
    | succ f ih =>
      intro i t g hi0 hi ht hg
      have hp := h.xsp (i := i) (by omega)
      have e1 := h.xea hV (p := i + 1) (by omega)
      rw [show i + 1 - 1 = i by omega] at e1
      have e2 := hF _ hp
      have e3 := jR.xn34 hS h hp
      rw [cIfL, e2, e3]
      by_cases c : t = -1 ∨ g < yFo σ (κ 20 1 i) k n
      · rw [if_pos c]
        refine ih (i + 1) _ _ (by omega) (by omega) ?_ (fun _ => rfl)
        rw [z_flS hi0, ← ht, e1, if_pos]
        rcases c with c | c
        · exact Or.inl c
        · by_cases c2 : t = -1
          · exact Or.inl c2
          · rw [← hg c2]; exact Or.inr c
      · rw [if_neg c]
        refine ih (i + 1) _ _ (by omega) (by omega) ?_ hg
        rw [z_flS hi0, ← ht, e1, if_neg]
        intro q
        rcases q with q | q
        · exact c (Or.inl q)
        · by_cases c2 : t = -1
          · exact c (Or.inl c2)
          · rw [← hg c2] at q; exact c (Or.inr q)
  unfold cIf yIf
  rw [← h.xn1 hV]
  exact key _ 0 (-1) 0 (by omega) (by omega) (z_fl0 (by omega)).symm (fun q => absurd rfl q)
end N5
