/-! A ROUND ENDS. -/
section RND
variable {t : Nat} {κ κL : c_K} {σ : z_S}
/-- what falls on the ladder, in both -/
theorem fall_eq (h : jJ t κ σ) (hS : cS κ) : ∀ j : Nat, (j : Int) ≤ σ 25 0 - 1 → ∀ i, 0 ≤ i → i < σ 25 0 → kFs κ (κ 1 0 0 - κ 19 0 0 + 1) j 20 3 i = yFs σ (j + 1) i := by
  have hl := h.1.l
  have hV := h.V
  have h1 := h.1.a.2.1
  have h19 := h.1.a.2.2.2.1
  have m6 := h.2.2.2.2.2.2.2.2
  intro j
  induction j with
  | zero =>
    intro hj i a b
    have e1 : yFs σ (0 + 1) i = σ 21 i := by
      unfold yFs
      rw [if_pos (Or.inr (Or.inr (Or.inr (by show σ 25 0 - 1 - ((0 : Nat) : Int) + 1 = σ 25 0; omega))))]
      rfl
    rw [e1]
    exact (hl.2.1 i a b).1
  | succ j ih =>
    intro hj i a b
    have ih := ih (by omega)
    have hp : 0 ≤ σ 25 0 - 2 - (j : Int) ∧ σ 25 0 - 2 - (j : Int) + 1 < σ 25 0 := by omega
    have hlp := hl.2.1 (σ 25 0 - 2 - (j : Int)) hp.1 (by omega)
    have hil : jIl σ (σ 21 (σ 25 0 - 2 - (j : Int))) := ⟨_, hp.1, by omega, rfl⟩
    have hrt := ((h.1.e (pr_b hlp.2)).2.2.2.2.2.1 hlp.2.2.2).2.2.1 hil
    have h22 := m6 _ hil
    have h40 := hS.s40 (σ 21 (σ 25 0 - 2 - (j : Int))) 0
    have e0 : σ 25 0 - 1 - (((j + 1 : Nat)) : Int) = σ 25 0 - 2 - (j : Int) := by omega
    show (if κ 39 (κ 20 3 (κ 24 3 0 - 2 - j)) 0 ≤ κ 1 0 0 - κ 19 0 0 + 1 ∧ κ 40 (κ 20 3 (κ 24 3 0 - 2 - j)) 0 < κ 1 0 0 - κ 19 0 0 + 1 then k_u (k_u (kFs κ (κ 1 0 0 - κ 19 0 0 + 1) j) 20 3 (κ 24 3 0 - 2 - j) (kFs κ (κ 1 0 0 - κ 19 0 0 + 1) j 20 3 (κ 24 3 0 - 2 - j + 1))) 20 3 (κ 24 3 0 - 2 - j + 1) (κ 20 3 (κ 24 3 0 - 2 - j)) else kFs κ (κ 1 0 0 - κ 19 0 0 + 1) j) 20 3 i = (if yFc σ (σ 25 0 - 1 - ((j + 1 : Nat) : Int)) then yFs σ (j + 1) else fun i => if i = σ 25 0 - 1 - ((j + 1 : Nat) : Int) + 1 then σ 21 (σ 25 0 - 1 - ((j + 1 : Nat) : Int)) else if i = σ 25 0 - 1 - ((j + 1 : Nat) : Int) then yFs σ (j + 1) (σ 25 0 - 1 - ((j + 1 : Nat) : Int) + 1) else yFs σ (j + 1) i) i
    rw [e0, hl.1, hlp.1, hrt.1, hrt.2, h1, h19]
    rw [hrt.2] at h40
    have ih' : ∀ i, 0 ≤ i → i < σ 25 0 → kFs κ (σ 30 0 - σ 27 0 + 1) j 20 3 i = yFs σ (j + 1) i := by
      rw [h1, h19] at ih
      exact ih
    by_cases c : σ 22 (σ 21 (σ 25 0 - 2 - (j : Int))) ≤ σ 30 0 - σ 27 0 + 1 ∧ σ 23 (σ 21 (σ 25 0 - 2 - (j : Int))) < σ 30 0 - σ 27 0 + 1
    · rw [if_pos c, if_neg (show ¬ yFc σ (σ 25 0 - 2 - (j : Int)) by unfold yFc; omega)]
      show _ = (if i = σ 25 0 - 2 - (j : Int) + 1 then σ 21 (σ 25 0 - 2 - (j : Int)) else if i = σ 25 0 - 2 - (j : Int) then yFs σ (j + 1) (σ 25 0 - 2 - (j : Int) + 1) else yFs σ (j + 1) i)
      rw [k_u_eq]
      by_cases c1 : i = σ 25 0 - 2 - (j : Int) + 1
      · rw [if_pos c1]
        exact if_pos c1
      · rw [if_neg c1]
        rw [show z_up _ (σ 25 0 - 2 - (j : Int) + 1) (σ 21 (σ 25 0 - 2 - (j : Int))) i = _ from if_neg c1, k_u_eq]
        by_cases c2 : i = σ 25 0 - 2 - (j : Int)
        · rw [if_pos c2, ← ih' _ (by omega) hp.2]
          exact if_pos c2
        · rw [if_neg c2, ← ih' i a b]
          exact if_neg c2
    · rw [if_neg c, if_pos (show yFc σ (σ 25 0 - 2 - (j : Int)) by unfold yFc; omega)]
      exact ih' i a b
theorem fall_pm (hD : mD σ) : ∀ j : Nat, (j : Int) ≤ σ 25 0 → jPm (σ 25 0) (yFs σ j) (σ 21) := by
  intro j
  induction j with
  | zero => intro _; exact ⟨hD, fun x => Iff.rfl⟩
  | succ j ih =>
    intro hj
    have ih := ih (by omega)
    have e1 : yFs σ j (σ 25 0 - 1 - (j : Int)) = σ 21 (σ 25 0 - 1 - (j : Int)) := yFs_lo σ j _ (Int.le_refl _)
    unfold yFs
    split
    · exact ih
    · rename_i c
      have c' : σ 25 0 - 1 - (j : Int) + 1 ≠ σ 25 0 := fun q => c (Or.inr (Or.inr (Or.inr q)))
      refine jPm_m (m := jx (σ 25 0 - 1 - (j : Int))) (m' := jx (σ 25 0 - 1 - (j : Int))) ih (fun i a b => ?_) (fun i a b => ?_) (fun i a b => ?_)
      · show (if i = σ 25 0 - 1 - (j : Int) + 1 then σ 21 (σ 25 0 - 1 - (j : Int)) else if i = σ 25 0 - 1 - (j : Int) then yFs σ j (σ 25 0 - 1 - (j : Int) + 1) else yFs σ j i) = yFs σ j (if i = σ 25 0 - 1 - (j : Int) then σ 25 0 - 1 - (j : Int) + 1 else if i = σ 25 0 - 1 - (j : Int) + 1 then σ 25 0 - 1 - (j : Int) else i)
        by_cases c1 : i = σ 25 0 - 1 - (j : Int)
        · rw [if_neg (by omega), if_pos c1, if_pos c1]
        · rw [if_neg c1, if_neg c1]
          by_cases c2 : i = σ 25 0 - 1 - (j : Int) + 1
          · rw [if_pos c2, if_pos c2, e1]
          · rw [if_neg c2, if_neg c2]
      · refine ⟨?_, ?_, jx_x _ _⟩ <;> (unfold jx; (repeat' split) <;> omega)
      · refine ⟨?_, ?_, jx_x _ _⟩ <;> (unfold jx; (repeat' split) <;> omega)
theorem jJ_fall (h : jJ t κ σ) (hS : cS κ) : jJ t (kFa κ (κ 1 0 0 - κ 19 0 0 + 1)) (z_ur σ 21 (yFa σ)) := by
  have hl := h.1.l
  have h25 := h.V.2.2.2.2.2.2.1
  have key : ∀ i, 0 ≤ i → i < σ 25 0 → kFa κ (κ 1 0 0 - κ 19 0 0 + 1) 20 3 i = yFa σ i := fun i a b => by
    have e := fall_eq h hS (σ 25 0 - 1).toNat (by omega) i a b
    rw [show (σ 25 0 - 1).toNat + 1 = (σ 25 0).toNat by omega] at e
    show _ = yFs σ (σ 25 0).toNat i
    rw [← e]
    unfold kFa
    rw [hl.1]
    by_cases c : σ 25 0 < 2
    · rw [if_pos c, show (σ 25 0 - 1).toNat = 0 by omega]
      rfl
    · rw [if_neg c]
  refine jJ_lad h (fun k c1 _ _ _ => kFa_ne c1) (fun k i hi => ?_) (by rw [kFa_ne (by decide)]) key (fall_pm h.D _ (by omega)) (fun i => yFs_b h.V _ i)
  by_cases c : k = 20
  · subst c
    unfold kFa
    split
    · rfl
    · exact kFs_ni hi _
  · rw [kFa_ne c]
theorem k_u_nx {k k' : Nat} {i i' j v : Int} (h : i' ≠ i) : k_u κ k i j v k' i' = κ k' i' := by
  by_cases hk : k' = k
  · subst hk; exact k_u_ni h
  · rw [k_u_ne hk]
/-- what is kept of a round -/
theorem Ks_x {r : Int} : ∀ (m : Nat) (x : Int), 0 ≤ x → (x < m → kKs κ r m 32 x = z_up (κ 32 x) (r % 10) (if κ 36 x 0 = 0 then 0 else κ 38 x 0) ∧ kKs κ r m 33 x = z_up (κ 33 x) (r % 20) (if κ 36 x 0 = 0 then -1 else κ 37 x 0) ∧ kKs κ r m 38 x 0 = 0) ∧ ((m : Int) ≤ x → ∀ k, kKs κ r m k x = κ k x) := by
  intro m
  induction m with
  | zero => intro x h0; exact ⟨fun q => by omega, fun _ k => rfl⟩
  | succ m ih =>
    intro x h0
    have h36 : kKs κ r m 36 = κ 36 := kKs_ne (by decide) m
    have h37 : kKs κ r m 37 = κ 37 := kKs_ne (by decide) m
    refine ⟨fun q => ?_, fun q k => ?_⟩
    · show kK (kKs κ r m) m r 32 x = _ ∧ kK (kKs κ r m) m r 33 x = _ ∧ kK (kKs κ r m) m r 38 x 0 = 0
      unfold kK
      rw [h36, h37]
      by_cases c : x = (m : Int)
      · subst c
        have e := (ih (m : Int) h0).2 (Int.le_refl _)
        by_cases c6 : κ 36 (m : Int) 0 = 0
        · rw [if_pos c6, if_pos c6, if_pos c6]
          refine ⟨?_, ?_, k_u_at⟩
          · rw [k_u_ne (by decide), k_u_ne (by decide), k_u_eq, e]
          · rw [k_u_ne (by decide), k_u_eq, k_u_ne (by decide), e]
        · rw [if_neg c6, if_neg c6, if_neg c6]
          refine ⟨?_, ?_, k_u_at⟩
          · rw [k_u_ne (by decide), k_u_ne (by decide), k_u_eq, e, e]
          · rw [k_u_ne (by decide), k_u_eq, k_u_ne (by decide), e]
      · obtain ⟨a1, a2, a3⟩ := (ih x h0).1 (by omega)
        by_cases c6 : κ 36 (m : Int) 0 = 0
        · rw [if_pos c6]
          refine ⟨?_, ?_, ?_⟩
          · rw [k_u_nx c, k_u_nx c, k_u_nx c]; exact a1
          · rw [k_u_nx c, k_u_nx c, k_u_nx c]; exact a2
          · rw [k_u_nx c, k_u_nx c, k_u_nx c]; exact a3
        · rw [if_neg c6]
          refine ⟨?_, ?_, ?_⟩
          · rw [k_u_nx c, k_u_nx c, k_u_nx c]; exact a1
          · rw [k_u_nx c, k_u_nx c, k_u_nx c]; exact a2
          · rw [k_u_nx c, k_u_nx c, k_u_nx c]; exact a3
    · have c : x ≠ (m : Int) := by omega
      show kK (kKs κ r m) m r k x = _
      unfold kK
      split
      · rw [k_u_nx c, k_u_nx c, k_u_nx c]; exact (ih x h0).2 (by omega) k
      · rw [k_u_nx c, k_u_nx c, k_u_nx c]; exact (ih x h0).2 (by omega) k
theorem jJ_round (h : jJ t κ σ) (hS : cS κ) (hr : σ 30 0 < 200) : jJ t (kEr κ) (yEr σ) := by
  have hF := jJ_fall h hS
  have hV := h.V
  have hB := h.B
  have hn := mV_n hV
  have h30 := hV.2.2.2.2.2.2.2.2.2.1
  have hk1 := h.1.a.2.1
  have fne : ∀ k, k ≠ 20 → kFa κ (κ 1 0 0 - κ 19 0 0 + 1) k = κ k := fun k hk => kFa_ne hk
  have g24 : (kFa κ (κ 1 0 0 - κ 19 0 0 + 1)) 24 = κ 24 := fne 24 (by decide)
  have y30 : yEr σ 30 0 = σ 30 0 + 1 := by unfold yEr; exact z_u_at
  have y17 : yEr σ 17 = yBg σ (σ 19 0) := by unfold yEr; rw [z_u_ne (by decide), z_ur_at]
  have y29 : yEr σ 29 = yP σ 30 := by unfold yEr; rw [z_u_ne (by decide), z_ur_ne (by decide), z_ur_at]
  have y28 : yEr σ 28 = yG σ 30 := by unfold yEr; rw [z_u_ne (by decide), z_ur_ne (by decide), z_ur_ne (by decide), z_ur_at]
  have f1 : ∀ k, k ≠ 1 → k ≠ 20 → k ≠ 32 → k ≠ 33 → k ≠ 38 → kEr κ k = κ k := fun k a b c d e => by
    unfold kEr
    rw [k_u_ne a, kKs_ne ⟨c, d, e⟩, fne k b]
  have f20 : kEr κ 20 = kFa κ (κ 1 0 0 - κ 19 0 0 + 1) 20 := by
    unfold kEr
    rw [k_u_ne (by decide), kKs_ne (by decide)]
  have f11 : kEr κ 1 0 0 = κ 1 0 0 + 1 := by unfold kEr; exact k_u_at
  have fx : ∀ x, 0 ≤ x → x < σ 19 0 → kEr κ 32 x = z_up (κ 32 x) (σ 30 0 % 10) (if κ 36 x 0 = 0 then 0 else κ 38 x 0) ∧ kEr κ 33 x = z_up (κ 33 x) (σ 30 0 % 20) (if κ 36 x 0 = 0 then -1 else κ 37 x 0) ∧ kEr κ 38 x 0 = 0 := fun x a b => by
    have e := (Ks_x (κ := kFa κ (κ 1 0 0 - κ 19 0 0 + 1)) (r := κ 1 0 0) (κ 24 0 0).toNat x a).1 (by rw [h.1.n]; omega)
    rw [fne 32 (by decide), fne 33 (by decide), fne 36 (by decide), fne 37 (by decide), fne 38 (by decide), hk1] at e
    unfold kEr
    rw [k_u_ne (k' := 32) (by decide), k_u_ne (k' := 33) (by decide), k_u_ne (k' := 38) (by decide), hk1]
    exact e
  have yPx : ∀ x j : Int, 0 ≤ x → x < 30 → 0 ≤ j → j < 20 → yP σ 30 (20 * x + j) = if j = σ 30 0 % 20 then ypv σ x else σ 29 (20 * x + j) := fun x j a b c d => by
    unfold yP
    have e1 : (20 * x + j) % 20 = j := by omega
    have e2 : (20 * x + j) / 20 = x := by omega
    rw [e1, e2]
    by_cases c1 : j = σ 30 0 % 20
    · rw [if_pos c1, if_pos ⟨c1, by omega, b⟩]
    · rw [if_neg c1, if_neg (fun q => c1 q.1)]
  have yGx : ∀ x s : Int, 0 ≤ x → x < 30 → 0 ≤ s → s < 200 → yG σ 30 (200 * x + s) = if s = σ 30 0 then ygv σ x else σ 28 (200 * x + s) := fun x j a b c d => by
    unfold yG
    have e1 : (200 * x + j) % 200 = j := by omega
    have e2 : (200 * x + j) / 200 = x := by omega
    rw [e1, e2]
    by_cases c1 : j = σ 30 0
    · rw [if_pos c1, if_pos ⟨c1, by omega, b⟩]
    · rw [if_neg c1, if_neg (fun q => c1 q.1)]
  have ypx : ∀ x, 0 ≤ x → x < σ 19 0 → ypv σ x = if κ 36 x 0 = 0 then -1 else κ 37 x 0 := fun x a b => by
    have q3 := (h.1.e (e := x) ⟨a, b⟩).2.2.1
    unfold ypv
    by_cases c : σ 18 x ≠ 0
    · rw [if_pos ⟨b, c⟩, if_neg (by rw [q3]; exact c)]
      exact (h.1.xpl hV (e := x) ⟨a, b, c⟩).1
    · rw [if_neg (fun q => c q.2), if_pos (by rw [q3]; omega)]
  have ygx : ∀ x, 0 ≤ x → x < σ 19 0 → ygv σ x = if κ 36 x 0 = 0 then 0 else κ 38 x 0 := fun x a b => by
    have q3 := (h.1.e (e := x) ⟨a, b⟩).2.2.1
    unfold ygv
    by_cases c : σ 18 x ≠ 0
    · rw [if_pos ⟨b, c⟩, if_neg (by rw [q3]; exact c)]
      exact (((h.1.e (e := x) ⟨a, b⟩).2.2.2.2.2.1 c).1).symm
    · rw [if_neg (fun q => c q.2), if_pos (by rw [q3]; omega)]
  have ypr : ∀ x, 0 ≤ x → x < σ 19 0 → ypv σ x = -1 ∨ (1 ≤ ypv σ x ∧ ypv σ x ≤ 30) := fun x a b => by
    unfold ypv
    by_cases c : x < σ 19 0 ∧ σ 18 x ≠ 0
    · rw [if_pos c]
      have e := h.1.xpl hV (e := x) ⟨a, b, c.2⟩
      have e2 := h.1.xn1 hV
      have e3 := my_b hV
      omega
    · rw [if_neg c]; exact Or.inl rfl
  obtain ⟨hL, hLM⟩ := hF
  refine ⟨⟨?_, ?_, ?_, fun x h0 h1 => ?_, fun x h0 h1 => ?_, ?_, ?_, ?_, h.1.m, fun j a b c => ⟨fun e h0 h1 => ?_, fun e o h0 h1 h2 h3 hne hq => ?_⟩⟩, ?_⟩
  · unfold TR
    rw [f1 5 (by decide) (by decide) (by decide) (by decide) (by decide), f1 4 (by decide) (by decide) (by decide) (by decide) (by decide)]
    exact h.1.t
  · unfold jRa
    rw [f1 0 (by decide) (by decide) (by decide) (by decide) (by decide), f11, f1 18 (by decide) (by decide) (by decide) (by decide) (by decide), f1 19 (by decide) (by decide) (by decide) (by decide) (by decide), f1 24 (by decide) (by decide) (by decide) (by decide) (by decide), y30]
    exact ⟨h.1.a.1, by rw [hk1], h.1.a.2.2.1, h.1.a.2.2.2.1, h.1.a.2.2.2.2⟩
  · unfold jRo
    rw [f1 16 (by decide) (by decide) (by decide) (by decide) (by decide), f1 17 (by decide) (by decide) (by decide) (by decide) (by decide), f1 12 (by decide) (by decide) (by decide) (by decide) (by decide), f1 14 (by decide) (by decide) (by decide) (by decide) (by decide)]
    exact h.1.o
  · have h1' : x < σ 19 0 := h1
    obtain ⟨q1, q2, q3, q4, q5, q6, q7⟩ := h.1.e (e := x) ⟨h0, h1'⟩
    obtain ⟨l1, l2, l3, l4, l5, l6, l7⟩ := hL.e (e := x) ⟨h0, h1'⟩
    obtain ⟨x1, x2, x3⟩ := fx x h0 h1'
    refine ⟨fun k a b => ?_, ?_, ?_, fun j a b c => ?_, fun s a b c => ?_, fun hc => ⟨?_, ?_, ?_, ?_⟩, fun hc => ?_⟩
    · rw [f1 30 (by decide) (by decide) (by decide) (by decide) (by decide)]; exact q1 k a b
    · rw [f1 35 (by decide) (by decide) (by decide) (by decide) (by decide)]; exact q2
    · rw [f1 36 (by decide) (by decide) (by decide) (by decide) (by decide)]; exact q3
    · rw [y30] at c
      rw [x2, y29, yPx x j h0 (by omega) a b]
      by_cases c1 : j = σ 30 0 % 20
      · rw [if_pos c1, ypx x h0 h1']
        exact if_pos c1
      · rw [if_neg c1]
        exact (if_neg c1).trans (q4 j a b (by omega))
    · rw [y30] at b c
      rw [x1, y28, yGx x s h0 (by omega) a (by omega)]
      by_cases c1 : s = σ 30 0
      · rw [if_pos c1, ygx x h0 h1', c1]
        exact if_pos rfl
      · rw [if_neg c1]
        exact (if_neg (by omega)).trans (q5 s a (by omega) (by omega))
    · rw [x3, y17]
      show 0 = σ 14 (4 * x) - yBg σ (σ 19 0) x
      unfold yBg
      rw [if_pos ⟨h0, h1'⟩]
      omega
    · intro c a b
      rw [f1 31 (by decide) (by decide) (by decide) (by decide) (by decide)]
      exact (q6 hc).2.1 c a b
    · rw [f1 39 (by decide) (by decide) (by decide) (by decide) (by decide), f1 40 (by decide) (by decide) (by decide) (by decide) (by decide)]
      have l := (l6 hc).2.2.1
      rw [fne 39 (by decide), fne 40 (by decide)] at l
      exact l
    · rw [f1 40 (by decide) (by decide) (by decide) (by decide) (by decide)]
      have l := (l6 hc).2.2.2
      rw [fne 40 (by decide)] at l
      exact l
    · rw [f1 37 (by decide) (by decide) (by decide) (by decide) (by decide)]; exact q7 hc
  · have h0' : σ 19 0 ≤ x := h0
    obtain ⟨a1, a2, a3, a4, a5⟩ := h.1.z (e := x) ⟨h0', h1⟩
    refine ⟨a1, a2, ?_, fun j a b c => ?_, fun s a b => ?_⟩
    · rw [y17]
      exact (if_neg (by omega)).trans a3
    · rw [y30] at c
      rw [y29, yPx x j (by omega) h1 a b]
      by_cases c1 : j = σ 30 0 % 20
      · rw [if_pos c1]
        exact if_neg (by omega)
      · rw [if_neg c1]; exact a4 j a b (by omega)
    · rw [y30] at b
      rw [y28, yGx x s (by omega) h1 a (by omega)]
      by_cases c1 : s = σ 30 0
      · rw [if_pos c1]
        exact if_neg (by omega)
      · rw [if_neg c1]; exact a5 s a (by omega)
  · have e20 : kEr κ 20 1 = κ 20 1 := by
      rw [f20]
      unfold kFa
      split
      · rfl
      · exact kFs_ni (by decide) _
    unfold jRs
    rw [e20, f1 24 (by decide) (by decide) (by decide) (by decide) (by decide), f1 37 (by decide) (by decide) (by decide) (by decide) (by decide)]
    exact h.1.s
  · have e20 : kEr κ 20 2 = κ 20 2 := by
      rw [f20]
      unfold kFa
      split
      · rfl
      · exact kFs_ni (by decide) _
    unfold jRp
    rw [e20, f1 24 (by decide) (by decide) (by decide) (by decide) (by decide)]
    exact h.1.p
  · have l := hL.l
    unfold jRl at l ⊢
    rw [g24] at l
    rw [f20, f1 24 (by decide) (by decide) (by decide) (by decide) (by decide)]
    exact l
  · have h1' : e < σ 19 0 := h1
    rw [y30] at c
    rw [y29, yPx e j h0 (by omega) a b]
    by_cases c1 : j = σ 30 0 % 20
    · rw [if_pos c1]; exact ypr e h0 h1'
    · rw [if_neg c1]; exact (h.1.k j a b (by omega)).1 e h0 h1'
  · have h1' : e < σ 19 0 := h1
    have h3' : o < σ 19 0 := h3
    rw [y30] at c
    rw [y29, yPx e j h0 (by omega) a b] at hq
    rw [y29, yPx e j h0 (by omega) a b, yPx o j h2 (by omega) a b]
    by_cases c1 : j = σ 30 0 % 20
    · rw [if_pos c1] at hq
      rw [if_pos c1, if_pos c1]
      unfold ypv at hq ⊢
      by_cases ce : e < σ 19 0 ∧ σ 18 e ≠ 0
      · rw [if_pos ce]
        have pe := h.1.xpl hV (e := e) ⟨h0, h1', ce.2⟩
        by_cases co : o < σ 19 0 ∧ σ 18 o ≠ 0
        · rw [if_pos co]
          have po := h.1.xpl hV (e := o) ⟨h2, h3', co.2⟩
          intro q
          rw [q] at pe
          exact hne (pe.2.2.2.symm.trans po.2.2.2)
        · rw [if_neg co]; omega
      · rw [if_neg ce] at hq; exact absurd rfl hq
    · rw [if_neg c1] at hq
      rw [if_neg c1, if_neg c1]
      exact (h.1.k j a b (by omega)).2 e o h0 h1' h2 h3' hne hq
  · obtain ⟨-, m0, m1, m2, m3, m4, m5, m6⟩ := h.2
    have v21 := hV.2.2.2.2.2.2.2.1
    have v24 := hV.2.2.2.2.2.2.2.2.1
    have v14 := hV.2.1
    have hlk : ∀ i, 0 ≤ ylk σ i ∧ ylk σ i < 30 := fun i => by
      unfold ylk
      split
      · exact v21 i
      · exact v24 i
    have hfa : ∀ i, 0 ≤ yFa σ i ∧ yFa σ i < 30 := fun i => yFs_b hV _ i
    have hg : ∀ i, -1000000 ≤ yG σ 30 i ∧ yG σ 30 i ≤ 1000000 := fun i => by
      unfold yG ygv
      have b1 := m2 (i / 200)
      have b2 := v14 (4 * (i / 200))
      have b3 := hB 28 i
      split
      · split <;> omega
      · exact b3
    have hp : ∀ i, -1000000 ≤ yP σ 30 i ∧ yP σ 30 i ≤ 1000000 := fun i => by
      unfold yP ypv
      have b3 := hB 29 i
      split
      · rename_i c
        have b1 := pl_b hV (e := i / 20) (by omega)
        split <;> omega
      · exact b3
    have hbg : ∀ i, -100000 ≤ yBg σ (σ 19 0) i ∧ yBg σ (σ 19 0) i ≤ 100000 := fun i => by
      unfold yBg
      split
      · exact v14 _
      · exact m2 i
    refine ⟨?_, ?_, m1, fun i => by rw [y17]; exact hbg i, m3, m4, m5, ?_⟩
    · unfold yEr
      exact mB_u (mB_ur (mB_ur (mB_ur (mB_ur (mB_ur hB (fun i => by have := hlk i; omega)) (fun i => by have := hfa i; omega)) hg) hp) (fun i => by have := hbg i; omega)) (by omega)
    · have a1 : mV (z_ur σ 24 (ylk σ)) := mVr_24 hV hlk
      have a2 : mV (z_ur (z_ur σ 24 (ylk σ)) 21 (yFa σ)) := mVr_21 a1 hfa
      have a3 : mV (z_u (z_ur (z_ur σ 24 (ylk σ)) 21 (yFa σ)) 30 0 (σ 30 0 + 1)) := mVu_30 a2 (by omega)
      exact a3
    · exact hLM.2.2.2.2.2.2.2
theorem yEr_0 (σ : z_S) : yEr σ 0 = σ 0 := by
  unfold yEr
  rw [z_u_ne (by decide), z_ur_ne (by decide), z_ur_ne (by decide), z_ur_ne (by decide), z_ur_ne (by decide), z_ur_ne (by decide)]
end RND
section RNE
end RNE
