/-! ALL PAIRS OF CALLS; the first state (laid by wip/whole/gen/gen88.py). -/
section ALL
theorem s_all {t : Nat} {G : z_G} {q : Nat} {A : Nat → Nat} {o1 o2 : Nat} {κ : c_K} {σ : z_S} (hG : z_OK G) (hN : z_NC G) (hM : z_MI G) (ht : t ≤ 511) (h : jJ t κ σ) : vAll G q A o1 o2 (jJ (t + 1)) κ σ :=
  ⟨s_append hG hN hM h, s_clearTape hG hM h, s_setOrder hG hN hM h, s_errorPosition hG h, s_criterion hG hN h, s_come hG hN hM ht h, s_leave hG hN hM h, s_score hG hN hM ht h, s_setScore hG hN hM ht h, s_scoreOf hG hN h, s_groupOf hG hN h, s_entrants hG h, s_at hG hN h, s_place hG hN h, s_rank hG hN h, s_alike hG hN h, s_results hG h, s_rankSum hG h, s_wouldGain hG hN h, s_needed hG hN h, s_above hG h, s_with hG h, s_withAt hG h, s_next hG hN h, s_between hG hN h, s_median hG hN h, s_quantile hG hN h, s_enter hG hN hM h, s_challenge hG hN hM h, s_mayChallenge hG hN h, s_setReach hG hN hM h, s_setPatience hG hN hM h, s_ladderAt hG hN h, s_ladderPlace hG hN h, s_endRound hG hN hM h, s_round hG h, s_gain hG hN h, s_form hG hN h, s_inForm hG hN h, s_placeThen hG hN h, s_climb hG hN h, s_best hG hN h, s_members hG hN h, s_teamScore hG hN h, s_groupAt hG hN h, s_inversions hG hN h, s_swaps hG hN h, s_meanPoints hG h, s_beats hG hN h, s_errors hG h⟩
theorem b0_l {k : Nat} (h : k ≠ 18) (h' : k ≠ 19) : bLo k ≤ 0 := by
  unfold bLo
  split <;> omega
theorem b0_h (k : Nat) : 0 ≤ bHi k := by
  unfold bHi
  split <;> omega
theorem k0_b : ∀ (k : Nat) (i j : Int), bLo k ≤ k0 k i j ∧ k0 k i j ≤ bHi k := by
  intro k i j
  have h2 : z_up (fun _ => (0 : Int)) 0 1 j = 0 ∨ z_up (fun _ => (0 : Int)) 0 1 j = 1 := by
    unfold z_up
    split
    · exact Or.inr rfl
    · exact Or.inl rfl
  by_cases c1 : k = 18
  · subst c1
    show bLo 18 ≤ 2 ∧ (2 : Int) ≤ bHi 18
    decide
  by_cases c2 : k = 19
  · subst c2
    show bLo 19 ≤ 3 ∧ (3 : Int) ≤ bHi 19
    decide
  by_cases c3 : k = 0 ∨ k = 34 ∨ k = 37 ∨ k = 39 ∨ k = 40
  · rcases c3 with rfl | rfl | rfl | rfl | rfl
    · show bLo 0 ≤ -1 ∧ (-1 : Int) ≤ bHi 0
      decide
    · show bLo 34 ≤ -1 ∧ (-1 : Int) ≤ bHi 34
      decide
    · show bLo 37 ≤ -1 ∧ (-1 : Int) ≤ bHi 37
      decide
    · show bLo 39 ≤ -1 ∧ (-1 : Int) ≤ bHi 39
      decide
    · show bLo 40 ≤ -1 ∧ (-1 : Int) ≤ bHi 40
      decide
  by_cases c4 : k = 36
  · subst c4
    show bLo 36 ≤ 1 ∧ (1 : Int) ≤ bHi 36
    decide
  by_cases c5 : k = 33
  · subst c5
    show bLo 33 ≤ (if 0 ≤ j ∧ j < ((20 : Nat) : Int) then (-1 : Int) else 0) ∧ (if 0 ≤ j ∧ j < ((20 : Nat) : Int) then (-1 : Int) else 0) ≤ bHi 33
    split <;> decide
  by_cases c6 : k = 16
  · subst c6
    show bLo 16 ≤ (if i = 0 then (1 : Int) else 0) ∧ (if i = 0 then (1 : Int) else 0) ≤ bHi 16
    split <;> decide
  by_cases c7 : k = 12 ∨ k = 14
  · rcases c7 with rfl | rfl
    · show bLo 12 ≤ (if i = 0 then z_up (fun _ => (0 : Int)) 0 1 j else 0) ∧ (if i = 0 then z_up (fun _ => (0 : Int)) 0 1 j else 0) ≤ bHi 12
      split
      · rcases h2 with e | e <;> rw [e] <;> decide
      · decide
    · show bLo 14 ≤ (if i = 0 then z_up (fun _ => (0 : Int)) 0 1 j else 0) ∧ (if i = 0 then z_up (fun _ => (0 : Int)) 0 1 j else 0) ≤ bHi 14
      split
      · rcases h2 with e | e <;> rw [e] <;> decide
      · decide
  have e0 : k0 k i j = 0 := by
    unfold k0
    rw [if_neg c1, if_neg c2, if_neg c3, if_neg c4, if_neg c5, if_neg c6, if_neg c7]
  rw [e0]
  exact ⟨b0_l c1 c2, b0_h k⟩
theorem k0_V : cV k0 := by
  refine ⟨?_, fun r a b => ?_, fun r j a b c d => ?_, Or.inl rfl, ?_, fun i => Or.inr rfl⟩
  · show (0 : Int) ≤ 0 ∧ (0 : Int) ≤ 30
    decide
  · show (0 : Int) ≤ 0 ∧ (0 : Int) ≤ 0 ∧ (0 : Int) ≤ 0 ∧ (0 : Int) ≤ 0 ∧ (0 : Int) ≤ 45
    decide
  · have d' : j < 0 := d
    omega
  · show (0 : Int) ≤ 0 ∧ (0 : Int) ≤ 100
    decide
theorem k0_S : cS k0 := by
  refine ⟨k0_b, fun j a b => ?_, fun e a b => ?_⟩
  · have b' : j < 0 := b
    omega
  · have b' : e < 0 := b
    omega
theorem jJ_first : jJ 0 k0 yI1 := by
  have hn : ∀ x, ¬ pr yI1 x := fun x q => by
    have a : x < 0 := q.2.1
    have b := q.1
    omega
  have hs : ∀ (lt : Int → Int → Prop) (l : Int → Int), jS lt (pr yI1) l 0 := fun lt l => ⟨Int.le_refl _, fun i a b => by omega, fun i j a b c => by omega, fun e q => absurd q (hn e)⟩
  have hi : ∀ x, ¬ jIl yI1 x := fun x ⟨i, a, b, _⟩ => by
    have b' : i < 0 := b
    omega
  refine ⟨⟨⟨rfl, ?_, fun i a b => ?_⟩, ⟨rfl, rfl, rfl, rfl, rfl⟩, ⟨rfl, fun j a b => ?_, fun c a b => ?_⟩, fun e a b => ?_, fun e a b => ⟨fun _ _ _ => rfl, rfl, rfl, fun j _ _ c => ?_, fun r a b => ?_⟩, ⟨hs _ _, fun i a b => ?_⟩, hs _ _, ⟨rfl, fun i a b => ?_, fun i j a b => ?_⟩, ⟨fun e q => absurd q (hn e), fun e o q => absurd q (hn e)⟩, fun j a b c => ?_⟩, ?_, ?_, fun i => Or.inl rfl, fun i => ?_, ?_, fun i => ?_, ?_, fun e q => absurd q (hi e)⟩
  · show (0 : Int) ≤ 0 ∧ (0 : Int) ≤ 100
    decide
  · have b' : i < 0 := b
    omega
  · show (if (0 : Int) = 0 then z_up (fun _ => (0 : Int)) 0 1 j else 0) = if j < 4 * (1 : Int) then (if j = 0 then (1 : Int) else 0) else 0
    rw [if_pos rfl]
    unfold z_up
    by_cases c : j = 0
    · rw [if_pos c, if_pos (by omega)]
    · rw [if_neg c]
      split <;> rfl
  · show (if (0 : Int) = 0 then z_up (fun _ => (0 : Int)) 0 1 c else 0) = if c < (1 : Int) then (if (if c = 0 then (1 : Int) else 0) = 1 then (1 : Int) else -1) else 0
    rw [if_pos rfl]
    unfold z_up
    by_cases d : c = 0
    · rw [if_pos d, if_pos (by omega), if_pos rfl]
    · rw [if_neg d, if_neg (by omega)]
  · have b' : e < 0 := b
    omega
  · have c' : j < 0 := c
    omega
  · have b' : r < 0 := b
    omega
  · have b' : i < 0 := b
    omega
  · have b' : i < 0 := b
    omega
  · have b' : i < 0 := b
    omega
  · have c' : j < 0 := c
    omega
  · refine mB_u (mB_u (mB_u (fun k i => ?_) (by omega)) (by omega)) (by omega)
    show -1000000 ≤ (if k = 3 then (-1 : Int) else if k = 26 then 2 else if k = 27 then 3 else 0) ∧ (if k = 3 then (-1 : Int) else if k = 26 then 2 else if k = 27 then 3 else 0) ≤ 1000000
    (repeat' split) <;> omega
  · refine ⟨fun i => ?_, fun i => ?_, ?_, ?_, fun i => Or.inl rfl, fun i => ?_, ?_, fun i => ?_, fun i => ?_, ?_, ?_, ?_, ?_, fun i => ?_, fun i => ?_⟩
    · show -3996 ≤ (if i = 0 then (1 : Int) else 0) ∧ (if i = 0 then (1 : Int) else 0) ≤ 3996
      split <;> omega
    · show (-100000 : Int) ≤ 0 ∧ (0 : Int) ≤ 100000
      decide
    · show (0 : Int) ≤ 0 ∧ (0 : Int) ≤ 30
      decide
    · show (1 : Int) ≤ 1 ∧ (1 : Int) ≤ 4
      decide
    · show (if i = 0 then (1 : Int) else 0) = 0 ∨ (if i = 0 then (1 : Int) else 0) = 1
      split <;> omega
    · show (0 : Int) ≤ 0 ∧ (0 : Int) ≤ 30
      decide
    · show (0 : Int) ≤ 0 ∧ (0 : Int) < 30
      decide
    · show (0 : Int) ≤ 0 ∧ (0 : Int) < 30
      decide
    · show (0 : Int) ≤ 0 ∧ (0 : Int) ≤ 200
      decide
    · show (0 : Int) ≤ 0 ∧ (0 : Int) ≤ 100
      decide
    · show (1 : Int) ≤ 2 ∧ (2 : Int) ≤ 5
      decide
    · show (1 : Int) ≤ 3 ∧ (3 : Int) ≤ 9
      decide
    · show (0 : Int) ≤ 0 ∧ (0 : Int) ≤ 255
      decide
    · show (0 : Int) ≤ 0 ∧ (0 : Int) ≤ 4
      decide
  · show (-100000 : Int) ≤ 0 ∧ (0 : Int) ≤ 100000
    decide
  · show (0 : Int) ≤ 0 ∧ (0 : Int) ≤ ((0 : Nat) : Int)
    decide
  · show (-3996 : Int) ≤ 0 ∧ (0 : Int) ≤ 3996
    decide
  · show (0 : Int) ≤ 0 ∧ (0 : Int) ≤ 100
    decide
/-- the law's walk -/
theorem w_all {Y : z_Y} {G : z_G} {b L : Nat} {xs : Nat → Int32} (hY : z_ok Y 838 mL_law) (hg : z_gg Y = G) (hN : z_NC G) (hM : z_MI G) (hX : z_Xs G b L xs) (hL : L ≤ 3072) (hφ : ∀ H, z_φ Y (some (z_i 1)) H) (hmc : z_mc Y = 400000) (hms : z_ms Y = 5000000) : z_W Y 0 [(0, .ref b)] [] (fun _ => none) 0 0 :=
  w_law (J := jJ) hY hg hX hL hφ hmc hms (fun _ _ _ h => h.mono) jJ_first ⟨k0_V, k0_S⟩ (fun q A o1 o2 t κ σ ht h => s_all (by rw [← hg]; exact z_okG hY) hN hM (by omega) h)
end ALL
