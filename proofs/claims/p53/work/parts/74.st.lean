/-! THE STANDING: counts over the row; ranks that count the results; twice the mean ranks added up. -/
section ST
theorem z_sm_flat {F : Int → Int} {a : Int} (ha : 0 ≤ a) : ∀ d : Int, 0 ≤ d → (∀ j, a ≤ j → j < a + d → F j = 0) → z_sm F (a + d) = z_sm F a := by
  refine jn_ind (P := fun d => (∀ j, a ≤ j → j < a + d → F j = 0) → z_sm F (a + d) = z_sm F a) (fun _ => by rw [Int.add_zero]) (fun d hd ih hz => ?_)
  rw [show a + (d + 1) = a + d + 1 by omega, z_smS (by omega), hz (a + d) (by omega) (by omega), ih (fun j h0 h1 => hz j h0 (by omega)), Int.add_zero]
theorem z_sm_c {P : Int → Prop} [DecidablePred P] {c : Int} : ∀ n : Int, 0 ≤ n → z_sm (fun e => if P e then c else 0) n = c * z_sm (fun e => if P e then (1 : Int) else 0) n := by
  refine jn_ind (by rw [z_sm0 (by omega), z_sm0 (by omega), Int.mul_zero]) (fun n hn ih => ?_)
  rw [z_smS hn, z_smS hn, ih, Int.mul_add]
  by_cases q : P n
  · rw [if_pos q, if_pos q, Int.mul_one]
  · rw [if_neg q, if_neg q, Int.mul_zero]
variable {t : Nat} {κ : c_K} {ρ : z_S}
theorem w_ea (h : jJ t κ ρ) {k : Int} (hk : 0 ≤ k ∧ k < my ρ) : ea ρ (k + 1) = κ 20 1 k ∧ pr ρ (ea ρ (k + 1)) ∧ pl ρ (ea ρ (k + 1)) = k + 1 := by
  have hV := h.V
  have e3 := h.1.xn1 hV
  have e1 := h.1.xea hV (p := k + 1) (by omega)
  rw [show k + 1 - 1 = k by omega] at e1
  rw [e1]
  exact ⟨rfl, h.1.xsp ⟨hk.1, by omega⟩, h.1.xpl1 hV ⟨hk.1, by omega⟩⟩
theorem w_cs (h : jJ t κ ρ) (Q : Int → Prop) [DecidablePred Q] : z_sm (fun j => if Q (ea ρ (j + 1)) then (1 : Int) else 0) (my ρ) = z_sm (fun e => if pr ρ e ∧ Q e then (1 : Int) else 0) (ρ 19 0) := by
  rw [← h.1.xcs h.V Q, h.1.xn1 h.V]
  exact z_sm_congr fun i h0 h1 => by rw [(w_ea h ⟨h0, h1⟩).1]
theorem w_bt (h : jJ t κ ρ) (e : Int) : z_sm (fun j => if 0 < cp ρ (ea ρ (j + 1)) e then (1 : Int) else 0) (my ρ) = bt ρ e := by
  rw [w_cs h (fun x => 0 < cp ρ x e), pr_ct (Q := fun x => 0 < cp ρ x e)]
  rfl
theorem w_al (h : jJ t κ ρ) (e : Int) : z_sm (fun j => if cp ρ (ea ρ (j + 1)) e = 0 then (1 : Int) else 0) (my ρ) = al ρ e := by
  rw [w_cs h (fun x => cp ρ x e = 0), pr_ct (Q := fun x => cp ρ x e = 0)]
  rfl
/-- of the row, no one behind is better -/
theorem w_nb (h : jJ t κ ρ) {i j : Int} (hi : 0 ≤ i) (hij : i ≤ j) (hj : j < κ 24 1 0) : ¬ g4 (mer ρ (κ 20 1 j)) (mer ρ (κ 20 1 i)) := by
  by_cases c : i = j
  · subst c
    exact g4_i _
  · rcases h.1.s.1.2.2.1 i j hi (by omega) hj with q | q
    · exact g4_s q
    · exact q.2
theorem w_bI (h : jJ t κ ρ) {a b : Int} (ha : pr ρ a) (hb : pr ρ b) : bI κ a b ≠ 0 ↔ g4 (mer ρ a) (mer ρ b) := bI_r (h.1.xmr ha) (h.1.xmr hb)
theorem w_gI (h : jJ t κ ρ) {k : Int} (hk : 0 ≤ k ∧ k < my ρ) : gI κ k ≠ 0 ↔ (k = 0 ∨ 0 < cp ρ (ea ρ k) (ea ρ (k + 1))) := by
  have hV := h.V
  have hn := h.1.xn1 hV
  by_cases c : k = 0
  · subst c
    exact ⟨fun _ => Or.inl rfl, fun _ => by unfold gI; rw [if_pos rfl]; decide⟩
  · have e1 := (w_ea h hk).1
    have e2 := (w_ea h (k := k - 1) (by omega)).1
    rw [show k - 1 + 1 = k by omega] at e2
    rw [e1, e2, (w_cp hV _ _).1]
    have h1 := w_nb h (i := k - 1) (j := k) (by omega) (by omega) (by omega)
    have h2 := aI_r (h.1.xmr (h.1.xsp (i := k) (by omega))) (h.1.xmr (h.1.xsp (i := k - 1) (by omega)))
    unfold gI
    rw [if_neg c]
    by_cases c2 : aI κ (κ 20 1 k) (κ 20 1 (k - 1)) ≠ 0
    · rw [if_pos c2]
      have h3 := (h2.mp c2).2
      exact ⟨fun q => absurd rfl q, fun q => absurd (q.resolve_left c) h3⟩
    · rw [if_neg c2]
      refine ⟨fun _ => Or.inr ?_, fun _ => by decide⟩
      by_cases c3 : g4 (mer ρ (κ 20 1 (k - 1))) (mer ρ (κ 20 1 k))
      · exact c3
      · exact absurd (h2.mpr ⟨h1, c3⟩) c2
theorem w_dn (h : jJ t κ ρ) {k : Int} (hk : 0 ≤ k ∧ k < my ρ) : cDn κ (ea ρ (k + 1)) = z_sm (fun j => if gI κ j ≠ 0 then (1 : Int) else 0) (k + 1) := by
  have hV := h.V
  have hn := h.1.xn1 hV
  have e1 := (w_ea h hk).1
  have hp := h.1.xsp (i := k) (by omega)
  unfold cDn
  rw [e1]
  obtain ⟨f1, f2, f3⟩ := jn_fw (P := fun i => bI κ (κ 20 1 i) (κ 20 1 k) ≠ 0) (n := κ 24 1 0) (by omega)
  generalize z_fw (fun i => bI κ (κ 20 1 i) (κ 20 1 k) ≠ 0) (κ 24 1 0) = f at f1 f2 f3 ⊢
  have hfk : f ≤ k := by
    by_cases c : k < f
    · exact absurd ((w_bI h hp hp).mp (f2 k hk.1 c)) (g4_i _)
    · omega
  have hf : ¬ g4 (mer ρ (κ 20 1 f)) (mer ρ (κ 20 1 k)) := fun q => f3 (by omega) ((w_bI h (h.1.xsp (i := f) (by omega)) hp).mpr q)
  have hz : ∀ j, f + 1 ≤ j → j < f + 1 + (k - f) → (if gI κ j ≠ 0 then (1 : Int) else 0) = 0 := fun j h0 h1 => by
    refine if_neg fun q => ?_
    have q1 := ((w_gI h (k := j) (by omega)).mp q).resolve_left (by omega)
    have e4 := (w_ea h (k := j - 1) (by omega)).1
    rw [show j - 1 + 1 = j by omega] at e4
    rw [(w_ea h (k := j) (by omega)).1, e4, (w_cp hV _ _).1] at q1
    rcases g4_n (b := mer ρ (κ 20 1 k)) q1 with q2 | q2
    · rcases g4_n (b := mer ρ (κ 20 1 f)) q2 with q3 | q3
      · exact w_nb h (i := f) (j := j - 1) (by omega) (by omega) (by omega) q3
      · exact hf q3
    · exact w_nb h (i := j) (j := k) (by omega) (by omega) (by omega) q2
  have hg : gI κ f ≠ 0 := (w_gI h (k := f) (by omega)).mpr (by
    by_cases c : f = 0
    · exact Or.inl c
    · refine Or.inr ?_
      have e4 := (w_ea h (k := f - 1) (by omega)).1
      rw [show f - 1 + 1 = f by omega] at e4
      rw [(w_ea h (k := f) (by omega)).1, e4, (w_cp hV _ _).1]
      have q1 := (w_bI h (h.1.xsp (i := f - 1) (by omega)) hp).mp (f2 (f - 1) (by omega) (by omega))
      exact (g4_n (b := mer ρ (κ 20 1 f)) q1).resolve_right hf)
  have e5 := z_sm_flat (F := fun j => if gI κ j ≠ 0 then (1 : Int) else 0) (a := f + 1) (by omega) (k - f) (by omega) hz
  rw [show f + 1 + (k - f) = k + 1 by omega] at e5
  rw [e5, z_smS (by omega), if_pos hg]
theorem w_rs (h : jJ t κ ρ) (hS : cS κ) : z_sm (fun i => 2 * sRk κ (κ 20 1 i) + cAl κ (κ 20 1 i) - 1) (κ 24 1 0) = my ρ * (my ρ + 1) := by
  have hV := h.V
  have hn0 := (mV_n hV).1
  have hc := mV_c hV
  rw [h.1.xrSm hV hS, ← pr_sm]
  have e1 : ∀ e, 0 ≤ e → e < ρ 19 0 → (if pr ρ e then tm ρ e else 0) = z_sm (fun o => ((if pr ρ e ∧ (pr ρ o ∧ g4 (mer ρ o) (mer ρ e)) then (1 : Int) else 0) + (if pr ρ e ∧ (pr ρ o ∧ g4 (mer ρ o) (mer ρ e)) then (1 : Int) else 0)) + (if pr ρ e ∧ (pr ρ o ∧ (¬ g4 (mer ρ o) (mer ρ e) ∧ ¬ g4 (mer ρ e) (mer ρ o))) then (1 : Int) else 0)) (ρ 19 0) + (if pr ρ e then 1 else 0) := by
    intro e _ _
    by_cases c : pr ρ e
    · rw [if_pos c, if_pos c, jn_add hn0, jn_add hn0]
      have b1 : z_sm (fun o => if pr ρ e ∧ (pr ρ o ∧ g4 (mer ρ o) (mer ρ e)) then (1 : Int) else 0) (ρ 19 0) = bt ρ e := by
        rw [bt_h hc e]
        exact jn_ct fun i _ _ => ⟨fun q => q.2, fun q => ⟨c, q⟩⟩
      have b2 : z_sm (fun o => if pr ρ e ∧ (pr ρ o ∧ (¬ g4 (mer ρ o) (mer ρ e) ∧ ¬ g4 (mer ρ e) (mer ρ o))) then (1 : Int) else 0) (ρ 19 0) = al ρ e := by
        rw [al_h hc e]
        exact jn_ct fun i _ _ => ⟨fun q => q.2, fun q => ⟨c, q⟩⟩
      rw [b1, b2]
      unfold tm
      omega
    · rw [if_neg c, if_neg c, z_sm_zero fun j _ _ => by rw [if_neg (fun q => c q.1), if_neg (fun q => c q.1)]; rfl]
      rfl
  rw [z_sm_congr e1, jn_add hn0, ← my_h ρ]
  have e2 : z_sm (fun e => z_sm (fun o => ((if pr ρ e ∧ (pr ρ o ∧ g4 (mer ρ o) (mer ρ e)) then (1 : Int) else 0) + (if pr ρ e ∧ (pr ρ o ∧ g4 (mer ρ o) (mer ρ e)) then (1 : Int) else 0)) + (if pr ρ e ∧ (pr ρ o ∧ (¬ g4 (mer ρ o) (mer ρ e) ∧ ¬ g4 (mer ρ e) (mer ρ o))) then (1 : Int) else 0)) (ρ 19 0)) (ρ 19 0) = z_sm (fun e => z_sm (fun o => ((if pr ρ e ∧ (pr ρ o ∧ g4 (mer ρ o) (mer ρ e)) then (1 : Int) else 0) + (if pr ρ o ∧ (pr ρ e ∧ g4 (mer ρ e) (mer ρ o)) then (1 : Int) else 0)) + (if pr ρ e ∧ (pr ρ o ∧ (¬ g4 (mer ρ o) (mer ρ e) ∧ ¬ g4 (mer ρ e) (mer ρ o))) then (1 : Int) else 0)) (ρ 19 0)) (ρ 19 0) := by
    have a1 : ∀ (F K N : Int → Int → Int), z_sm (fun e => z_sm (fun o => (F e o + K e o) + N e o) (ρ 19 0)) (ρ 19 0) = z_sm (fun e => z_sm (fun o => F e o) (ρ 19 0)) (ρ 19 0) + z_sm (fun e => z_sm (fun o => K e o) (ρ 19 0)) (ρ 19 0) + z_sm (fun e => z_sm (fun o => N e o) (ρ 19 0)) (ρ 19 0) := fun F K N => by
      rw [← jn_add hn0, ← jn_add hn0]
      exact z_sm_congr fun e _ _ => by rw [jn_add hn0, jn_add hn0]
    rw [a1, a1]
    have a2 := jn_swap (f := fun e o => if pr ρ e ∧ (pr ρ o ∧ g4 (mer ρ o) (mer ρ e)) then (1 : Int) else 0) hn0 hn0
    rw [← a2]
  have e3 : ∀ e, 0 ≤ e → e < ρ 19 0 → z_sm (fun o => ((if pr ρ e ∧ (pr ρ o ∧ g4 (mer ρ o) (mer ρ e)) then (1 : Int) else 0) + (if pr ρ o ∧ (pr ρ e ∧ g4 (mer ρ e) (mer ρ o)) then (1 : Int) else 0)) + (if pr ρ e ∧ (pr ρ o ∧ (¬ g4 (mer ρ o) (mer ρ e) ∧ ¬ g4 (mer ρ e) (mer ρ o))) then (1 : Int) else 0)) (ρ 19 0) = (if pr ρ e then my ρ else 0) := by
    intro e _ _
    by_cases c : pr ρ e
    · rw [if_pos c, my_h ρ]
      refine z_sm_congr fun o _ _ => ?_
      by_cases c2 : pr ρ o
      · by_cases c3 : g4 (mer ρ o) (mer ρ e)
        · rw [if_pos ⟨c, c2, c3⟩, if_neg (fun q => g4_s c3 q.2.2), if_neg (fun q => q.2.2.1 c3), if_pos c2]
          rfl
        · by_cases c4 : g4 (mer ρ e) (mer ρ o)
          · rw [if_neg (fun q => c3 q.2.2), if_pos ⟨c2, c, c4⟩, if_neg (fun q => q.2.2.2 c4), if_pos c2]
            rfl
          · rw [if_neg (fun q => c3 q.2.2), if_neg (fun q => c4 q.2.2), if_pos ⟨c, c2, c3, c4⟩, if_pos c2]
            rfl
      · rw [if_neg (fun q => c2 q.2.1), if_neg (fun q => c2 q.1), if_neg (fun q => c2 q.2.1), if_neg c2]
        rfl
    · rw [if_neg c]
      exact z_sm_zero fun o _ _ => by
        rw [if_neg (fun q => c q.1), if_neg (fun q => c q.2.1), if_neg (fun q => c q.1)]
        rfl
  rw [e2, z_sm_congr e3, z_sm_c _ hn0, ← my_h ρ, Int.mul_add, Int.mul_one]
end ST
