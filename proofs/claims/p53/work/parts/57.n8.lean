/-! TRIALS: what an entrant would gain, what it needs. -/
section N8
variable {κ κ' : c_K} {σ ρ : z_S}
/-- judging gives the merits -/
theorem jud (hO : jRo κ σ) (h12 : κ' 12 = κ 12) (h8 : ρ 8 = σ 8) (h10 : ρ 10 = σ 10) (hc : ρ 12 = σ 12) {i e c : Int} (hs : ∀ j, 0 ≤ j → j < 4 → κ' 30 i j = ρ 14 (4 * e + j)) (hcc : 0 ≤ c ∧ c < 4) : κ 14 (κ 17 0 0) c * cVl κ' (κ 17 0 0) i c = mer ρ e c := by
  rw [hO.2.2 c hcc.1 hcc.2]
  unfold mer
  rw [hc, h10]
  by_cases c1 : c < σ 12 0
  · rw [if_pos c1, if_pos c1]
    have k : ∀ j, 0 ≤ j → j < 4 → κ' 12 (κ 17 0 0) (4 * c + j) = ρ 8 (4 * c + j) := fun j a b => by
      rw [h12, h8, hO.2.1 (4 * c + j) (by omega) (by omega), if_pos (by omega)]
    have e0 := hs 0 (by omega) (by omega); have e1 := hs 1 (by omega) (by omega); have e2 := hs 2 (by omega) (by omega); have e3 := hs 3 (by omega) (by omega)
    have f0 := k 0 (by omega) (by omega); have f1 := k 1 (by omega) (by omega); have f2 := k 2 (by omega) (by omega); have f3 := k 3 (by omega) (by omega)
    rw [Int.add_zero] at e0 f0
    have ev : cVl κ' (κ 17 0 0) i c = vl ρ e c := by
      unfold cVl vl
      rw [e0, e1, e2, e3, f0, f1, f2, f3]
    rw [ev]
    by_cases c2 : σ 10 c = 1
    · rw [if_pos c2, if_pos c2, Int.one_mul]
    · rw [if_neg c2, if_neg c2, Int.neg_mul, Int.one_mul]
  · rw [if_neg c1, if_neg c1, Int.zero_mul]
theorem jR.aCrit (h : jR κ σ) {e c : Int} (he : pr σ e) (hc : 0 ≤ c ∧ c < σ 12 0 ∧ σ 12 0 ≤ 4) : cVl κ (κ 17 0 0) e c = vl σ e c := by
  have k : ∀ j, 0 ≤ j → j < 4 → κ 12 (κ 17 0 0) (4 * c + j) = σ 8 (4 * c + j) := fun j a b => by
    rw [h.o.2.1 (4 * c + j) (by omega) (by omega), if_pos (by omega)]
  have hs := (h.e (pr_b he)).1
  have e0 := hs 0 (by omega) (by omega); have e1 := hs 1 (by omega) (by omega); have e2 := hs 2 (by omega) (by omega); have e3 := hs 3 (by omega) (by omega)
  have f0 := k 0 (by omega) (by omega); have f1 := k 1 (by omega) (by omega); have f2 := k 2 (by omega) (by omega); have f3 := k 3 (by omega) (by omega)
  rw [Int.add_zero] at e0 f0
  unfold cVl vl
  rw [e0, e1, e2, e3, f0, f1, f2, f3]
/-- another score: the merits of others stay -/
theorem mer_u {e k v o c : Int} (hk : 0 ≤ k ∧ k < 4) (ho : o ≠ e) : mer (z_u σ 14 (4 * e + k) v) o c = mer σ o c := by
  have e1 : vl (z_u σ 14 (4 * e + k) v) o c = vl σ o c := by
    unfold vl
    rw [z_u_ne (k := 14) (k' := 8) (by decide), z_u_at' (by omega), z_u_at' (by omega), z_u_at' (by omega), z_u_at' (by omega)]
  unfold mer
  rw [e1]
  rfl
/-- the trial bears the merits of the changed scores -/
theorem jR.tm (h : jR κ σ) {e k v : Int} (he : pr σ e) (hk : 0 ≤ k ∧ k ≤ 3) : mrt (kTr κ e k v) (z_u σ 14 (4 * e + k) v) (-1) e := fun c h0 h1 => by
  rw [kTr_31]
  show (if 0 ≤ c ∧ c < 4 then κ 14 (κ 17 0 0) c * cVl (kT2 κ e k v) (κ 17 0 0) (-1) c else κ 31 (-1) c) = _
  rw [if_pos ⟨h0, h1⟩]
  refine jud h.o (by unfold kT2 kT1; rw [k_u_ne (by decide), k_r_ne (by decide), k_u_ne (by decide)]) (z_u_ne (by decide)) (z_u_ne (by decide)) (z_u_ne (by decide)) (fun j j0 j1 => ?_) ⟨h0, h1⟩
  have hs := (h.e (pr_b he)).1 j j0 j1
  have e1 : kT2 κ e k v 30 (-1) j = if j = k then v else κ 30 e j := by
    unfold kT2
    rw [k_u_eq]
    unfold z_up
    by_cases c2 : j = k
    · rw [if_pos c2, if_pos c2]
    · rw [if_neg c2, if_neg c2]
      unfold kT1
      rw [k_r_eq, if_pos ⟨j0, j1⟩]
  rw [e1, hs]
  by_cases c2 : j = k
  · rw [if_pos c2, c2, z_u_at]
  · rw [if_neg c2, z_u_at' (by omega)]
theorem jR.om (h : jR κ σ) {e k v o : Int} (ho : pr σ o) (hk : 0 ≤ k ∧ k ≤ 3) (hne : o ≠ e) : mrt (kTr κ e k v) (z_u σ 14 (4 * e + k) v) o o := fun c h0 h1 => by
  have := ho.1
  rw [kTr_ne (Or.inr (by omega)), h.xmr ho c h0 h1, mer_u (by omega) hne]
theorem jR.aPw (h : jR κ σ) (hV : mV σ) (hS : cS κ) {e k v : Int} (he : pr σ e) (hk : 0 ≤ k ∧ k ≤ 3) : cPw κ e k v = pl (z_u σ 14 (4 * e + k) v) e := by
  have e34 : kTr κ e k v 34 (-1) 0 = e := by rw [kTr_34]; exact (if_pos rfl).trans (jR.xn34 hS h he)
  rw [pl_h (σ := z_u σ 14 (4 * e + k) v) (show 1 ≤ σ 12 0 ∧ σ 12 0 ≤ 4 from mV_c hV) (show 0 ≤ e ∧ e < σ 19 0 from pr_b he)]
  unfold cPw cAh
  rw [kTr_ne (q := 24) (Or.inl (by decide)), kTr_ne (q := 20) (Or.inl (by decide)), e34, h.xcs hV (fun x => kTr κ e k v 34 x 0 ≠ e ∧ hI (kTr κ e k v) x (-1) ≠ 0)]
  congr 1
  refine jn_ct (P := fun o => pr σ o ∧ kTr κ e k v 34 o 0 ≠ e ∧ hI (kTr κ e k v) o (-1) ≠ 0) (Q := fun o => pr (z_u σ 14 (4 * e + k) v) o ∧ hh (z_u σ 14 (4 * e + k) v) o e) fun o _ _ => ?_
  show _ ↔ (pr σ o ∧ _)
  refine and_congr_right fun ho => ?_
  have o34 : kTr κ e k v 34 o 0 = o := by rw [kTr_ne (Or.inr (by have := ho.1; omega)), jR.xn34 hS h ho]
  rw [o34]
  constructor
  · rintro ⟨a, b⟩
    exact (hI_r (h.om ho hk a) (h.tm he hk) ⟨o34, e34⟩).mp b
  · intro b
    have hne : o ≠ e := fun q => (hh_o _).1 e (q ▸ b)
    exact ⟨hne, (hI_r (h.om ho hk hne) (h.tm he hk) ⟨o34, e34⟩).mpr b⟩
theorem jR.aRw (h : jR κ σ) (hV : mV σ) (hS : cS κ) {e m : Int} (he : pr σ e) : cRw κ e m = bt (z_u σ 14 (4 * e) (σ 14 (4 * e) + m)) e + 1 := by
  have ep := h.xpts (pr_b he)
  have e34 : kTr κ e 0 (κ 30 e 0 + m) 34 (-1) 0 = e := by rw [kTr_34]; exact (if_pos rfl).trans (jR.xn34 hS h he)
  have es : z_u σ 14 (4 * e) (σ 14 (4 * e) + m) = z_u σ 14 (4 * e + 0) (κ 30 e 0 + m) := by rw [ep, Int.add_zero]
  rw [es, bt_h (σ := z_u σ 14 (4 * e + 0) (κ 30 e 0 + m)) (show 1 ≤ σ 12 0 ∧ σ 12 0 ≤ 4 from mV_c hV)]
  unfold cRw sRk
  rw [kTr_ne (q := 24) (Or.inl (by decide)), kTr_ne (q := 20) (Or.inl (by decide)), e34, h.xcs hV (fun x => kTr κ e 0 (κ 30 e 0 + m) 34 x 0 ≠ e ∧ bI (kTr κ e 0 (κ 30 e 0 + m)) x (-1) ≠ 0)]
  congr 1
  refine jn_ct (P := fun o => pr σ o ∧ kTr κ e 0 (κ 30 e 0 + m) 34 o 0 ≠ e ∧ bI (kTr κ e 0 (κ 30 e 0 + m)) o (-1) ≠ 0) (Q := fun o => pr (z_u σ 14 (4 * e + 0) (κ 30 e 0 + m)) o ∧ g4 (mer (z_u σ 14 (4 * e + 0) (κ 30 e 0 + m)) o) (mer (z_u σ 14 (4 * e + 0) (κ 30 e 0 + m)) e)) fun o _ _ => ?_
  show _ ↔ (pr σ o ∧ _)
  refine and_congr_right fun ho => ?_
  have o34 : kTr κ e 0 (κ 30 e 0 + m) 34 o 0 = o := by rw [kTr_ne (Or.inr (by have := ho.1; omega)), jR.xn34 hS h ho]
  rw [o34]
  constructor
  · rintro ⟨a, b⟩
    exact (bI_r (h.om ho (by omega) a) (h.tm he (by omega))).mp b
  · intro b
    have hne : o ≠ e := fun q => g4_i _ (q ▸ b)
    exact ⟨hne, (bI_r (h.om ho (by omega) hne) (h.tm he (by omega))).mpr b⟩
theorem jR.aWl (h : jR κ σ) (hV : mV σ) (hS : cS κ) : cWl κ = 0 := z_sm_zero fun e h0 h1 => if_neg fun q => q.2 (by
  have he : pr σ e := (h.xpr e).mp ⟨h0, h1, q.1⟩
  rw [h.aPw hV hS he (by omega), h.xpts (pr_b he), Int.add_zero, z_u_same rfl]
  exact (h.xpl hV he).1.symm)
theorem jn_le {f g : Int → Int} (h : ∀ i, f i ≤ g i) : ∀ n : Int, 0 ≤ n → z_sm f n ≤ z_sm g n := by
  refine jn_ind ?_ ?_
  · rw [z_sm0 (by omega), z_sm0 (by omega)]; omega
  · intro n h0 ih
    rw [z_smS h0, z_smS h0]; have := h n; omega
theorem jn_cl {P Q : Int → Prop} [DecidablePred P] [DecidablePred Q] {n : Int} (hn : 0 ≤ n) (h : ∀ i, P i → Q i) : z_sm (fun i => if P i then (1 : Int) else 0) n ≤ z_sm (fun i => if Q i then (1 : Int) else 0) n := jn_le (fun i => by
  show (if P i then (1 : Int) else 0) ≤ if Q i then (1 : Int) else 0
  by_cases c : P i
  · rw [if_pos c, if_pos (h i c)]; omega
  · rw [if_neg c]; split <;> omega) n hn
/-- how a merit grows with the points -/
def mb (σ : z_S) (c : Int) : Int := if c < σ 12 0 then (if σ 10 c = 1 then σ 8 (4 * c) else -(σ 8 (4 * c))) else 0
theorem mer_m (e m c : Int) : mer (z_u σ 14 (4 * e) (σ 14 (4 * e) + m)) e c = mer σ e c + mb σ c * m := by
  have e1 : vl (z_u σ 14 (4 * e) (σ 14 (4 * e) + m)) e c = vl σ e c + σ 8 (4 * c) * m := by
    unfold vl
    rw [z_u_ne (k := 14) (k' := 8) (by decide), z_u_at, z_u_at' (by omega), z_u_at' (by omega), z_u_at' (by omega), Int.mul_add]
    omega
  have e2 : mer (z_u σ 14 (4 * e) (σ 14 (4 * e) + m)) e c = if c < σ 12 0 then (if σ 10 c = 1 then vl σ e c + σ 8 (4 * c) * m else -(vl σ e c + σ 8 (4 * c) * m)) else 0 := by
    unfold mer
    rw [e1]
    rfl
  rw [e2]
  unfold mer mb
  by_cases c1 : c < σ 12 0
  · rw [if_pos c1, if_pos c1, if_pos c1]
    by_cases c2 : σ 10 c = 1
    · rw [if_pos c2, if_pos c2, if_pos c2]
    · rw [if_neg c2, if_neg c2, if_neg c2, Int.neg_mul]; omega
  · rw [if_neg c1, if_neg c1, if_neg c1, Int.zero_mul]; rfl
theorem g4_m {a b : Int → Int} {m n : Int} (h : m < n) : (g4 b (fun _ => 0) → g4 (fun c => a c + b c * n) (fun c => a c + b c * m)) ∧ (¬ g4 b (fun _ => 0) → ¬ g4 (fun c => a c + b c * n) (fun c => a c + b c * m)) := by
  have k : ∀ c, (0 < b c → b c * m < b c * n) ∧ (b c = 0 → b c * m = b c * n) ∧ (b c < 0 → b c * n < b c * m) := fun c =>
    ⟨fun q => Int.mul_lt_mul_of_pos_left h q, fun q => by rw [q, Int.zero_mul, Int.zero_mul], fun q => by
      have := Int.mul_lt_mul_of_pos_left h (show 0 < -(b c) by omega)
      rw [Int.neg_mul, Int.neg_mul] at this
      omega⟩
  have k0 := k 0; have k1 := k 1; have k2 := k 2; have k3 := k 3
  unfold g4
  constructor
  · intro q
    have q' : 0 < b 0 ∨ (b 0 = 0 ∧ (0 < b 1 ∨ (b 1 = 0 ∧ (0 < b 2 ∨ (b 2 = 0 ∧ 0 < b 3))))) := q
    show (a 0 + b 0 * m < a 0 + b 0 * n) ∨ ((a 0 + b 0 * n = a 0 + b 0 * m) ∧ ((a 1 + b 1 * m < a 1 + b 1 * n) ∨ ((a 1 + b 1 * n = a 1 + b 1 * m) ∧ ((a 2 + b 2 * m < a 2 + b 2 * n) ∨ ((a 2 + b 2 * n = a 2 + b 2 * m) ∧ (a 3 + b 3 * m < a 3 + b 3 * n))))))
    rcases q' with q | ⟨q0, q | ⟨q1, q | ⟨q2, q⟩⟩⟩ <;> omega
  · intro q r
    have q' : ¬ (0 < b 0 ∨ (b 0 = 0 ∧ (0 < b 1 ∨ (b 1 = 0 ∧ (0 < b 2 ∨ (b 2 = 0 ∧ 0 < b 3)))))) := q
    have r' : (a 0 + b 0 * m < a 0 + b 0 * n) ∨ ((a 0 + b 0 * n = a 0 + b 0 * m) ∧ ((a 1 + b 1 * m < a 1 + b 1 * n) ∨ ((a 1 + b 1 * n = a 1 + b 1 * m) ∧ ((a 2 + b 2 * m < a 2 + b 2 * n) ∨ ((a 2 + b 2 * n = a 2 + b 2 * m) ∧ (a 3 + b 3 * m < a 3 + b 3 * n)))))) := r
    have t0 : b 0 < 0 ∨ b 0 = 0 ∨ 0 < b 0 := by omega
    have t1 : b 1 < 0 ∨ b 1 = 0 ∨ 0 < b 1 := by omega
    have t2 : b 2 < 0 ∨ b 2 = 0 ∨ 0 < b 2 := by omega
    have t3 : b 3 < 0 ∨ b 3 = 0 ∨ 0 < b 3 := by omega
    rcases t0 with t0 | t0 | t0
    · have := k0.2.2 t0; omega
    · have z0 := k0.2.1 t0
      rcases t1 with t1 | t1 | t1
      · have := k1.2.2 t1; omega
      · have z1 := k1.2.1 t1
        rcases t2 with t2 | t2 | t2
        · have := k2.2.2 t2; omega
        · have z2 := k2.2.1 t2
          rcases t3 with t3 | t3 | t3
          · have := k3.2.2 t3; omega
          · have z3 := k3.2.1 t3; omega
          · exact q' (by omega)
        · exact q' (by omega)
      · exact q' (by omega)
    · exact q' (by omega)
/-- how many are better when the points grow -/
abbrev jf (σ : z_S) (e m : Int) : Int := bt (z_u σ 14 (4 * e) (σ 14 (4 * e) + m)) e
theorem jf_h (hV : mV σ) (e m : Int) : jf σ e m = z_sm (fun o => if pr σ o ∧ o ≠ e ∧ g4 (mer σ o) (fun c => mer σ e c + mb σ c * m) then (1 : Int) else 0) (σ 19 0) := by
  unfold jf
  rw [bt_h (σ := z_u σ 14 (4 * e) (σ 14 (4 * e) + m)) (show 1 ≤ σ 12 0 ∧ σ 12 0 ≤ 4 from mV_c hV)]
  refine jn_ct (P := fun o => pr (z_u σ 14 (4 * e) (σ 14 (4 * e) + m)) o ∧ g4 (mer (z_u σ 14 (4 * e) (σ 14 (4 * e) + m)) o) (mer (z_u σ 14 (4 * e) (σ 14 (4 * e) + m)) e)) fun o _ _ => ?_
  show (pr σ o ∧ _) ↔ _
  refine and_congr_right fun _ => ?_
  have e1 : mer (z_u σ 14 (4 * e) (σ 14 (4 * e) + m)) e = fun c => mer σ e c + mb σ c * m := funext fun c => mer_m e m c
  have e2 : o ≠ e → mer (z_u σ 14 (4 * e) (σ 14 (4 * e) + m)) o = mer σ o := fun hne => funext fun c => by
    have := mer_u (σ := σ) (e := e) (k := 0) (v := σ 14 (4 * e) + m) (c := c) (by omega) hne
    rw [Int.add_zero] at this
    exact this
  constructor
  · intro b
    have hne : o ≠ e := fun q => g4_i _ (q ▸ b)
    rw [e1, e2 hne] at b
    exact ⟨hne, b⟩
  · rintro ⟨hne, b⟩
    rw [e1, e2 hne]
    exact b
theorem jf_m (hV : mV σ) (e : Int) : (∀ m n, m ≤ n → jf σ e n ≤ jf σ e m) ∨ (∀ m n, m ≤ n → jf σ e m ≤ jf σ e n) := by
  have hn := (mV_n hV).1
  by_cases c : g4 (mb σ) (fun _ => 0)
  · refine Or.inl fun m n h => ?_
    by_cases e0 : m = n
    · rw [e0]; omega
    · rw [jf_h hV, jf_h hV]
      exact jn_cl hn fun o q => ⟨q.1, q.2.1, g4_t q.2.2 ((g4_m (by omega)).1 c)⟩
  · refine Or.inr fun m n h => ?_
    by_cases e0 : m = n
    · rw [e0]; omega
    · rw [jf_h hV, jf_h hV]
      refine jn_cl hn fun o q => ⟨q.1, q.2.1, ?_⟩
      rcases g4_n (b := fun c => mer σ e c + mb σ c * n) q.2.2 with r | r
      · exact r
      · exact absurd r ((g4_m (by omega)).2 c)
theorem hv_s {e q : Int} {f : Int → Int} (hf : ∀ m, cRw κ e m = f m + 1) : ∀ (k : Nat) (lo hi : Int), lo < hi → hi - lo ≤ 2 ^ k → ¬ f lo < q → f hi < q → (lo < hvL κ e q k lo hi ∧ hvL κ e q k lo hi ≤ hi) ∧ f (hvL κ e q k lo hi) < q ∧ ¬ f (hvL κ e q k lo hi - 1) < q := by
  intro k
  induction k with
  | zero =>
    intro lo hi h1 h2 h3 h4
    rw [hvL]
    have : hi - 1 = lo := by
      have : (2 : Int) ^ 0 = 1 := rfl
      omega
    exact ⟨by omega, h4, by rw [this]; exact h3⟩
  | succ k ih =>
    intro lo hi h1 h2 h3 h4
    have hp : (2 : Int) ^ (k + 1) = 2 * 2 ^ k := by rw [Int.pow_succ]; omega
    rw [hvL]
    by_cases c : 1 < hi - lo
    · rw [if_pos c, hf]
      by_cases c2 : f (lo + (hi - lo) / 2) + 1 ≤ q
      · rw [if_pos c2]
        obtain ⟨a, b, d⟩ := ih lo (lo + (hi - lo) / 2) (by omega) (by omega) h3 (by omega)
        exact ⟨by omega, b, d⟩
      · rw [if_neg c2]
        obtain ⟨a, b, d⟩ := ih (lo + (hi - lo) / 2) hi (by omega) (by omega) (by omega) h4
        exact ⟨by omega, b, d⟩
    · rw [if_neg c]
      have : hi - 1 = lo := by omega
      exact ⟨by omega, h4, by rw [this]; exact h3⟩
theorem jR.aNeeded (h : jR κ σ) (hV : mV σ) (hS : cS κ) {e q : Int} (he : pr σ e) : cNd κ e q = z_ff (fun m => bt (z_u σ 14 (4 * e) (σ 14 (4 * e) + m)) e < q) (min 1001 (100001 - σ 14 (4 * e))) := by
  have hf : ∀ m, cRw κ e m = jf σ e m + 1 := fun m => h.aRw hV hS he
  have hp := h.xpts (pr_b he)
  have hb := hS.s30 e 0
  have hh1 : min 1001 (100001 - σ 14 (4 * e)) = cHi κ e + 1 := by
    unfold cHi
    rw [hp]
    split <;> omega
  have hh0 : 0 ≤ cHi κ e ∧ cHi κ e ≤ 1000 := by unfold cHi; split <;> omega
  have h1024 : (2 : Int) ^ ((10 : Int) - 0).toNat = 1024 := by decide
  unfold cNd
  rw [hf, hf, hh1]
  generalize cHi κ e = H at hh0 ⊢
  have hm := jf_m hV e
  by_cases c0 : jf σ e 0 + 1 ≤ q
  · rw [if_pos c0]
    exact (jn_ff (P := fun m => jf σ e m < q) (a := 0) (n := H + 1) ⟨by omega, by omega⟩ (show jf σ e 0 < q by omega) (fun j a b => by omega)).symm
  · rw [if_neg c0]
    by_cases c1 : q < jf σ e H + 1
    · rw [if_pos c1]
      refine (jn_ffn fun j a b d => ?_).symm
      have d' : jf σ e j < q := d
      rcases hm with hm | hm
      · have := hm j H (by omega); omega
      · have := hm 0 j (by omega); omega
    · rw [if_neg c1]
      have hH : 0 < H := by
        by_cases cH : H = 0
        · subst cH; omega
        · omega
      obtain ⟨a, b, d⟩ := hv_s (e := e) (q := q) (f := jf σ e) hf ((10 : Int) - 0).toNat 0 H hH (by rw [h1024]; omega) (by omega) (by omega)
      generalize hvL κ e q ((10 : Int) - 0).toNat 0 H = w at a b d ⊢
      rcases hm with hm | hm
      · refine (jn_ff (P := fun m => jf σ e m < q) (a := w) (n := H + 1) ⟨by omega, by omega⟩ b (fun j j0 j1 j2 => ?_)).symm
        have j2' : jf σ e j < q := j2
        have := hm j (w - 1) (by omega)
        omega
      · have := hm 0 H (by omega)
        omega
end N8
