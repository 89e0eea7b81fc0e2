/-! A SCORE CHANGES; one comes. -/
section SCO
variable {t : Nat} {κ K : c_K} {σ : z_S}
theorem jR_score (h : jR κ σ) (hS : cS κ) {e k v N : Int} (he : pr σ e) (hk : 0 ≤ k ∧ k ≤ 3) {r20 r16 : Int → Int}
    (k1 : ∀ m, m ≠ 20 → m ≠ 24 → m ≠ 25 → m ≠ 26 → m ≠ 30 → m ≠ 37 → m ≠ 38 → K m = κ m)
    (k30 : K 30 e = z_up (κ 30 e) k v) (k30x : ∀ x, x ≠ e → K 30 x = κ 30 x) (k38 : K 38 e 0 = z_up (σ 14) (4 * e + k) v (4 * e) - σ 17 e) (k38x : ∀ x, x ≠ e → K 38 x = κ 38 x)
    (k37 : ∀ x, ¬ pr σ x → K 37 x 0 = κ 37 x 0) (k24 : K 24 0 = κ 24 0) (k3 : K 20 3 = κ 20 3 ∧ K 24 3 = κ 24 3)
    (ks : jS (hh σ) (fun x => pr σ x ∧ x ≠ e) (K 20 1) (K 24 1 0)) (kp : jS (pp (z_ur (z_ur (z_ur σ 14 (z_up (σ 14) (4 * e + k) v)) 20 r20) 16 r16)) (pr σ) (K 20 2) (K 24 2 0))
    (hm : jRm (z_ur (z_ur (z_ur σ 14 (z_up (σ 14) (4 * e + k) v)) 20 r20) 16 r16)) : jR (kSp (kJd K (K 17 0 0) e) e N) (z_ur (z_ur (z_ur σ 14 (z_up (σ 14) (4 * e + k) v)) 20 r20) 16 r16) := by
  have hne : ∀ x j : Int, x ≠ e → 0 ≤ j → j < 4 → z_up (σ 14) (4 * e + k) v (4 * x + j) = σ 14 (4 * x + j) := fun x j a b c => if_neg (by omega)
  have hne0 : ∀ x : Int, x ≠ e → z_up (σ 14) (4 * e + k) v (4 * x) = σ 14 (4 * x) := fun x a => if_neg (by omega)
  have hmer : ∀ x, x ≠ e → mer (z_ur (z_ur (z_ur σ 14 (z_up (σ 14) (4 * e + k) v)) 20 r20) 16 r16) x = mer σ x := fun x a => by
    funext c
    exact mer_u (σ := σ) (v := v) (c := c) ⟨hk.1, by omega⟩ a
  have hO : jRo K (z_ur (z_ur (z_ur σ 14 (z_up (σ 14) (4 * e + k) v)) 20 r20) 16 r16) := by
    unfold jRo
    rw [k1 16 (by decide) (by decide) (by decide) (by decide) (by decide) (by decide) (by decide), k1 17 (by decide) (by decide) (by decide) (by decide) (by decide) (by decide) (by decide), k1 12 (by decide) (by decide) (by decide) (by decide) (by decide) (by decide) (by decide), k1 14 (by decide) (by decide) (by decide) (by decide) (by decide) (by decide) (by decide)]
    exact h.o
  have h30e : ∀ j, 0 ≤ j → j < 4 → K 30 e j = z_up (σ 14) (4 * e + k) v (4 * e + j) := fun j a b => by
    rw [k30]
    by_cases c : j = k
    · rw [show z_up (κ 30 e) k v j = v from if_pos c, show z_up (σ 14) (4 * e + k) v (4 * e + j) = v from if_pos (by omega)]
    · rw [show z_up (κ 30 e) k v j = κ 30 e j from if_neg c, show z_up (σ 14) (4 * e + k) v (4 * e + j) = σ 14 (4 * e + j) from if_neg (by omega)]
      exact (h.e (pr_b he)).1 j a b
  have hmre : mrt (kJd K (K 17 0 0) e) (z_ur (z_ur (z_ur σ 14 (z_up (σ 14) (4 * e + k) v)) 20 r20) 16 r16) e e := jud1 hO rfl h30e
  have hmrx : ∀ x, pr σ x → x ≠ e → mrt (kJd K (K 17 0 0) e) (z_ur (z_ur (z_ur σ 14 (z_up (σ 14) (4 * e + k) v)) 20 r20) 16 r16) x x := fun x hx hxe c a b => by
    rw [kJd_ni hxe, k1 31 (by decide) (by decide) (by decide) (by decide) (by decide) (by decide) (by decide), hmer x hxe]
    exact h.xmr hx c a b
  have e34 : kJd K (K 17 0 0) e 34 = κ 34 := by rw [kJd_ne (by decide), k1 34 (by decide) (by decide) (by decide) (by decide) (by decide) (by decide) (by decide)]
  have hS1 : jS (hh (z_ur (z_ur (z_ur σ 14 (z_up (σ 14) (4 * e + k) v)) 20 r20) 16 r16)) (fun x => pr σ x ∧ x ≠ e) (kJd K (K 17 0 0) e 20 1) (kJd K (K 17 0 0) e 24 1 0) := by
    rw [kJd_ne (k := 20) (by decide), kJd_ne (k := 24) (by decide)]
    refine jS_cg ks rfl (fun _ _ _ => rfl) (fun _ => Iff.rfl) (fun a b ha hb q => ?_)
    unfold hh at q ⊢
    rw [hmer a ha.2, hmer b hb.2]
    exact q
  have hP : ∀ x, pr (z_ur (z_ur (z_ur σ 14 (z_up (σ 14) (4 * e + k) v)) 20 r20) 16 r16) x ↔ ((pr σ x ∧ x ≠ e) ∨ x = e) := fun x => by
    show pr σ x ↔ _
    by_cases c : x = e
    · subst c; exact ⟨fun _ => Or.inr rfl, fun _ => he⟩
    · exact ⟨fun q => Or.inl ⟨q, c⟩, fun q => q.elim (fun z => z.1) (fun z => absurd z c)⟩
  obtain ⟨sA, sB⟩ := Sp_st (N := N) (hh_o _) hS1 (fun i a b => by
    have hx := hS1.2.1 i a b
    exact hI_r (hmrx _ hx.1 hx.2) hmre ⟨by rw [e34]; exact jR.xn34 hS h hx.1, by rw [e34]; exact jR.xn34 hS h he⟩) (fun x hx => hh_c _ hx.2) hP
  have kn : ∀ m, m ≠ 20 → m ≠ 24 → m ≠ 25 → m ≠ 26 → m ≠ 30 → m ≠ 31 → m ≠ 37 → m ≠ 38 → kSp (kJd K (K 17 0 0) e) e N m = κ m := fun m a1 a2 a3 a4 a5 a6 a7 a8 => by
    rw [kSp_ne ⟨a1, a2, a3, a4, a7⟩, kJd_ne a6, k1 m a1 a2 a3 a4 a5 a7 a8]
  have kr : ∀ m i, i ≠ 1 → m = 20 ∨ m = 24 → kSp (kJd K (K 17 0 0) e) e N m i = K m i := fun m i a b => by
    rw [kSp_ni (by omega) a, kJd_ne (by omega)]
  refine ⟨?_, ?_, ?_, fun x h0 h1 => ?_, fun x h0 h1 => ?_, ?_, ?_, ?_, hm, h.k⟩
  · unfold TR
    rw [kn 5 (by decide) (by decide) (by decide) (by decide) (by decide) (by decide) (by decide) (by decide), kn 4 (by decide) (by decide) (by decide) (by decide) (by decide) (by decide) (by decide) (by decide)]
    exact h.t
  · unfold jRa
    rw [kn 0 (by decide) (by decide) (by decide) (by decide) (by decide) (by decide) (by decide) (by decide), kn 1 (by decide) (by decide) (by decide) (by decide) (by decide) (by decide) (by decide) (by decide), kn 18 (by decide) (by decide) (by decide) (by decide) (by decide) (by decide) (by decide) (by decide), kn 19 (by decide) (by decide) (by decide) (by decide) (by decide) (by decide) (by decide) (by decide), kr 24 0 (by decide) (Or.inr rfl), k24]
    exact h.a
  · unfold jRo
    rw [kn 16 (by decide) (by decide) (by decide) (by decide) (by decide) (by decide) (by decide) (by decide), kn 17 (by decide) (by decide) (by decide) (by decide) (by decide) (by decide) (by decide) (by decide), kn 12 (by decide) (by decide) (by decide) (by decide) (by decide) (by decide) (by decide) (by decide), kn 14 (by decide) (by decide) (by decide) (by decide) (by decide) (by decide) (by decide) (by decide)]
    exact h.o
  · have e30 : kSp (kJd K (K 17 0 0) e) e N 30 = K 30 := by rw [kSp_ne (by decide), kJd_ne (by decide)]
    have e38 : kSp (kJd K (K 17 0 0) e) e N 38 = K 38 := by rw [kSp_ne (by decide), kJd_ne (by decide)]
    have e31 : kSp (kJd K (K 17 0 0) e) e N 31 = kJd K (K 17 0 0) e 31 := kSp_ne (by decide)
    obtain ⟨q1, q2, q3, q4, q5, q6, q7⟩ := h.e (e := x) ⟨h0, h1⟩
    refine ⟨fun j a b => ?_, ?_, ?_, fun j a b c => ?_, fun r a b c => ?_, fun hc => ?_, fun hc => ?_⟩
    · rw [e30]
      show K 30 x j = z_up (σ 14) (4 * e + k) v (4 * x + j)
      by_cases c : x = e
      · subst c; exact h30e j a b
      · rw [k30x x c, hne x j c a b]; exact q1 j a b
    · rw [kn 35 (by decide) (by decide) (by decide) (by decide) (by decide) (by decide) (by decide) (by decide)]; exact q2
    · rw [kn 36 (by decide) (by decide) (by decide) (by decide) (by decide) (by decide) (by decide) (by decide)]; exact q3
    · rw [kn 33 (by decide) (by decide) (by decide) (by decide) (by decide) (by decide) (by decide) (by decide)]; exact q4 j a b c
    · rw [kn 32 (by decide) (by decide) (by decide) (by decide) (by decide) (by decide) (by decide) (by decide)]; exact q5 r a b c
    · obtain ⟨a1, a2, a3, a4⟩ := q6 hc
      refine ⟨?_, fun c b1 b2 => ?_, fun hi => ?_, fun hi => ?_⟩
      · rw [e38]
        show K 38 x 0 = z_up (σ 14) (4 * e + k) v (4 * x) - σ 17 x
        by_cases c : x = e
        · subst c; exact k38
        · rw [k38x x c, hne0 x c]; exact a1
      · rw [e31]
        by_cases c' : x = e
        · subst c'; exact hmre c b1 b2
        · exact hmrx x ⟨h0, h1, hc⟩ c' c b1 b2
      · rw [kn 39 (by decide) (by decide) (by decide) (by decide) (by decide) (by decide) (by decide) (by decide), kn 40 (by decide) (by decide) (by decide) (by decide) (by decide) (by decide) (by decide) (by decide)]; exact a3 hi
      · rw [kn 40 (by decide) (by decide) (by decide) (by decide) (by decide) (by decide) (by decide) (by decide)]; exact a4 hi
    · have hx : ¬ pr σ x := fun q => q.2.2 hc
      rw [sB x hx, kJd_ne (by decide), k37 x hx]
      exact q7 hc
  · have q := h.z (e := x) ⟨h0, h1⟩
    have hx : x ≠ e := fun q => by have := he.2.1; have : σ 19 0 ≤ x := h0; omega
    exact ⟨fun j a b => (hne x j hx a b).trans (q.1 j a b), q.2⟩
  · exact sA
  · unfold jRp
    rw [kr 20 2 (by decide) (Or.inl rfl), kr 24 2 (by decide) (Or.inr rfl)]
    exact kp
  · unfold jRl
    rw [kr 20 3 (by decide) (Or.inl rfl), kr 24 3 (by decide) (Or.inr rfl), k3.1, k3.2]
    exact h.l
theorem jJ_score (h : jJ t κ σ) (hS : cS κ) (ht : t ≤ 511) {e k v N1 N2 : Int} (he : pr σ e) (hk : 0 ≤ k ∧ k ≤ 3) (hv : -100000 ≤ v ∧ v ≤ 100000) : jJ (t + 1) (kCs κ e k v N1 N2) (yBe σ e k v) := by
  obtain ⟨sA, sB⟩ := Ta_st (hh_o σ) h.1.s he
  have q1 := (h.1.e (pr_b he)).1
  have hp0 := h.1.xpts (pr_b he)
  have hg := ((h.1.e (pr_b he)).2.2.2.2.2.1 he.2.2).1
  have h20 := h.b20
  have hmm := h.1.m
  by_cases c : k = 0 ∧ σ 14 (4 * e + k) ≠ v
  · obtain ⟨rfl, c2⟩ := c
    have c3 : v ≠ κ 30 e 0 := fun q => c2 (by rw [Int.add_zero, ← hp0]; exact q.symm)
    have pA := Tp_st (κ := kTa κ e) (P := pr σ) (pp_o σ) (by rw [kTa_ni (k := 20) (by decide) (by decide), kTa_ni (k := 24) (by decide) (by decide)]; exact h.1.p) he
    have e5 : kC5 κ e 0 v N1 = kPp (k_u (k_u (kTp (kTa κ e) e) 38 e 0 (kTp (kTa κ e) e 38 e 0 + v - kTp (kTa κ e) e 30 e 0)) 30 e 0 v) e N1 := by
      unfold kC5
      rw [if_pos ⟨rfl, c3⟩]
    have ey : yBe σ e 0 v = z_ur (z_ur (z_ur σ 14 (z_up (σ 14) (4 * e + 0) v)) 20 (z_up (σ 20) 0 (σ 20 0 + 1))) 16 (z_up (σ 16) e (σ 20 0 + 1)) := by
      unfold yBe
      rw [if_pos ⟨rfl, c2⟩]
      have q := z_ur3 (σ := σ) (ρ := z_u (z_u (z_u σ 14 (4 * e + 0) v) 20 0 (σ 20 0 + 1)) 16 e (σ 20 0 + 1)) (a := 14) (b := 20) (c := 16) (by decide) (fun k h1 h2 h3 => by rw [z_u_ne h3, z_u_ne h2, z_u_ne h1])
      rw [z_u_ne (k := 16) (k' := 14) (by decide), z_u_ne (k := 20) (k' := 14) (by decide), z_u_eq (k := 14), z_u_ne (k := 16) (k' := 20) (by decide), z_u_eq (k := 20), z_u_ne (k := 14) (k' := 20) (by decide), z_u_eq (k := 16), z_u_ne (k := 20) (k' := 16) (by decide), z_u_ne (k := 14) (k' := 16) (by decide)] at q
      exact q
    have r16e : z_up (σ 16) e (σ 20 0 + 1) e = σ 20 0 + 1 := if_pos rfl
    have r16x : ∀ x, x ≠ e → z_up (σ 16) e (σ 20 0 + 1) x = σ 16 x := fun x hx => if_neg hx
    have r20 : z_up (σ 20) 0 (σ 20 0 + 1) 0 = σ 20 0 + 1 := if_pos rfl
    have r14x : ∀ x : Int, x ≠ e → z_up (σ 14) (4 * e + 0) v (4 * x) = σ 14 (4 * x) := fun x hx => if_neg (by omega)
    have r14e : z_up (σ 14) (4 * e + 0) v (4 * e) = v := if_pos (by omega)
    refine ⟨?_, ?_⟩
    · rw [ey]
      unfold kCs
      rw [e5]
      refine jR_score h.1 hS he hk (fun m a1 a2 a3 a4 a5 a6 a7 => ?_) ?_ (fun x hx => ?_) ?_ (fun x hx => ?_) (fun x hx => ?_) ?_ ⟨?_, ?_⟩ ?_ ?_ ⟨fun x hx => ?_, fun x o hx ho q => ?_⟩
      · rw [kPp_ne ⟨a1, a2, a3, a4⟩, k_u_ne a5, k_u_ne a7, kTp_ne ⟨a1, a2, a3⟩, kTa_ne ⟨a1, a2, a3, a6⟩]
      · rw [kPp_ne (by decide), k_u_eq, k_u_ne (by decide), kTp_ne (by decide), kTa_ne (by decide)]
      · rw [kPp_ne (by decide), k_u_ni hx, k_u_ne (by decide), kTp_ne (by decide), kTa_ne (by decide)]
      · rw [kPp_ne (by decide), k_u_ne (by decide), k_u_at, kTp_ne (by decide), kTp_ne (by decide), kTa_ne (by decide), kTa_ne (by decide), r14e, hg, hp0]
        omega
      · rw [kPp_ne (by decide), k_u_ne (by decide), k_u_ni hx, kTp_ne (by decide), kTa_ne (by decide)]
      · rw [kPp_ne (by decide), k_u_ne (by decide), k_u_ne (by decide), kTp_ne (by decide)]
        exact sB x hx
      · rw [kPp_ni (by decide), k_u_ne (by decide), k_u_ne (by decide), kTp_ni (by decide), kTa_ni (by decide) (by decide)]
      · rw [kPp_ni (by decide), k_u_ne (by decide), k_u_ne (by decide), kTp_ni (by decide), kTa_ni (by decide) (by decide)]
      · rw [kPp_ni (by decide), k_u_ne (by decide), k_u_ne (by decide), kTp_ni (by decide), kTa_ni (by decide) (by decide)]
      · rw [kPp_ni (k := 20) (by decide), kPp_ni (k := 24) (by decide), k_u_ne (k := 30) (k' := 20) (by decide), k_u_ne (k := 38) (k' := 20) (by decide), k_u_ne (k := 30) (k' := 24) (by decide), k_u_ne (k := 38) (k' := 24) (by decide), kTp_ni (by decide), kTp_ni (by decide)]
        exact sA.1
      · refine Pp_st (P := fun x => pr σ x ∧ x ≠ e) ?_ (fun x hx => ?_) ?_ (fun x hx => ?_) (fun x => ?_)
        · rw [k_u_ne (k := 30) (k' := 20) (by decide), k_u_ne (k := 38) (k' := 20) (by decide), k_u_ne (k := 30) (k' := 24) (by decide), k_u_ne (k := 38) (k' := 24) (by decide)]
          refine jS_cg pA rfl (fun _ _ _ => rfl) (fun _ => Iff.rfl) (fun a b ha hb q => ?_)
          show z_up (σ 14) (4 * e + 0) v (4 * a) < z_up (σ 14) (4 * e + 0) v (4 * b) ∨ (z_up (σ 14) (4 * e + 0) v (4 * a) = z_up (σ 14) (4 * e + 0) v (4 * b) ∧ z_up (σ 16) e (σ 20 0 + 1) a < z_up (σ 16) e (σ 20 0 + 1) b)
          rw [r14x a ha.2, r14x b hb.2, r16x a ha.2, r16x b hb.2]
          exact q
        · show _ = z_up (σ 14) (4 * e + 0) v (4 * x)
          rw [r14x x hx.2, k_u_ni hx.2, k_u_ne (by decide), kTp_ne (by decide), kTa_ne (by decide)]
          exact h.1.xpts (pr_b hx.1)
        · show _ = z_up (σ 14) (4 * e + 0) v (4 * e)
          rw [r14e]
          exact k_u_at
        · show z_up (σ 16) e (σ 20 0 + 1) x < z_up (σ 16) e (σ 20 0 + 1) e
          rw [r16x x hx.2, r16e]
          have := (hmm.1 x hx.1).2
          omega
        · by_cases c : x = e
          · subst c; exact ⟨fun _ => Or.inr rfl, fun _ => he⟩
          · exact ⟨fun q => Or.inl ⟨q, c⟩, fun q => q.elim (fun z => z.1) (fun z => absurd z c)⟩
      · show 1 ≤ z_up (σ 16) e (σ 20 0 + 1) x ∧ z_up (σ 16) e (σ 20 0 + 1) x ≤ z_up (σ 20) 0 (σ 20 0 + 1) 0
        rw [r20]
        by_cases c : x = e
        · subst c; rw [r16e]; omega
        · rw [r16x x c]
          have := hmm.1 x hx
          omega
      · have q' : z_up (σ 16) e (σ 20 0 + 1) x = z_up (σ 16) e (σ 20 0 + 1) o := q
        by_cases c : x = e
        · by_cases c' : o = e
          · rw [c, c']
          · subst c
            rw [r16e, r16x o c'] at q'
            have := (hmm.1 o ho).2
            omega
        · by_cases c' : o = e
          · subst c'
            rw [r16e, r16x x c] at q'
            have := (hmm.1 x hx).2
            omega
          · rw [r16x x c, r16x o c'] at q'
            exact hmm.2 x o hx ho q'
    · obtain ⟨-, hB, hV, m1, m2, m3, m4, m5, m6⟩ := h
      unfold yBe
      rw [if_pos ⟨rfl, c2⟩]
      refine ⟨mB_u (mB_u (mB_u hB (by omega)) (by omega)) (by omega), mVu_14 hV hv, m1, m2, ?_, m4, m5, m6⟩
      rw [z_u_ne (by decide), z_u_at]
      omega
  · have e5 : kC5 κ e k v N1 = k_u (kTa κ e) 30 e k v := by
      unfold kC5
      rw [if_neg (fun q => c ⟨q.1, fun z => q.2 (by rw [← z, q.1, Int.add_zero]; exact hp0.symm)⟩)]
    have ey : yBe σ e k v = z_ur (z_ur (z_ur σ 14 (z_up (σ 14) (4 * e + k) v)) 20 (σ 20)) 16 (σ 16) := by
      unfold yBe
      rw [if_neg c]
      have q := z_ur3 (σ := σ) (ρ := z_u σ 14 (4 * e + k) v) (a := 14) (b := 20) (c := 16) (by decide) (fun k h1 h2 h3 => by rw [z_u_ne h1])
      rw [z_u_eq, z_u_ne (k' := 20) (by decide), z_u_ne (k' := 16) (by decide)] at q
      exact q
    have r14 : ∀ x : Int, z_up (σ 14) (4 * e + k) v (4 * x) = σ 14 (4 * x) := fun x => by
      by_cases c1 : 4 * x = 4 * e + k
      · have hk0 : k = 0 := by omega
        rw [show z_up (σ 14) (4 * e + k) v (4 * x) = v from if_pos c1, c1]
        by_cases c2 : σ 14 (4 * e + k) = v
        · exact c2.symm
        · exact absurd ⟨hk0, c2⟩ c
      · exact if_neg c1
    refine ⟨?_, ?_⟩
    · rw [ey]
      unfold kCs
      rw [e5]
      refine jR_score h.1 hS he hk (fun m a1 a2 a3 a4 a5 a6 a7 => ?_) ?_ (fun x hx => ?_) ?_ (fun x hx => ?_) (fun x hx => ?_) ?_ ⟨?_, ?_⟩ ?_ ?_ hmm
      · rw [k_u_ne a5, kTa_ne ⟨a1, a2, a3, a6⟩]
      · rw [k_u_eq, kTa_ne (by decide)]
      · rw [k_u_ni hx, kTa_ne (by decide)]
      · rw [k_u_ne (by decide), kTa_ne (by decide), r14]; exact hg
      · rw [k_u_ne (by decide), kTa_ne (by decide)]
      · rw [k_u_ne (by decide)]; exact sB x hx
      · rw [k_u_ne (by decide), kTa_ni (by decide) (by decide)]
      · rw [k_u_ne (by decide), kTa_ni (by decide) (by decide)]
      · rw [k_u_ne (by decide), kTa_ni (by decide) (by decide)]
      · rw [k_u_ne (k' := 20) (by decide), k_u_ne (k' := 24) (by decide)]; exact sA.1
      · rw [k_u_ne (k' := 20) (by decide), k_u_ne (k' := 24) (by decide), kTa_ni (k := 20) (by decide) (by decide), kTa_ni (k := 24) (by decide) (by decide)]
        refine jS_cg h.1.p rfl (fun _ _ _ => rfl) (fun _ => Iff.rfl) (fun a b ha hb q => ?_)
        show z_up (σ 14) (4 * e + k) v (4 * a) < z_up (σ 14) (4 * e + k) v (4 * b) ∨ (z_up (σ 14) (4 * e + k) v (4 * a) = z_up (σ 14) (4 * e + k) v (4 * b) ∧ σ 16 a < σ 16 b)
        rw [r14 a, r14 b]
        exact q
    · obtain ⟨-, hB, hV, m1, m2, m3, m4, m5, m6⟩ := h
      unfold yBe
      rw [if_neg c]
      exact ⟨mB_u hB (by omega), mVu_14 hV hv, m1, m2, ⟨m3.1, Int.le_trans (show z_u σ 14 (4 * e + k) v 20 0 ≤ (t : Int) from m3.2) (by omega)⟩, m4, m5, m6⟩
theorem yBe_0 (σ : z_S) (e k v : Int) : yBe σ e k v 0 = σ 0 := by
  unfold yBe
  split
  · rw [z_u_ne (by decide), z_u_ne (by decide), z_u_ne (by decide)]
  · rw [z_u_ne (by decide)]
end SCO
section SCP
end SCP
