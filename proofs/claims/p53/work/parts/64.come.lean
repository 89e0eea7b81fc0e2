/-! ONE COMES. -/
section CME
variable {t : Nat} {κ : c_K} {σ : z_S}
theorem yCo_18n {g : Int} : yCo σ g 18 (σ 19 0) = 1 := by
  unfold yCo
  rw [z_u_ne (by decide), z_u_ne (by decide), z_u_ne (by decide), z_u_ne (by decide)]
  exact z_u_at
theorem yCo_18 {g x : Int} (h : x ≠ σ 19 0) : yCo σ g 18 x = σ 18 x := by
  unfold yCo
  rw [z_u_ne (by decide), z_u_ne (by decide), z_u_ne (by decide), z_u_ne (by decide), z_u_at' h, z_u_ne (by decide)]
theorem yCo_19 {g : Int} : yCo σ g 19 0 = σ 19 0 + 1 := by
  unfold yCo
  rw [z_u_ne (by decide), z_u_ne (by decide), z_u_ne (by decide), z_u_ne (by decide), z_u_ne (by decide)]
  exact z_u_at
theorem yCo_15n {g : Int} : yCo σ g 15 (σ 19 0) = g := by
  unfold yCo
  rw [z_u_ne (by decide), z_u_ne (by decide), z_u_ne (by decide)]
  exact z_u_at
theorem yCo_15 {g x : Int} (h : x ≠ σ 19 0) : yCo σ g 15 x = σ 15 x := by
  unfold yCo
  rw [z_u_ne (by decide), z_u_ne (by decide), z_u_ne (by decide), z_u_at' h, z_u_ne (by decide), z_u_ne (by decide)]
theorem yCo_22 {g x : Int} (h : x ≠ σ 19 0) : yCo σ g 22 x = σ 22 x := by
  unfold yCo
  rw [z_u_ne (by decide), z_u_ne (by decide), z_u_at' h, z_u_ne (by decide), z_u_ne (by decide), z_u_ne (by decide)]
theorem yCo_20 {g : Int} : yCo σ g 20 0 = σ 20 0 + 1 := by
  unfold yCo
  rw [z_u_ne (by decide)]
  exact z_u_at
theorem yCo_16n {g : Int} : yCo σ g 16 (σ 19 0) = σ 20 0 + 1 := z_u_at
theorem yCo_16 {g x : Int} (h : x ≠ σ 19 0) : yCo σ g 16 x = σ 16 x := by
  unfold yCo
  rw [z_u_at' h, z_u_ne (by decide), z_u_ne (by decide), z_u_ne (by decide), z_u_ne (by decide), z_u_ne (by decide)]
theorem yCo_k {g : Int} {k : Nat} (h : k ≠ 19 ∧ k ≠ 18 ∧ k ≠ 15 ∧ k ≠ 22 ∧ k ≠ 20 ∧ k ≠ 16) : yCo σ g k = σ k := by
  unfold yCo
  rw [z_u_ne h.2.2.2.2.2, z_u_ne h.2.2.2.2.1, z_u_ne h.2.2.2.1, z_u_ne h.2.2.1, z_u_ne h.2.1, z_u_ne h.1]
theorem jJ_come (h : jJ t κ σ) (hS : cS κ) (ht : t ≤ 511) {g N N1 N2 : Int} (hg : 0 ≤ g ∧ g ≤ 4) (hn : σ 19 0 < 30) : jJ (t + 1) (kPp (kSp (kJd (kNe κ g N) (κ 17 0 0) (κ 24 0 0)) (κ 24 0 0) N1) (κ 24 0 0) N2) (yCo σ g) := by
  have hV := h.V
  have hn0 := (mV_n hV).1
  have e24 := h.1.n
  have h20 := h.b20
  have hmm := h.1.m
  have hz := h.1.z (e := σ 19 0) ⟨Int.le_refl _, hn⟩
  have k8 : yCo σ g 8 = σ 8 := yCo_k (by decide)
  have k10 : yCo σ g 10 = σ 10 := yCo_k (by decide)
  have k12 : yCo σ g 12 = σ 12 := yCo_k (by decide)
  have k14 : yCo σ g 14 = σ 14 := yCo_k (by decide)
  have hvl : vl (yCo σ g) = vl σ := by
    funext e c
    unfold vl
    rw [k8, k14]
  have hmer : mer (yCo σ g) = mer σ := by
    funext e c
    unfold mer
    rw [k12, k10, hvl]
  have hhh : hh (yCo σ g) = hh σ := by
    unfold hh
    rw [hmer]
  have hP : ∀ x, pr (yCo σ g) x ↔ (pr σ x ∨ x = σ 19 0) := fun x => by
    show (0 ≤ x ∧ x < yCo σ g 19 0 ∧ yCo σ g 18 x ≠ 0) ↔ _
    rw [yCo_19]
    by_cases c : x = σ 19 0
    · subst c
      rw [yCo_18n]
      exact ⟨fun _ => Or.inr rfl, fun _ => ⟨hn0, by omega, by omega⟩⟩
    · rw [yCo_18 c]
      exact ⟨fun q => Or.inl ⟨q.1, by omega, q.2.2⟩, fun q => q.elim (fun z => ⟨z.1, by have := z.2.1; omega, z.2.2⟩) (fun z => absurd z c)⟩
  have hlt : ∀ x, pr σ x → x ≠ σ 19 0 := fun x hx => by have := hx.2.1; omega
  rw [e24]
  have kx : ∀ (k : Nat) (x : Int), x ≠ σ 19 0 → k ≠ 20 ∧ k ≠ 24 ∧ k ≠ 25 ∧ k ≠ 26 → kNe κ g N k x = κ k x := fun k x hx hk => kNe_o (by rw [e24]; exact hx) hk
  have kn : ∀ k : Nat, 30 ≤ k ∧ k ≤ 40 → kNe κ g N k (σ 19 0) = kEv (σ 19 0) g k := fun k hk => by rw [← e24]; exact kNe_n hk
  have ko : ∀ k : Nat, ¬ (30 ≤ k ∧ k ≤ 40) → k ≠ 20 ∧ k ≠ 24 ∧ k ≠ 25 ∧ k ≠ 26 → kNe κ g N k = κ k := fun k h1 h2 => kNe_ne h1 h2
  have hO : jRo (kNe κ g N) (yCo σ g) := by
    unfold jRo
    rw [ko 16 (by decide) (by decide), ko 17 (by decide) (by decide), ko 12 (by decide) (by decide), ko 14 (by decide) (by decide), k12, k8, k10]
    exact h.1.o
  have h30n : ∀ j : Int, kNe κ g N 30 (σ 19 0) j = 0 := fun j => by rw [kn 30 (by decide)]; rfl
  have hmrn : mrt (kJd (kNe κ g N) (κ 17 0 0) (σ 19 0)) (yCo σ g) (σ 19 0) (σ 19 0) := jud1 hO (by rw [ko 17 (by decide) (by decide)]) (fun k a b => by rw [h30n, k14]; exact (hz.1 k a b).symm)
  have hmrx : ∀ x, pr σ x → mrt (kJd (kNe κ g N) (κ 17 0 0) (σ 19 0)) (yCo σ g) x x := fun x hx c a b => by
    rw [kJd_ni (hlt x hx), kx 31 x (hlt x hx) (by decide), hmer]
    exact h.1.xmr hx c a b
  have e34x : ∀ x, pr σ x → kJd (kNe κ g N) (κ 17 0 0) (σ 19 0) 34 x 0 = x := fun x hx => by
    rw [kJd_ne (by decide), kx 34 x (hlt x hx) (by decide)]
    exact jR.xn34 hS h.1 hx
  have e34n : kJd (kNe κ g N) (κ 17 0 0) (σ 19 0) 34 (σ 19 0) 0 = σ 19 0 := by
    rw [kJd_ne (by decide), kn 34 (by decide)]; rfl
  have r1 : ∀ k : Nat, k = 20 ∨ k = 24 → kJd (kNe κ g N) (κ 17 0 0) (σ 19 0) k 1 = κ k 1 := fun k hk => by rw [kJd_ne (by omega), kNe_r (by omega) (by decide)]
  have r2 : ∀ k : Nat, k = 20 ∨ k = 24 → kSp (kJd (kNe κ g N) (κ 17 0 0) (σ 19 0)) (σ 19 0) N1 k 2 = κ k 2 := fun k hk => by rw [kSp_ni (by omega) (by decide), kJd_ne (by omega), kNe_r (by omega) (by decide)]
  obtain ⟨sA, sB⟩ := Sp_st (κ := kJd (kNe κ g N) (κ 17 0 0) (σ 19 0)) (N := N1) (lt := hh σ) (P := pr σ) (P' := pr (yCo σ g)) (e := σ 19 0) (hh_o σ) (by rw [r1 20 (Or.inl rfl), r1 24 (Or.inr rfl)]; exact h.1.s.1) (fun i a b => by
    rw [r1 20 (Or.inl rfl)]
    rw [r1 24 (Or.inr rfl)] at b
    have hx := h.1.xsp ⟨a, b⟩
    have q := hI_r (hmrx _ hx) hmrn ⟨e34x _ hx, e34n⟩
    rw [hhh] at q
    exact q) (fun x hx => hh_c _ (hlt x hx)) hP
  have pA : jS (pp (yCo σ g)) (pr (yCo σ g)) (kPp (kSp (kJd (kNe κ g N) (κ 17 0 0) (σ 19 0)) (σ 19 0) N1) (σ 19 0) N2 20 2) (kPp (kSp (kJd (kNe κ g N) (κ 17 0 0) (σ 19 0)) (σ 19 0) N1) (σ 19 0) N2 24 2 0) := by
    refine Pp_st (P := pr σ) ?_ (fun x hx => ?_) ?_ (fun x hx => ?_) hP
    · rw [r2 20 (Or.inl rfl), r2 24 (Or.inr rfl)]
      refine jS_cg h.1.p rfl (fun _ _ _ => rfl) (fun _ => Iff.rfl) (fun a b ha hb q => ?_)
      unfold pp
      rw [k14, yCo_16 (hlt a ha), yCo_16 (hlt b hb)]
      exact q
    · rw [kSp_ne (by decide), kJd_ne (by decide), kx 30 x (hlt x hx) (by decide), k14]
      exact h.1.xpts (pr_b hx)
    · rw [kSp_ne (by decide), kJd_ne (by decide), h30n, k14]
      have a := hz.1 0 (by omega) (by omega)
      rw [Int.add_zero] at a
      exact a.symm
    · rw [yCo_16 (hlt x hx), yCo_16n]
      have := (hmm.1 x hx).2
      omega
  have f1 : ∀ k : Nat, ¬ (30 ≤ k ∧ k ≤ 40) → k ≠ 20 ∧ k ≠ 24 ∧ k ≠ 25 ∧ k ≠ 26 → kPp (kSp (kJd (kNe κ g N) (κ 17 0 0) (σ 19 0)) (σ 19 0) N1) (σ 19 0) N2 k = κ k := fun k h1 h2 => by
    rw [kPp_ne h2, kSp_ne ⟨h2.1, h2.2.1, h2.2.2.1, h2.2.2.2, by omega⟩, kJd_ne (by omega), ko k h1 h2]
  have f2 : ∀ k : Nat, k ≠ 20 ∧ k ≠ 24 ∧ k ≠ 25 ∧ k ≠ 26 ∧ k ≠ 31 ∧ k ≠ 37 → kPp (kSp (kJd (kNe κ g N) (κ 17 0 0) (σ 19 0)) (σ 19 0) N1) (σ 19 0) N2 k = kNe κ g N k := fun k h2 => by
    rw [kPp_ne ⟨h2.1, h2.2.1, h2.2.2.1, h2.2.2.2.1⟩, kSp_ne ⟨h2.1, h2.2.1, h2.2.2.1, h2.2.2.2.1, h2.2.2.2.2.2⟩, kJd_ne h2.2.2.2.2.1]
  have f31 : kPp (kSp (kJd (kNe κ g N) (κ 17 0 0) (σ 19 0)) (σ 19 0) N1) (σ 19 0) N2 31 = kJd (kNe κ g N) (κ 17 0 0) (σ 19 0) 31 := by rw [kPp_ne (by decide), kSp_ne (by decide)]
  have f37 : kPp (kSp (kJd (kNe κ g N) (κ 17 0 0) (σ 19 0)) (σ 19 0) N1) (σ 19 0) N2 37 = kSp (kJd (kNe κ g N) (κ 17 0 0) (σ 19 0)) (σ 19 0) N1 37 := kPp_ne (by decide)
  have fr : ∀ k : Nat, k = 20 ∨ k = 24 → kPp (kSp (kJd (kNe κ g N) (κ 17 0 0) (σ 19 0)) (σ 19 0) N1) (σ 19 0) N2 k 1 = kSp (kJd (kNe κ g N) (κ 17 0 0) (σ 19 0)) (σ 19 0) N1 k 1 := fun k hk => kPp_ni (by decide)
  have f3 : ∀ k : Nat, k = 20 ∨ k = 24 → kPp (kSp (kJd (kNe κ g N) (κ 17 0 0) (σ 19 0)) (σ 19 0) N1) (σ 19 0) N2 k 3 = κ k 3 := fun k hk => by
    rw [kPp_ni (by decide), kSp_ni (by omega) (by decide), kJd_ne (by omega), kNe_r (by omega) (by decide)]
  have f24 : kPp (kSp (kJd (kNe κ g N) (κ 17 0 0) (σ 19 0)) (σ 19 0) N1) (σ 19 0) N2 24 0 0 = κ 24 0 0 + 1 := by rw [kPp_n, kSp_n, kJd_ne (by decide), kNe_24]
  have hil : ∀ x, jIl (yCo σ g) x ↔ jIl σ x := fun x => by
    unfold jIl
    rw [yCo_k (k := 25) (by decide), yCo_k (k := 21) (by decide)]
  have hiln : ∀ x, jIl σ x → x ≠ σ 19 0 := fun x ⟨i, a, b, q⟩ => by
    have := (h.1.l.2.1 i a b).2
    rw [q] at this
    exact hlt x this
  refine ⟨⟨?_, ?_, ?_, fun x h0 h1 => ?_, fun x h0 h1 => ?_, ⟨?_, ?_⟩, pA, ?_, ⟨fun x hx => ?_, fun x o hx ho q => ?_⟩, fun j a b c => ⟨fun e h0 h1 => ?_, fun e o h0 h1 h2 h3 hne hq => ?_⟩⟩, ?_⟩
  · unfold TR
    rw [f1 5 (by decide) (by decide), f1 4 (by decide) (by decide), yCo_k (k := 2) (by decide), yCo_k (k := 1) (by decide)]
    exact h.1.t
  · unfold jRa
    rw [f1 0 (by decide) (by decide), f1 1 (by decide) (by decide), f1 18 (by decide) (by decide), f1 19 (by decide) (by decide), f24, yCo_k (k := 3) (by decide), yCo_k (k := 30) (by decide), yCo_k (k := 26) (by decide), yCo_k (k := 27) (by decide), yCo_19, e24]
    exact ⟨h.1.a.1, h.1.a.2.1, h.1.a.2.2.1, h.1.a.2.2.2.1, rfl⟩
  · unfold jRo
    rw [f1 16 (by decide) (by decide), f1 17 (by decide) (by decide), f1 12 (by decide) (by decide), f1 14 (by decide) (by decide), k12, k8, k10]
    exact h.1.o
  · rw [yCo_19] at h1
    unfold jRe jRt mrt
    rw [f2 30 (by decide), f2 35 (by decide), f2 36 (by decide), f2 33 (by decide), f2 32 (by decide), f2 38 (by decide), f2 39 (by decide), f2 40 (by decide), f31, f37, k14, yCo_k (k := 30) (by decide), yCo_k (k := 29) (by decide), yCo_k (k := 28) (by decide), yCo_k (k := 17) (by decide), yCo_k (k := 23) (by decide)]
    by_cases c : x = σ 19 0
    · subst c
      refine ⟨fun k a b => ?_, ?_, ?_, fun j a b c => ?_, fun r a b c => ?_, fun hc => ⟨?_, hmrn, fun hi => ?_, fun hi => ?_⟩, fun hc => ?_⟩
      · rw [h30n]; exact (hz.1 k a b).symm
      · rw [kn 35 (by decide), yCo_15n]; rfl
      · rw [kn 36 (by decide), yCo_18n]; rfl
      · rw [kn 33 (by decide), hz.2.2.2.1 j a b c]
        show (if 0 ≤ j ∧ j < ((20 : Nat) : Int) then (-1 : Int) else 0) = -1
        exact if_pos ⟨a, by omega⟩
      · rw [kn 32 (by decide), hz.2.2.2.2 r a b]; rfl
      · have a0 := hz.1 0 (by omega) (by omega)
        rw [Int.add_zero] at a0
        rw [kn 38 (by decide), a0, hz.2.2.1]; rfl
      · exact absurd rfl (hiln _ ((hil _).mp hi))
      · rw [kn 40 (by decide)]; rfl
      · rw [yCo_18n] at hc; omega
    · have hx : 0 ≤ x ∧ x < σ 19 0 := ⟨h0, by omega⟩
      obtain ⟨q1, q2, q3, q4, q5, q6, q7⟩ := h.1.e hx
      rw [kx 30 x c (by decide), kx 35 x c (by decide), kx 36 x c (by decide), kx 33 x c (by decide), kx 32 x c (by decide), kx 38 x c (by decide), kx 39 x c (by decide), kx 40 x c (by decide), yCo_15 c, yCo_18 c, yCo_22 c]
      refine ⟨q1, q2, q3, q4, q5, fun hc => ⟨(q6 hc).1, hmrx x ⟨hx.1, hx.2, hc⟩, fun hi => (q6 hc).2.2.1 ((hil x).mp hi), fun hi => (q6 hc).2.2.2 (fun z => hi ((hil x).mpr z))⟩, fun hc => ?_⟩
      have hnp : ¬ pr (yCo σ g) x := fun z => by
        rcases (hP x).mp z with z | z
        · exact z.2.2 hc
        · exact c z
      rw [sB x hnp, kJd_ne (by decide), kx 37 x c (by decide)]
      exact q7 hc
  · rw [yCo_19] at h0
    have hx : x ≠ σ 19 0 := by omega
    obtain ⟨a1, a2, a3, a4, a5⟩ := h.1.z (e := x) ⟨by omega, h1⟩
    unfold jRz
    rw [k14, yCo_18 hx, yCo_k (k := 17) (by decide), yCo_k (k := 30) (by decide), yCo_k (k := 29) (by decide), yCo_k (k := 28) (by decide)]
    exact ⟨a1, a2, a3, a4, a5⟩
  · rw [fr 20 (Or.inl rfl), fr 24 (Or.inr rfl), hhh]
    exact sA.1
  · rw [fr 20 (Or.inl rfl), fr 24 (Or.inr rfl), f37]
    exact sA.2
  · unfold jRl mD
    rw [f3 20 (Or.inl rfl), f3 24 (Or.inr rfl), yCo_k (k := 25) (by decide), yCo_k (k := 21) (by decide)]
    exact ⟨h.1.l.1, fun i a b => ⟨(h.1.l.2.1 i a b).1, (hP _).mpr (Or.inl (h.1.l.2.1 i a b).2)⟩, h.1.l.2.2⟩
  · rw [yCo_20]
    rcases (hP x).mp hx with hx | hx
    · rw [yCo_16 (hlt x hx)]
      have := hmm.1 x hx
      omega
    · subst hx
      rw [yCo_16n]
      omega
  · rcases (hP x).mp hx with hx | hx
    · rcases (hP o).mp ho with ho | ho
      · rw [yCo_16 (hlt x hx), yCo_16 (hlt o ho)] at q
        exact hmm.2 x o hx ho q
      · subst ho
        rw [yCo_16 (hlt x hx), yCo_16n] at q
        have := (hmm.1 x hx).2
        omega
    · rcases (hP o).mp ho with ho | ho
      · subst hx
        rw [yCo_16 (hlt o ho), yCo_16n] at q
        have := (hmm.1 o ho).2
        omega
      · rw [hx, ho]
  · rw [yCo_19] at h1
    rw [yCo_k (k := 30) (by decide)] at c
    rw [yCo_k (k := 29) (by decide)]
    by_cases c1 : e = σ 19 0
    · subst c1; exact Or.inl (hz.2.2.2.1 j a b c)
    · exact (h.1.k j a b c).1 e h0 (by omega)
  · rw [yCo_19] at h1 h3
    rw [yCo_k (k := 30) (by decide)] at c
    rw [yCo_k (k := 29) (by decide)] at hq ⊢
    by_cases c1 : e = σ 19 0
    · subst c1; exact absurd (hz.2.2.2.1 j a b c) hq
    · by_cases c2 : o = σ 19 0
      · subst c2
        rw [hz.2.2.2.1 j a b c]
        exact hq
      · exact (h.1.k j a b c).2 e o h0 (by omega) h2 (by omega) hne hq
  · obtain ⟨-, hB, hV, m1, m2, m3, m4, m5, m6⟩ := h
    refine ⟨?_, ?_, m1, m2, ?_, m4, m5, fun x hx => ?_⟩
    · unfold yCo
      exact mB_u (mB_u (mB_u (mB_u (mB_u (mB_u hB (by omega)) (by omega)) (by omega)) (by omega)) (by omega)) (by omega)
    · have v1 : mV (z_u σ 19 0 (σ 19 0 + 1)) := mVu_19 hV (by omega)
      have v2 : mV (z_u (z_u σ 19 0 (σ 19 0 + 1)) 18 (σ 19 0) 1) := mVu_18 v1 (Or.inr rfl)
      have v3 : mV (z_u (z_u (z_u σ 19 0 (σ 19 0 + 1)) 18 (σ 19 0) 1) 15 (σ 19 0) g) := mVu_15 v2 hg
      exact v3
    · rw [yCo_20]; omega
    · have hx' := (hil x).mp hx
      rw [yCo_22 (hiln x hx')]
      exact m6 x hx'
end CME
section CMF
end CMF
