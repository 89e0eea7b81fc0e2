/-! THE LADDER: one enters, challenges. -/
section LAD
def jPm (n : Int) (F L : Int → Int) : Prop := (∀ i j, 0 ≤ i → i < n → 0 ≤ j → j < n → F i = F j → i = j) ∧ ∀ x, (∃ i, 0 ≤ i ∧ i < n ∧ F i = x) ↔ ∃ i, 0 ≤ i ∧ i < n ∧ L i = x
theorem jPm_m {n : Int} {F G L m m' : Int → Int} (h : jPm n F L) (hG : ∀ i, 0 ≤ i → i < n → G i = F (m i)) (h1 : ∀ i, 0 ≤ i → i < n → 0 ≤ m i ∧ m i < n ∧ m' (m i) = i) (h2 : ∀ i, 0 ≤ i → i < n → 0 ≤ m' i ∧ m' i < n ∧ m (m' i) = i) : jPm n G L := by
  refine ⟨fun i j a b c d q => ?_, fun x => ?_⟩
  · rw [hG i a b, hG j c d] at q
    have q2 := h.1 _ _ (h1 i a b).1 (h1 i a b).2.1 (h1 j c d).1 (h1 j c d).2.1 q
    rw [← (h1 i a b).2.2, ← (h1 j c d).2.2, q2]
  · rw [← h.2 x]
    constructor
    · rintro ⟨i, a, b, q⟩
      exact ⟨m i, (h1 i a b).1, (h1 i a b).2.1, by rw [← hG i a b]; exact q⟩
    · rintro ⟨i, a, b, q⟩
      exact ⟨m' i, (h2 i a b).1, (h2 i a b).2.1, by rw [hG _ (h2 i a b).1 (h2 i a b).2.1, (h2 i a b).2.2]; exact q⟩
variable {t : Nat} {κ κ' : c_K} {σ : z_S}
theorem jJ_lad (h : jJ t κ σ) {r21 : Int → Int} (hk : ∀ k, k ≠ 20 → k ≠ 24 → k ≠ 25 → k ≠ 26 → κ' k = κ k) (hi : ∀ k i, i ≠ 3 → κ' k i = κ k i) (h24 : κ' 24 3 0 = κ 24 3 0) (h20 : ∀ i, 0 ≤ i → i < σ 25 0 → κ' 20 3 i = r21 i) (hp : jPm (σ 25 0) r21 (σ 21)) (hb : ∀ i, 0 ≤ r21 i ∧ r21 i < 30) : jJ t κ' (z_ur σ 21 r21) := by
  obtain ⟨h, hM⟩ := h
  have hil : ∀ x, jIl (z_ur σ 21 r21) x ↔ jIl σ x := hp.2
  refine ⟨⟨?_, ?_, ?_, fun x h0 h1 => ?_, h.2.2.2.2.1, ?_, ?_, ⟨?_, fun i a b => ⟨h20 i a b, ?_⟩, hp.1⟩, h.m, h.k⟩, ?_⟩
  · unfold TR
    rw [hk 5 (by decide) (by decide) (by decide) (by decide), hk 4 (by decide) (by decide) (by decide) (by decide)]
    exact h.t
  · unfold jRa
    rw [hk 0 (by decide) (by decide) (by decide) (by decide), hk 1 (by decide) (by decide) (by decide) (by decide), hk 18 (by decide) (by decide) (by decide) (by decide), hk 19 (by decide) (by decide) (by decide) (by decide), hi 24 0 (by decide)]
    exact h.a
  · unfold jRo
    rw [hk 16 (by decide) (by decide) (by decide) (by decide), hk 17 (by decide) (by decide) (by decide) (by decide), hk 12 (by decide) (by decide) (by decide) (by decide), hk 14 (by decide) (by decide) (by decide) (by decide)]
    exact h.o
  · obtain ⟨q1, q2, q3, q4, q5, q6, q7⟩ := h.e (e := x) ⟨h0, h1⟩
    unfold jRe jRt mrt
    rw [hk 30 (by decide) (by decide) (by decide) (by decide), hk 35 (by decide) (by decide) (by decide) (by decide), hk 36 (by decide) (by decide) (by decide) (by decide), hk 33 (by decide) (by decide) (by decide) (by decide), hk 32 (by decide) (by decide) (by decide) (by decide), hk 37 (by decide) (by decide) (by decide) (by decide), hk 38 (by decide) (by decide) (by decide) (by decide), hk 31 (by decide) (by decide) (by decide) (by decide), hk 39 (by decide) (by decide) (by decide) (by decide), hk 40 (by decide) (by decide) (by decide) (by decide)]
    exact ⟨q1, q2, q3, q4, q5, fun hc => ⟨(q6 hc).1, (q6 hc).2.1, fun z => (q6 hc).2.2.1 ((hil x).mp z), fun z => (q6 hc).2.2.2 (fun w => z ((hil x).mpr w))⟩, q7⟩
  · unfold jRs
    rw [hi 20 1 (by decide), hi 24 1 (by decide), hk 37 (by decide) (by decide) (by decide) (by decide)]
    exact h.s
  · unfold jRp
    rw [hi 20 2 (by decide), hi 24 2 (by decide)]
    exact h.p
  · rw [h24]; exact h.l.1
  · obtain ⟨j, a1, b1, q⟩ := (hp.2 (r21 i)).mp ⟨i, a, b, rfl⟩
    show pr σ (r21 i)
    rw [← q]
    exact (h.l.2.1 j a1 b1).2
  · obtain ⟨hB, hV, m1, m2, m3, m4, m5, m6⟩ := hM
    exact ⟨mB_ur hB (fun i => by have := hb i; omega), mVr_21 hV hb, m1, m2, m3, m4, m5, fun x hx => m6 x ((hil x).mp hx)⟩
/-- there is room on the ladder for one that is not on it -/
theorem lad_lt (h : jJ t κ σ) {e : Int} (he : pr σ e) (hl : lp σ e = -1) : σ 25 0 + 1 ≤ σ 19 0 := by
  have hV := h.V
  have hn := mV_n hV
  have h25 := hV.2.2.2.2.2.2.1
  have e1 : z_sm (fun i => (fun _ => (1 : Int)) (σ 21 i)) (σ 25 0) = z_sm (fun x => if lp σ x ≠ -1 then (1 : Int) else 0) (σ 19 0) :=
    jn_perm (f := fun _ => (1 : Int)) (P := fun x => lp σ x ≠ -1) h25.1 hn.1 (fun i a b => ⟨(h.1.l.2.1 i a b).2.1, (h.1.l.2.1 i a b).2.2.1, (lp_il _).mpr ⟨i, a, b, rfl⟩⟩) (fun i j a b c d q => h.1.l.2.2 i j a b c d q) (fun x _ _ q => (lp_il x).mp q)
  have e2 := z_sm_le (f := fun i => (fun _ => (1 : Int)) (σ 21 i)) (a := 1) (b := 1) h25.1 (fun i _ _ => ⟨Int.le_refl _, Int.le_refl _⟩)
  have e3 := jn_le (f := fun x => (if lp σ x ≠ -1 then (1 : Int) else 0) + (if x = e then (1 : Int) else 0)) (g := fun _ => (1 : Int)) (fun x => by
    by_cases c : x = e
    · subst c
      rw [if_neg (fun q => q hl), if_pos rfl]; omega
    · rw [if_neg c]
      split <;> omega) (σ 19 0) hn.1
  have e4 := z_sm_le (f := fun _ : Int => (1 : Int)) (a := 1) (b := 1) hn.1 (fun i _ _ => ⟨Int.le_refl _, Int.le_refl _⟩)
  rw [jn_add hn.1, jn_one (pr_b he), ← e1] at e3
  omega
theorem jJ_enter (h : jJ t κ σ) {e N : Int} (he : pr σ e) (hl : lp σ e = -1) : jJ t (kEn κ e (κ 1 0 0) N) (yEn σ e) := by
  have hlt := lad_lt h he hl
  have hV := h.V
  have h25 := hV.2.2.2.2.2.2.1
  have hn := mV_n hV
  have y21 : yEn σ e 21 = z_up (σ 21) (σ 25 0) e := by unfold yEn; rw [z_u_ne (by decide), z_u_ne (by decide), z_u_ne (by decide), z_u_eq]
  have y25 : yEn σ e 25 0 = σ 25 0 + 1 := by unfold yEn; rw [z_u_ne (by decide), z_u_ne (by decide)]; exact z_u_at
  have y22 : yEn σ e 22 = z_up (σ 22) e (σ 30 0) := by unfold yEn; rw [z_u_ne (by decide), z_u_eq, z_u_ne (by decide), z_u_ne (by decide)]
  have y23 : yEn σ e 23 = z_up (σ 23) e (-1) := by unfold yEn; rw [z_u_eq, z_u_ne (by decide), z_u_ne (by decide), z_u_ne (by decide)]
  have f1 : ∀ k, k ≠ 20 ∧ k ≠ 24 ∧ k ≠ 25 ∧ k ≠ 26 → k ≠ 39 → kEn κ e (κ 1 0 0) N k = κ k := fun k h1 h2 => by unfold kEn; rw [kAd_ne h1, k_u_ne h2]
  have f2 : ∀ (k : Nat) (i : Int), i ≠ 3 → k ≠ 39 → kEn κ e (κ 1 0 0) N k i = κ k i := fun k i h1 h2 => by unfold kEn; rw [kAd_ni h1, k_u_ne h2]
  have f39 : kEn κ e (κ 1 0 0) N 39 e 0 = κ 1 0 0 := by unfold kEn; rw [kAd_ne (by decide)]; exact k_u_at
  have f39x : ∀ x, x ≠ e → kEn κ e (κ 1 0 0) N 39 x = κ 39 x := fun x hx => by unfold kEn; rw [kAd_ne (by decide), k_u_ni hx]
  have f20 : kEn κ e (κ 1 0 0) N 20 3 = fun j => if j = κ 24 3 0 then e else κ 20 3 j := by unfold kEn; rw [kAd_20]
  have f24 : kEn κ e (κ 1 0 0) N 24 3 0 = κ 24 3 0 + 1 := by unfold kEn; rw [kAd_24, k_u_ne (by decide)]
  have hne : ¬ jIl σ e := fun q => (lp_il e).mpr q hl
  have u21n : z_up (σ 21) (σ 25 0) e (σ 25 0) = e := if_pos rfl
  have u21 : ∀ i, i ≠ σ 25 0 → z_up (σ 21) (σ 25 0) e i = σ 21 i := fun i hi => if_neg hi
  have hil : ∀ x, jIl (yEn σ e) x ↔ (jIl σ x ∨ x = e) := fun x => by
    unfold jIl
    rw [y25, y21]
    constructor
    · rintro ⟨i, a, b, q⟩
      by_cases c : i = σ 25 0
      · rw [c, u21n] at q; exact Or.inr q.symm
      · rw [u21 i c] at q; exact Or.inl ⟨i, a, by omega, q⟩
    · rintro (⟨i, a, b, q⟩ | q)
      · exact ⟨i, a, by omega, by rw [u21 i (by omega)]; exact q⟩
      · exact ⟨σ 25 0, h25.1, by omega, by rw [u21n]; exact q.symm⟩
  obtain ⟨hR, hM⟩ := h
  refine ⟨⟨?_, ?_, ?_, fun x h0 h1 => ?_, hR.2.2.2.2.1, ?_, ?_, ⟨?_, fun i a b => ?_, fun i j a b c d q => ?_⟩, hR.m, hR.k⟩, ?_⟩
  · unfold TR
    rw [f1 5 (by decide) (by decide), f1 4 (by decide) (by decide)]
    exact hR.t
  · unfold jRa
    rw [f1 0 (by decide) (by decide), f1 1 (by decide) (by decide), f1 18 (by decide) (by decide), f1 19 (by decide) (by decide), f2 24 0 (by decide) (by decide)]
    exact hR.a
  · unfold jRo
    rw [f1 16 (by decide) (by decide), f1 17 (by decide) (by decide), f1 12 (by decide) (by decide), f1 14 (by decide) (by decide)]
    exact hR.o
  · obtain ⟨q1, q2, q3, q4, q5, q6, q7⟩ := hR.e (e := x) ⟨h0, h1⟩
    unfold jRe jRt mrt
    rw [f1 30 (by decide) (by decide), f1 35 (by decide) (by decide), f1 36 (by decide) (by decide), f1 33 (by decide) (by decide), f1 32 (by decide) (by decide), f1 37 (by decide) (by decide), f1 38 (by decide) (by decide), f1 31 (by decide) (by decide), f1 40 (by decide) (by decide), y22, y23]
    refine ⟨q1, q2, q3, q4, q5, fun hc => ⟨(q6 hc).1, (q6 hc).2.1, fun z => ?_, fun z => (q6 hc).2.2.2 (fun w => z ((hil x).mpr (Or.inl w)))⟩, q7⟩
    by_cases c : x = e
    · subst c
      rw [f39, show z_up (σ 22) x (σ 30 0) x = σ 30 0 from if_pos rfl, show z_up (σ 23) x (-1) x = -1 from if_pos rfl]
      exact ⟨hR.a.2.1, (q6 hc).2.2.2 hne⟩
    · rw [f39x x c, show z_up (σ 22) e (σ 30 0) x = σ 22 x from if_neg c, show z_up (σ 23) e (-1) x = σ 23 x from if_neg c]
      exact (q6 hc).2.2.1 (((hil x).mp z).resolve_right c)
  · unfold jRs
    rw [f2 20 1 (by decide) (by decide), f2 24 1 (by decide) (by decide), f1 37 (by decide) (by decide)]
    exact hR.s
  · unfold jRp
    rw [f2 20 2 (by decide) (by decide), f2 24 2 (by decide) (by decide)]
    exact hR.p
  · rw [f24, y25, hR.l.1]
  · rw [y25] at b
    rw [f20, y21]
    show (if i = κ 24 3 0 then e else κ 20 3 i) = _ ∧ _
    rw [hR.l.1]
    by_cases c : i = σ 25 0
    · subst c
      rw [if_pos rfl, u21n]; exact ⟨rfl, he⟩
    · rw [if_neg c, u21 i c]; exact hR.l.2.1 i a (by omega)
  · rw [y25] at b d
    rw [y21] at q
    by_cases c1 : i = σ 25 0
    · by_cases c2 : j = σ 25 0
      · omega
      · rw [c1, u21n, u21 j c2] at q
        exact absurd ⟨j, c, by omega, q.symm⟩ hne
    · by_cases c2 : j = σ 25 0
      · rw [c2, u21n, u21 i c1] at q
        exact absurd ⟨i, a, by omega, q⟩ hne
      · rw [u21 i c1, u21 j c2] at q
        exact hR.l.2.2 i j a (by omega) c (by omega) q
  · obtain ⟨hB, hV, m1, m2, m3, m4, m5, m6⟩ := hM
    have hb30 := hV.2.2.2.2.2.2.2.2.2.1
    have hv1 : mV (z_u σ 21 (σ 25 0) e) := mVu_21 hV (by have := he.1; have := he.2.1; omega)
    have hv2 : mV (z_u (z_u σ 21 (σ 25 0) e) 25 0 (σ 25 0 + 1)) := mVu_25 hv1 (by omega)
    refine ⟨?_, hv2, m1, m2, m3, m4, m5, fun x hx => ?_⟩
    · unfold yEn
      exact mB_u (mB_u (mB_u (mB_u hB (by have := he.1; have := he.2.1; omega)) (by omega)) (by omega)) (by omega)
    · rw [y22]
      by_cases c : x = e
      · rw [show z_up (σ 22) e (σ 30 0) x = σ 30 0 from if_pos c]; exact hb30.1
      · rw [show z_up (σ 22) e (σ 30 0) x = σ 22 x from if_neg c]; exact m6 x (((hil x).mp hx).resolve_right c)
theorem jJ_ch0 (h : jJ t κ σ) {e o : Int} (he : jIl σ e) (ho : jIl σ o) : jJ t (kCh κ e o) (z_u (z_u σ 23 e (σ 30 0)) 23 o (σ 30 0)) := by
  obtain ⟨hR, hM⟩ := h
  have f1 : ∀ k, k ≠ 40 → kCh κ e o k = κ k := fun k hk => by unfold kCh; rw [k_u_ne hk, k_u_ne hk]
  have f40 : ∀ x, x ≠ e → x ≠ o → kCh κ e o 40 x = κ 40 x := fun x h1 h2 => by unfold kCh; rw [k_u_ni h2, k_u_ni h1]
  have fo : kCh κ e o 40 o 0 = κ 1 0 0 := by unfold kCh; exact k_u_at
  have fe : kCh κ e o 40 e 0 = κ 1 0 0 := by
    unfold kCh
    by_cases c : e = o
    · subst c; exact k_u_at
    · rw [k_u_ni c]; exact k_u_at
  have y23 : z_u (z_u σ 23 e (σ 30 0)) 23 o (σ 30 0) 23 = z_up (z_up (σ 23) e (σ 30 0)) o (σ 30 0) := by rw [z_u_eq, z_u_eq]
  refine ⟨⟨?_, ?_, ?_, fun x h0 h1 => ?_, hR.2.2.2.2.1, ?_, ?_, ?_, hR.m, hR.k⟩, ?_⟩
  · unfold TR
    rw [f1 5 (by decide), f1 4 (by decide)]
    exact hR.t
  · unfold jRa
    rw [f1 0 (by decide), f1 1 (by decide), f1 18 (by decide), f1 19 (by decide), f1 24 (by decide)]
    exact hR.a
  · unfold jRo
    rw [f1 16 (by decide), f1 17 (by decide), f1 12 (by decide), f1 14 (by decide)]
    exact hR.o
  · obtain ⟨q1, q2, q3, q4, q5, q6, q7⟩ := hR.e (e := x) ⟨h0, h1⟩
    unfold jRe jRt mrt
    rw [f1 30 (by decide), f1 35 (by decide), f1 36 (by decide), f1 33 (by decide), f1 32 (by decide), f1 37 (by decide), f1 38 (by decide), f1 31 (by decide), f1 39 (by decide), y23]
    refine ⟨q1, q2, q3, q4, q5, fun hc => ⟨(q6 hc).1, (q6 hc).2.1, fun z => ⟨((q6 hc).2.2.1 z).1, ?_⟩, fun z => ?_⟩, q7⟩
    · by_cases c1 : x = o
      · subst c1
        rw [fo, show z_up (z_up (σ 23) e (σ 30 0)) x (σ 30 0) x = σ 30 0 from if_pos rfl]
        exact hR.a.2.1
      · rw [show z_up (z_up (σ 23) e (σ 30 0)) o (σ 30 0) x = z_up (σ 23) e (σ 30 0) x from if_neg c1]
        by_cases c2 : x = e
        · subst c2
          rw [fe, show z_up (σ 23) x (σ 30 0) x = σ 30 0 from if_pos rfl]
          exact hR.a.2.1
        · rw [f40 x c2 c1, show z_up (σ 23) e (σ 30 0) x = σ 23 x from if_neg c2]
          exact ((q6 hc).2.2.1 z).2
    · have c1 : x ≠ o := fun q => z (by rw [q]; exact ho)
      have c2 : x ≠ e := fun q => z (by rw [q]; exact he)
      rw [f40 x c2 c1]
      exact (q6 hc).2.2.2 z
  · unfold jRs
    rw [f1 20 (by decide), f1 24 (by decide), f1 37 (by decide)]
    exact hR.s
  · unfold jRp
    rw [f1 20 (by decide), f1 24 (by decide)]
    exact hR.p
  · unfold jRl
    rw [f1 20 (by decide), f1 24 (by decide)]
    exact hR.l
  · obtain ⟨hB, hV, m1, m2, m3, m4, m5, m6⟩ := hM
    have hb30 := hB 30 0
    exact ⟨mB_u (mB_u hB hb30) hb30, hV, m1, m2, m3, m4, m5, m6⟩
theorem jJ_ch1 (h : jJ t κ σ) {e o N : Int} (he : lp σ e ≠ -1) (ho : lp σ o ≠ -1) (hab : lp σ o < lp σ e) {w : Int} (hw : w ≠ 0) : jJ t (kRz (kCh κ e o) (lp σ e) (lp σ o) N) (yCh σ e o w) := by
  have h0 := jJ_ch0 h ((lp_il e).mp he) ((lp_il o).mp ho)
  obtain ⟨b1, b2, b3, b4⟩ := (lp_b h.V (e := e)).resolve_left he
  obtain ⟨a1, a2, a3, a4⟩ := (lp_b h.V (e := o)).resolve_left ho
  have hl := h.1.l
  have hV := h.V
  have h21 := hV.2.2.2.2.2.2.2.1
  have ey : yCh σ e o w = z_ur (z_u (z_u σ 23 e (σ 30 0)) 23 o (σ 30 0)) 21 (z_up (fun i => if lp σ o - 1 < i ∧ i ≤ lp σ e - 1 then σ 21 (i - 1) else σ 21 i) (lp σ o - 1) e) := by
    unfold yCh
    rw [if_neg hw]
    exact z_ur_u (if_pos rfl) (fun j hj => if_neg hj)
  have g20 : kCh κ e o 20 = κ 20 := by unfold kCh; rw [k_u_ne (by decide), k_u_ne (by decide)]
  have g24 : kCh κ e o 24 = κ 24 := by unfold kCh; rw [k_u_ne (by decide), k_u_ne (by decide)]
  rw [ey]
  refine jJ_lad h0 (fun k c1 c2 c3 c4 => ?_) (fun k i hi => ?_) ?_ (fun i a b => ?_) ?_ (fun i => ?_)
  · unfold kRz kRs
    rw [kAd_ne ⟨c1, c2, c3, c4⟩, kRw_ne ⟨c1, c2, c3⟩]
  · unfold kRz kRs
    rw [kAd_ni hi, kRw_ni hi]
  · unfold kRz kRs
    rw [kAd_24, kRw_24]
    omega
  · have b' : i < σ 25 0 := b
    unfold kRz
    rw [kAd_20]
    show (if i < lp σ o - 1 then kRs (kCh κ e o) (lp σ e) 20 3 i else if i = lp σ o - 1 then kCh κ e o 20 3 (lp σ e - 1) else kRs (kCh κ e o) (lp σ e) 20 3 (i - 1)) = (if i = lp σ o - 1 then e else if lp σ o - 1 < i ∧ i ≤ lp σ e - 1 then σ 21 (i - 1) else σ 21 i)
    have hr : ∀ j, kRs (kCh κ e o) (lp σ e) 20 3 j = if j < lp σ e - 1 then κ 20 3 j else κ 20 3 (j + 1) := fun j => by
      unfold kRs
      rw [kRw_20]
      show (if j < lp σ e - 1 then kCh κ e o 20 3 j else kCh κ e o 20 3 (j + 1)) = _
      rw [g20]
    rw [hr, hr, g20]
    by_cases c1 : i = lp σ o - 1
    · rw [if_neg (by omega), if_pos c1, if_pos c1, (hl.2.1 (lp σ e - 1) (by omega) (by omega)).1]
      exact b4
    · rw [if_neg c1, if_neg c1]
      by_cases c2 : i < lp σ o - 1
      · rw [if_pos c2, if_pos (by omega), if_neg (by omega)]
        exact (hl.2.1 i a b').1
      · rw [if_neg c2]
        by_cases c3 : i ≤ lp σ e - 1
        · rw [if_pos (by omega), if_pos (by omega)]
          exact (hl.2.1 (i - 1) (by omega) (by omega)).1
        · rw [if_neg (by omega), if_neg (by omega), show i - 1 + 1 = i by omega]
          exact (hl.2.1 i a b').1
  · refine jPm_m (F := σ 21) (m := fun i => if i = lp σ o - 1 then lp σ e - 1 else if lp σ o - 1 < i ∧ i ≤ lp σ e - 1 then i - 1 else i) (m' := fun i => if i = lp σ e - 1 then lp σ o - 1 else if lp σ o - 1 ≤ i ∧ i < lp σ e - 1 then i + 1 else i) ⟨hl.2.2, fun x => Iff.rfl⟩ (fun i a b => ?_) (fun i a b => ?_) (fun i a b => ?_)
    · show (if i = lp σ o - 1 then e else if lp σ o - 1 < i ∧ i ≤ lp σ e - 1 then σ 21 (i - 1) else σ 21 i) = σ 21 (if i = lp σ o - 1 then lp σ e - 1 else if lp σ o - 1 < i ∧ i ≤ lp σ e - 1 then i - 1 else i)
      split
      · exact b4.symm
      · split <;> rfl
    · have b' : i < σ 25 0 := b
      show 0 ≤ (if i = lp σ o - 1 then lp σ e - 1 else if lp σ o - 1 < i ∧ i ≤ lp σ e - 1 then i - 1 else i) ∧ (if i = lp σ o - 1 then lp σ e - 1 else if lp σ o - 1 < i ∧ i ≤ lp σ e - 1 then i - 1 else i) < σ 25 0 ∧ (if (if i = lp σ o - 1 then lp σ e - 1 else if lp σ o - 1 < i ∧ i ≤ lp σ e - 1 then i - 1 else i) = lp σ e - 1 then lp σ o - 1 else if lp σ o - 1 ≤ (if i = lp σ o - 1 then lp σ e - 1 else if lp σ o - 1 < i ∧ i ≤ lp σ e - 1 then i - 1 else i) ∧ (if i = lp σ o - 1 then lp σ e - 1 else if lp σ o - 1 < i ∧ i ≤ lp σ e - 1 then i - 1 else i) < lp σ e - 1 then (if i = lp σ o - 1 then lp σ e - 1 else if lp σ o - 1 < i ∧ i ≤ lp σ e - 1 then i - 1 else i) + 1 else (if i = lp σ o - 1 then lp σ e - 1 else if lp σ o - 1 < i ∧ i ≤ lp σ e - 1 then i - 1 else i)) = i
      by_cases c1 : i = lp σ o - 1
      · rw [if_pos c1, if_pos rfl]; omega
      · rw [if_neg c1]
        by_cases c2 : lp σ o - 1 < i ∧ i ≤ lp σ e - 1
        · rw [if_pos c2, if_neg (by omega), if_pos (by omega)]; omega
        · rw [if_neg c2, if_neg (by omega), if_neg (by omega)]; omega
    · have b' : i < σ 25 0 := b
      show 0 ≤ (if i = lp σ e - 1 then lp σ o - 1 else if lp σ o - 1 ≤ i ∧ i < lp σ e - 1 then i + 1 else i) ∧ (if i = lp σ e - 1 then lp σ o - 1 else if lp σ o - 1 ≤ i ∧ i < lp σ e - 1 then i + 1 else i) < σ 25 0 ∧ (if (if i = lp σ e - 1 then lp σ o - 1 else if lp σ o - 1 ≤ i ∧ i < lp σ e - 1 then i + 1 else i) = lp σ o - 1 then lp σ e - 1 else if lp σ o - 1 < (if i = lp σ e - 1 then lp σ o - 1 else if lp σ o - 1 ≤ i ∧ i < lp σ e - 1 then i + 1 else i) ∧ (if i = lp σ e - 1 then lp σ o - 1 else if lp σ o - 1 ≤ i ∧ i < lp σ e - 1 then i + 1 else i) ≤ lp σ e - 1 then (if i = lp σ e - 1 then lp σ o - 1 else if lp σ o - 1 ≤ i ∧ i < lp σ e - 1 then i + 1 else i) - 1 else (if i = lp σ e - 1 then lp σ o - 1 else if lp σ o - 1 ≤ i ∧ i < lp σ e - 1 then i + 1 else i)) = i
      by_cases c1 : i = lp σ e - 1
      · rw [if_pos c1, if_pos rfl]; omega
      · rw [if_neg c1]
        by_cases c2 : lp σ o - 1 ≤ i ∧ i < lp σ e - 1
        · rw [if_pos c2, if_neg (by omega), if_pos (by omega)]; omega
        · rw [if_neg c2, if_neg (by omega), if_neg (by omega)]; omega
  · show 0 ≤ (if i = lp σ o - 1 then e else if lp σ o - 1 < i ∧ i ≤ lp σ e - 1 then σ 21 (i - 1) else σ 21 i) ∧ (if i = lp σ o - 1 then e else if lp σ o - 1 < i ∧ i ≤ lp σ e - 1 then σ 21 (i - 1) else σ 21 i) < 30
    split
    · rw [← b4]; exact h21 _
    · split
      · exact h21 _
      · exact h21 _
theorem yCh_0 (σ : z_S) (e o w : Int) : yCh σ e o w 0 = σ 0 := by
  unfold yCh
  split
  · rw [z_u_ne (by decide), z_u_ne (by decide)]
  · rw [z_u_ne (by decide), z_ur_ne (by decide), z_u_ne (by decide), z_u_ne (by decide)]
theorem yEn_0 (σ : z_S) (e : Int) : yEn σ e 0 = σ 0 := by
  unfold yEn
  rw [z_u_ne (by decide), z_u_ne (by decide), z_u_ne (by decide), z_u_ne (by decide)]
end LAD
section LAE
end LAE
