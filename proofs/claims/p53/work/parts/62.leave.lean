/-! ONE LEAVES. -/
section LEA
theorem z_ur3 {σ ρ : z_S} {a b c : Nat} (hab : a ≠ b ∧ a ≠ c ∧ b ≠ c) (h : ∀ k, k ≠ a → k ≠ b → k ≠ c → ρ k = σ k) : ρ = z_ur (z_ur (z_ur σ a (ρ a)) b (ρ b)) c (ρ c) := by
  funext k
  by_cases hc : k = c
  · subst hc; rw [z_ur_at]
  · rw [z_ur_ne hc]
    by_cases hb : k = b
    · subst hb; rw [z_ur_at]
    · rw [z_ur_ne hb]
      by_cases ha : k = a
      · subst ha; rw [z_ur_at]
      · rw [z_ur_ne ha]
        exact h k ha hb hc
variable {t : Nat} {κ : c_K} {σ : z_S}
theorem kLv_k {e : Int} {k : Nat} (h : k ≠ 20 ∧ k ≠ 24 ∧ k ≠ 25 ∧ k ≠ 36 ∧ k ≠ 37) : kLv κ e k = κ k := by
  unfold kLv
  rw [k_u_ne h.2.2.2.2, k_u_ne h.2.2.2.1, kTl_ne ⟨h.1, h.2.1, h.2.2.1⟩, kTp_ne ⟨h.1, h.2.1, h.2.2.1⟩, kTa_ne ⟨h.1, h.2.1, h.2.2.1, h.2.2.2.2⟩]
theorem kLv_l {e : Int} {k : Nat} (h : k ≠ 36 ∧ k ≠ 37) : kLv κ e k = kTl (kTp (kTa κ e) e) e k := by
  unfold kLv
  rw [k_u_ne h.2, k_u_ne h.1]
theorem kLv_37 {e x : Int} (h : x ≠ e) : kLv κ e 37 x = kTa κ e 37 x := by
  unfold kLv
  rw [k_u_ni h, k_u_ne (by decide), kTl_ne (by decide), kTp_ne (by decide)]
theorem kLv_37e {e : Int} : kLv κ e 37 e 0 = -1 := k_u_at
theorem kLv_36 {e x : Int} (h : x ≠ e) : kLv κ e 36 x = κ 36 x := by
  unfold kLv
  rw [k_u_ne (by decide), k_u_ni h, kTl_ne (by decide), kTp_ne (by decide), kTa_ne (by decide)]
theorem kLv_36e {e : Int} : kLv κ e 36 e 0 = 0 := by
  unfold kLv
  rw [k_u_ne (by decide)]
  exact k_u_at
theorem kLv_r {e i : Int} {k : Nat} (h : k ≠ 36 ∧ k ≠ 37) (h1 : i ≠ 1) (h2 : i ≠ 2) (h3 : i ≠ 3) : kLv κ e k i = κ k i := by
  rw [kLv_l h, kTl_ni h3, kTp_ni h2, kTa_ni h.2 h1]
theorem jR_leave (h : jR κ σ) {e : Int} (he : pr σ e) {r18 r25 r21 : Int → Int} (h18e : r18 e = 0) (h18 : ∀ x, x ≠ e → r18 x = σ 18 x) (l1 : kLv κ e 24 3 0 = r25 0) (l2 : ∀ i, 0 ≤ i → i < r25 0 → kLv κ e 20 3 i = r21 i ∧ pr σ (r21 i) ∧ r21 i ≠ e) (l3 : ∀ i j, 0 ≤ i → i < r25 0 → 0 ≤ j → j < r25 0 → r21 i = r21 j → i = j) (l4 : ∀ x, x ≠ e → ((∃ i, 0 ≤ i ∧ i < r25 0 ∧ r21 i = x) ↔ jIl σ x)) : jR (kLv κ e) (z_ur (z_ur (z_ur σ 21 r21) 25 r25) 18 r18) := by
  obtain ⟨sA, sB⟩ := Ta_st (hh_o σ) h.s he
  have pA := Tp_st (κ := kTa κ e) (P := pr σ) (pp_o σ) (by rw [kTa_ni (k := 20) (by decide) (by decide), kTa_ni (k := 24) (by decide) (by decide)]; exact h.p) he
  have hP : ∀ x, pr (z_ur (z_ur (z_ur σ 21 r21) 25 r25) 18 r18) x ↔ (pr σ x ∧ x ≠ e) := fun x => by
    show (0 ≤ x ∧ x < σ 19 0 ∧ r18 x ≠ 0) ↔ _
    by_cases c : x = e
    · subst c
      exact ⟨fun q => absurd h18e q.2.2, fun q => absurd rfl q.2⟩
    · rw [h18 x c]
      exact ⟨fun q => ⟨q, c⟩, fun q => q.1⟩
  refine ⟨?_, ?_, ?_, fun x h0 h1 => ?_, fun x h0 h1 => ?_, ?_, ?_, ?_, ?_, h.k⟩
  · unfold TR
    rw [kLv_k (by decide), kLv_k (by decide)]
    exact h.t
  · unfold jRa
    rw [kLv_k (by decide), kLv_k (by decide), kLv_k (by decide), kLv_k (by decide), kLv_r (by decide) (by omega) (by omega) (by omega)]
    exact h.a
  · unfold jRo
    rw [kLv_k (by decide), kLv_k (by decide), kLv_k (by decide), kLv_k (by decide)]
    exact h.o
  · obtain ⟨q1, q2, q3, q4, q5, q6, q7⟩ := h.e (e := x) ⟨h0, h1⟩
    refine ⟨fun k a b => ?_, ?_, ?_, fun j a b c => ?_, fun r a b c => ?_, fun hc => ?_, fun hc => ?_⟩
    · rw [kLv_k (by decide)]; exact q1 k a b
    · rw [kLv_k (by decide)]; exact q2
    · show _ = r18 x
      by_cases c : x = e
      · subst c; rw [kLv_36e, h18e]
      · rw [kLv_36 c, h18 x c]; exact q3
    · rw [kLv_k (by decide)]; exact q4 j a b c
    · rw [kLv_k (by decide)]; exact q5 r a b c
    · have hx : x ≠ e := fun q => hc (by show r18 x = 0; rw [q]; exact h18e)
      obtain ⟨a1, a2, a3, a4⟩ := q6 (by rw [← h18 x hx]; exact hc)
      refine ⟨?_, fun c b1 b2 => ?_, fun hi => ?_, fun hi => ?_⟩
      · rw [kLv_k (by decide)]; exact a1
      · rw [kLv_k (by decide)]; exact a2 c b1 b2
      · rw [kLv_k (by decide), kLv_k (by decide)]; exact a3 ((l4 x hx).mp hi)
      · rw [kLv_k (by decide)]; exact a4 (fun q => hi ((l4 x hx).mpr q))
    · by_cases c : x = e
      · subst c; exact kLv_37e
      · have hc2 : σ 18 x = 0 := by rw [← h18 x c]; exact hc
        rw [kLv_37 c, sB x (fun q => q.2.2 hc2)]
        exact q7 hc2
  · have q := h.z (e := x) ⟨h0, h1⟩
    have hx : x ≠ e := fun q => by have := he.2.1; have : σ 19 0 ≤ x := h0; omega
    exact ⟨q.1, (h18 x hx).trans q.2.1, q.2.2⟩
  · have e20 : kLv κ e 20 1 = kTa κ e 20 1 := by rw [kLv_l (by decide), kTl_ni (by decide), kTp_ni (by decide)]
    have e24 : kLv κ e 24 1 = kTa κ e 24 1 := by rw [kLv_l (by decide), kTl_ni (by decide), kTp_ni (by decide)]
    unfold jRs
    rw [e20, e24]
    refine ⟨jS_cg (lt := hh σ) (P := fun x => pr σ x ∧ x ≠ e) sA.1 rfl (fun _ _ _ => rfl) hP (fun _ _ _ _ z => z), fun i h0 h1 => ?_⟩
    rw [kLv_37 (sA.1.2.1 i h0 h1).2]
    exact sA.2 i h0 h1
  · have e20 : kLv κ e 20 2 = kTp (kTa κ e) e 20 2 := by rw [kLv_l (by decide), kTl_ni (by decide)]
    have e24 : kLv κ e 24 2 = kTp (kTa κ e) e 24 2 := by rw [kLv_l (by decide), kTl_ni (by decide)]
    unfold jRp
    rw [e20, e24]
    exact jS_cg (lt := pp σ) (P := fun x => pr σ x ∧ x ≠ e) pA rfl (fun _ _ _ => rfl) hP (fun _ _ _ _ z => z)
  · exact ⟨l1, fun i a b => ⟨(l2 i a b).1, (hP _).mpr (l2 i a b).2⟩, l3⟩
  · exact ⟨fun x hx => h.m.1 x ((hP x).mp hx).1, fun x o hx ho q => h.m.2 x o ((hP x).mp hx).1 ((hP o).mp ho).1 q⟩
theorem jJ_leave (h : jJ t κ σ) {e : Int} (he : pr σ e) : jJ t (kLv κ e) (yLv σ e) := by
  have hlp := h.1.aLp e
  have hlb := lp_b h.V (e := e)
  have hl := h.1.l
  have hV := h.V
  have h25 := hV.2.2.2.2.2.2.1
  have c20 : kTp (kTa κ e) e 20 3 = κ 20 3 := by rw [kTp_ni (by decide), kTa_ni (by decide) (by decide)]
  have c24 : kTp (kTa κ e) e 24 3 = κ 24 3 := by rw [kTp_ni (by decide), kTa_ni (by decide) (by decide)]
  have c25 : kTp (kTa κ e) e 25 3 = κ 25 3 := by rw [kTp_ni (by decide), kTa_ni (by decide) (by decide)]
  have hcl : cLp (kTp (kTa κ e) e) e = lp σ e := by
    unfold cLp at hlp ⊢
    rw [c20, c24]
    exact hlp
  by_cases c : lp σ e = -1
  · have e1 : kTl (kTp (kTa κ e) e) e = kTp (kTa κ e) e := by
      unfold kTl
      rw [if_pos (hcl.trans c)]
    have e2 : yLv σ e = z_ur (z_ur (z_ur σ 21 (σ 21)) 25 (σ 25)) 18 (z_up (σ 18) e 0) := by
      unfold yLv
      rw [if_pos c]
      have q := z_ur3 (σ := σ) (ρ := z_u σ 18 e 0) (a := 21) (b := 25) (c := 18) (by decide) (fun k _ _ hk => z_u_ne hk)
      rw [z_u_ne (k' := 21) (by decide), z_u_ne (k' := 25) (by decide), z_u_eq] at q
      exact q
    have hn : ∀ i, 0 ≤ i → i < σ 25 0 → σ 21 i ≠ e := fun i a b q => (lp_il e).mpr ⟨i, a, b, q⟩ c
    refine ⟨?_, ?_⟩
    · rw [e2]
      refine jR_leave h.1 he (if_pos rfl) (fun x hx => if_neg hx) ?_ (fun i a b => ⟨?_, (hl.2.1 i a b).2, hn i a b⟩) hl.2.2 (fun x _ => Iff.rfl)
      · rw [kLv_l (by decide), e1, c24]; exact hl.1
      · rw [kLv_l (by decide), e1, c20]; exact (hl.2.1 i a b).1
    · obtain ⟨-, hB, hV, m1, m2, m3, m4, m5, m6⟩ := h
      unfold yLv
      rw [if_pos c]
      exact ⟨mB_u hB (by omega), mVu_18 hV (Or.inl rfl), m1, m2, m3, m4, m5, m6⟩
  · obtain ⟨b1, b2, b3, b4⟩ := hlb.resolve_left c
    have e1 : kTl (kTp (kTa κ e) e) e = kRw (kTp (kTa κ e) e) 3 (fDl (kTp (kTa κ e) e) 3 (lp σ e - 1)) (κ 24 3 0 - 1) (kW (κ 25 3 0)) := by
      unfold kTl
      rw [if_neg (by rw [hcl]; exact c), hcl, c24, c25]
    have hd : ∀ i, 0 ≤ i → i < σ 25 0 → i ≠ lp σ e - 1 → σ 21 i ≠ e := fun i a b hi q => hi (hl.2.2 i (lp σ e - 1) a b (by omega) (by omega) (q.trans b4.symm))
    have e2 : yLv σ e = z_ur (z_ur (z_ur σ 21 (fun i => if lp σ e - 1 ≤ i ∧ i < σ 25 0 - 1 then σ 21 (i + 1) else σ 21 i)) 25 (z_up (σ 25) 0 (σ 25 0 - 1))) 18 (z_up (σ 18) e 0) := by
      unfold yLv
      rw [if_neg c]
      have q := z_ur3 (σ := σ) (ρ := z_ur (z_u (z_u σ 18 e 0) 25 0 (σ 25 0 - 1)) 21 (fun i => if lp σ e - 1 ≤ i ∧ i < σ 25 0 - 1 then σ 21 (i + 1) else σ 21 i)) (a := 21) (b := 25) (c := 18) (by decide) (fun k h1 h2 h3 => by rw [z_ur_ne h1, z_u_ne h2, z_u_ne h3])
      rw [z_ur_at, z_ur_ne (k' := 25) (by decide), z_u_eq (k := 25), z_u_ne (k' := 25) (by decide), z_ur_ne (k' := 18) (by decide), z_u_ne (k := 25) (k' := 18) (by decide), z_u_eq] at q
      exact q
    have r25 : z_up (σ 25) 0 (σ 25 0 - 1) 0 = σ 25 0 - 1 := if_pos rfl
    have hf : ∀ i, 0 ≤ i → i < σ 25 0 - 1 → ∃ j, (0 ≤ j ∧ j < σ 25 0) ∧ j ≠ lp σ e - 1 ∧ (if lp σ e - 1 ≤ i ∧ i < σ 25 0 - 1 then σ 21 (i + 1) else σ 21 i) = σ 21 j ∧ j = if i < lp σ e - 1 then i else i + 1 := fun i a b => by
      by_cases c1 : i < lp σ e - 1
      · exact ⟨i, by omega, by omega, if_neg (by omega), (if_pos c1).symm⟩
      · exact ⟨i + 1, by omega, by omega, if_pos (by omega), (if_neg c1).symm⟩
    refine ⟨?_, ?_⟩
    · rw [e2]
      refine jR_leave h.1 he (if_pos rfl) (fun x hx => if_neg hx) ?_ (fun i a b => ?_) (fun i j a b a' b' q => ?_) (fun x hx => ⟨?_, ?_⟩)
      · rw [kLv_l (by decide), e1, kRw_24, r25, hl.1]
      · rw [r25] at b
        obtain ⟨j, j1, j2, j3, j4⟩ := hf i a b
        refine ⟨?_, ?_⟩
        · rw [kLv_l (by decide), e1, kRw_20]
          show (if i < lp σ e - 1 then kTp (kTa κ e) e 20 3 i else kTp (kTa κ e) e 20 3 (i + 1)) = (if lp σ e - 1 ≤ i ∧ i < σ 25 0 - 1 then σ 21 (i + 1) else σ 21 i)
          rw [c20, j3, j4]
          by_cases c1 : i < lp σ e - 1
          · rw [if_pos c1, if_pos c1]; exact (hl.2.1 i a (by omega)).1
          · rw [if_neg c1, if_neg c1]; exact (hl.2.1 (i + 1) (by omega) (by omega)).1
        · show pr σ (if lp σ e - 1 ≤ i ∧ i < σ 25 0 - 1 then σ 21 (i + 1) else σ 21 i) ∧ (if lp σ e - 1 ≤ i ∧ i < σ 25 0 - 1 then σ 21 (i + 1) else σ 21 i) ≠ e
          rw [j3]
          exact ⟨(hl.2.1 j j1.1 j1.2).2, hd j j1.1 j1.2 j2⟩
      · rw [r25] at b b'
        obtain ⟨u, u1, u2, u3, u4⟩ := hf i a b
        obtain ⟨w, w1, w2, w3, w4⟩ := hf j a' b'
        have q2 := hl.2.2 u w u1.1 u1.2 w1.1 w1.2 (u3.symm.trans (Eq.trans q w3))
        split at u4 <;> split at w4 <;> omega
      · rintro ⟨i, a, b, q⟩
        rw [r25] at b
        obtain ⟨j, j1, j2, j3, j4⟩ := hf i a b
        exact ⟨j, j1.1, j1.2, j3.symm.trans q⟩
      · rintro ⟨i, a, b, q⟩
        have hi : i ≠ lp σ e - 1 := fun z => hx (by rw [← q, z]; exact b4)
        by_cases c1 : i < lp σ e - 1
        · exact ⟨i, a, by rw [r25]; omega, by show (if lp σ e - 1 ≤ i ∧ i < σ 25 0 - 1 then σ 21 (i + 1) else σ 21 i) = x; rw [if_neg (by omega)]; exact q⟩
        · exact ⟨i - 1, by omega, by rw [r25]; omega, by show (if lp σ e - 1 ≤ i - 1 ∧ i - 1 < σ 25 0 - 1 then σ 21 (i - 1 + 1) else σ 21 (i - 1)) = x; rw [if_pos (by omega), show i - 1 + 1 = i by omega]; exact q⟩
    · obtain ⟨-, hB, hV, m1, m2, m3, m4, m5, m6⟩ := h
      have hf2 : ∀ j, 0 ≤ (fun i => if lp σ e - 1 ≤ i ∧ i < σ 25 0 - 1 then σ 21 (i + 1) else σ 21 i) j ∧ (fun i => if lp σ e - 1 ≤ i ∧ i < σ 25 0 - 1 then σ 21 (i + 1) else σ 21 i) j < 30 := fun j => by
        show 0 ≤ (if lp σ e - 1 ≤ j ∧ j < σ 25 0 - 1 then σ 21 (j + 1) else σ 21 j) ∧ (if lp σ e - 1 ≤ j ∧ j < σ 25 0 - 1 then σ 21 (j + 1) else σ 21 j) < 30
        have a := hV.2.2.2.2.2.2.2.1
        split
        · exact a _
        · exact a _
      unfold yLv
      rw [if_neg c]
      refine ⟨mB_ur (mB_u (mB_u hB (by omega)) (by omega)) (fun i => ⟨Int.le_trans (by decide) (hf2 i).1, Int.le_trans (Int.le_of_lt (hf2 i).2) (by decide)⟩), mVr_21 (mVu_25 (mVu_18 hV (Or.inl rfl)) (by omega)) hf2, m1, m2, m3, m4, m5, fun x => ?_⟩
      rintro ⟨i, a, b, q⟩
      have b' : i < σ 25 0 - 1 := by
        have b2 : i < z_u (z_u σ 18 e 0) 25 0 (σ 25 0 - 1) 25 0 := b
        rw [z_u_at] at b2
        exact b2
      obtain ⟨j, j1, j2, j3, j4⟩ := hf i a b'
      exact m6 x ⟨j, j1.1, j1.2, j3.symm.trans q⟩
theorem cX_of (h : jJ t κ σ) {e : Int} (he : pr σ e) : cX κ e := by
  obtain ⟨i, hi, hp⟩ := h.1.yix he
  have a := h.1.xpl h.V he
  have b := (h.1.e (pr_b he)).2.2.2.2.2.1 he.2.2
  have c := h.b17 e
  have d := h.1.xpts (pr_b he)
  refine ⟨by rw [← a.1]; exact ⟨a.2.1, a.2.2.1⟩, ?_, by rw [b.1, d]; omega⟩
  rw [jn_ff (P := fun j => κ 20 2 j = e) (a := i) (n := κ 24 2 0) hi hp (fun j u v q => by have := jS_inj (pp_o σ) h.1.p ⟨u, by omega⟩ hi (q.trans hp.symm); omega)]
  omega
end LEA
section LEB
end LEB
