/-! ONE COMES, scores, enters, sets reach and patience: the law's numbers beside the model's. -/
section MUT
variable {t : Nat} {m : Int} {o : Prop} {B B' : Nat → Int → Nat} {κ κ' : c_K} {A : Nat → Nat} {ρ σ : z_S}
theorem w_come (h : gS t m o B κ A ρ σ) (ht : t ≤ 511) (hc : σ 14 0 < 30) {g X N N1 N2 : Int} (hg : 0 ≤ g ∧ g ≤ 3) (hX : -2147483648 ≤ X ∧ X ≤ 2147483647) (hk : κ' = kPp (kSp (kJd (kNe κ g N) (κ 17 0 0) (κ 24 0 0)) (κ 24 0 0) N1) (κ 24 0 0) N2) (hX' : gXX B' κ' A) (hJ' : cJ B' κ') (hV' : cV κ' ∧ cS κ') : gS (t + 1) m o B' κ' A (yCo ρ g) (z_u (z_u (z_u (z_u σ 14 0 (σ 14 0 + 1)) 7 (σ 14 0) 1) 0 0 X) 3 (σ 14 0) g) := by
  have hlad := (w_lad h).2
  obtain ⟨hX, hJ, hVS, hj, ⟨⟨s1, s2, s3, s4, s5⟩, ⟨e1, e2, e3, e4⟩, ⟨l1, l2⟩, hgg, htt⟩, hB, hp, hO⟩ := h
  have b14 := hB.s14 0
  refine ⟨hX', hJ', hV', hk ▸ jJ_come hj hVS.2 ht (by omega) (by omega), ⟨⟨?_, s2, s3, s4, s5⟩, ⟨e1, fun e h0 h1 => ?_, fun e h0 h1 => ?_, e4⟩, ⟨l1, fun i h0 h1 => ?_⟩, hgg, htt⟩, ?_, hp, hO⟩
  · rw [yCo_19, s1]
    rfl
  · have h1 : e < σ 14 0 + 1 := h1
    by_cases c : e = σ 14 0
    · have e9 : yCo ρ g 15 (ρ 19 0) = g := yCo_15n
      rw [s1] at e9
      rw [c, e9]
      exact z_u_at.symm
    · rw [yCo_15 (by omega)]
      exact (e2 e h0 (by omega)).trans (z_u_at' c).symm
  · show yCo ρ g 18 e = z_u (z_u σ 14 0 (σ 14 0 + 1)) 7 (σ 14 0) 1 7 e
    by_cases c : e = σ 14 0
    · have e9 : yCo ρ g 18 (ρ 19 0) = 1 := yCo_18n
      rw [s1] at e9
      rw [c, e9]
      exact z_u_at.symm
    · rw [yCo_18 (by omega)]
      exact (e3 e h0 h1).trans (z_u_at' c).symm
  · have h1 : i < σ 16 0 := h1
    have hpe := (hlad i h0 h1).1.2.1
    have := l2 i h0 h1
    show yCo ρ g 22 (σ 9 i) = σ 10 (σ 9 i) ∧ yCo ρ g 23 (σ 9 i) = σ 11 (σ 9 i)
    rw [yCo_22 (by omega), yCo_k (k := 23) (by decide)]
    exact this
  · exact wB_u (wB_u (wB_u (wB_u hB (by show (0 : Int) ≤ _ ∧ _ ≤ (30 : Int); omega)) (by show (0 : Int) ≤ _ ∧ _ ≤ (1 : Int); omega)) (by show (-2147483648 : Int) ≤ _ ∧ _ ≤ (2147483647 : Int); omega)) (by show (0 : Int) ≤ _ ∧ _ ≤ (4 : Int); omega)
theorem yBe_k {e k v : Int} {q : Nat} (h : q ≠ 14 ∧ q ≠ 16 ∧ q ≠ 20) : yBe ρ e k v q = ρ q := by
  unfold yBe
  split
  · rw [z_u_ne h.2.1, z_u_ne h.2.2, z_u_ne h.1]
  · rw [z_u_ne h.1]
theorem yBe_14 {e k v : Int} : yBe ρ e k v 14 = z_u ρ 14 (4 * e + k) v 14 := by
  unfold yBe
  split
  · rw [z_u_ne (by decide), z_u_ne (by decide)]
  · rfl
theorem w_score (h : gS t m o B κ A ρ σ) (ht : t ≤ 511) {m' e k v N1 N2 : Int} (he : pr ρ e) (hk : 0 ≤ k ∧ k ≤ 3) (hv : -m' ≤ v ∧ v ≤ m') (hm : m ≤ m' ∧ m' ≤ 100000) (hκ : κ' = kCs κ e k v N1 N2) (hX' : gXX B' κ' A) (hJ' : cJ B' κ') (hV' : cV κ' ∧ cS κ') : gS (t + 1) m' o B' κ' A (yBe ρ e k v) (z_u σ 2 (4 * e + k) v) := by
  obtain ⟨hX, hJ, hVS, hj, ⟨⟨s1, s2, s3, s4, s5⟩, ⟨e1, e2, e3, e4⟩, ⟨l1, l2⟩, hgg, htt⟩, hB, hp, hO⟩ := h
  refine ⟨hX', hJ', hV', hκ ▸ jJ_score hj hVS.2 ht he hk (by omega), ⟨⟨?_, ?_, ?_, ?_, ?_⟩, ⟨fun j h0 h1 => ?_, ?_, ?_, ?_⟩, ⟨?_, ?_⟩, ?_, ?_⟩, ?_, fun j => ?_, fun ho => ?_, ?_⟩
  · rw [yBe_k (by decide)]; exact s1
  · rw [yBe_k (by decide)]; exact s2
  · rw [yBe_k (by decide)]; exact s3
  · rw [yBe_k (by decide)]; exact s4
  · rw [yBe_k (by decide)]; exact s5
  · rw [yBe_14]
    by_cases c : j = 4 * e + k
    · rw [c, z_u_at, z_u_at]
    · rw [z_u_at' c, z_u_at' c]
      exact e1 j h0 h1
  · rw [yBe_k (by decide)]; exact e2
  · rw [yBe_k (by decide)]; exact e3
  · rw [yBe_k (by decide)]; exact e4
  · rw [yBe_k (by decide)]; exact l1
  · rw [yBe_k (by decide), yBe_k (by decide)]; exact l2
  · unfold wLg; rw [yBe_k (by decide)]; exact hgg
  · unfold wLt; rw [yBe_k (by decide)]; exact htt
  · exact wB_u hB (by show (-100000 : Int) ≤ _ ∧ _ ≤ (100000 : Int); omega)
  · by_cases c : j = 4 * e + k
    · rw [c, z_u_at]; exact hv
    · rw [z_u_at' c]
      have := hp j
      omega
  · have hh := hO.1 ho
    unfold wO
    rw [yBe_k (by decide), yBe_k (by decide), yBe_k (by decide)]
    exact hh
  · rw [yBe_k (by decide)]; exact hO.2
theorem w_reach (h : gS t m o B κ A ρ σ) {v : Int} (hv : 1 ≤ v ∧ v ≤ 5) (hκ : κ' = k_u κ 18 0 0 v) (hX' : gXX B' κ' A) (hJ' : cJ B' κ') (hV' : cV κ' ∧ cS κ') : gS t m o B' κ' A (z_u ρ 26 0 v) (z_u σ 17 0 v) := by
  obtain ⟨hX, hJ, hVS, hj, ⟨⟨s1, s2, s3, s4, s5⟩, he, hl, hgg, htt⟩, hB, hp, hO⟩ := h
  exact ⟨hX', hJ', hV', hκ ▸ jJ_Re hj hv, ⟨⟨s1, s2, rfl, s4, s5⟩, he, hl, hgg, htt⟩, wB_u hB (by show (1 : Int) ≤ _ ∧ _ ≤ (5 : Int); omega), hp, hO⟩
theorem w_pat (h : gS t m o B κ A ρ σ) {v : Int} (hv : 1 ≤ v ∧ v ≤ 4) (hκ : κ' = k_u κ 19 0 0 v) (hX' : gXX B' κ' A) (hJ' : cJ B' κ') (hV' : cV κ' ∧ cS κ') : gS t m o B' κ' A (z_u ρ 27 0 v) (z_u σ 18 0 v) := by
  obtain ⟨hX, hJ, hVS, hj, ⟨⟨s1, s2, s3, s4, s5⟩, he, hl, hgg, htt⟩, hB, hp, hO⟩ := h
  exact ⟨hX', hJ', hV', hκ ▸ jJ_Pa hj (by omega), ⟨⟨s1, s2, s3, rfl, s5⟩, he, hl, hgg, htt⟩, wB_u hB (by show (1 : Int) ≤ _ ∧ _ ≤ (4 : Int); omega), hp, hO⟩
theorem w_enter (h : gS t m o B κ A ρ σ) {e N : Int} (he : pr ρ e) (hl : lp ρ e = -1) (hκ : κ' = kEn κ e (κ 1 0 0) N) (hX' : gXX B' κ' A) (hJ' : cJ B' κ') (hV' : cV κ' ∧ cS κ') : gS t m o B' κ' A (yEn ρ e) (z_u (z_u (z_u (z_u σ 9 (σ 16 0) e) 16 0 (σ 16 0 + 1)) 10 e (σ 19 0)) 11 e (-1)) := by
  have hpb := gS_pb h he
  have hlt := lad_lt (gS_j h) he hl
  have h25 := gS_25 h
  have h19 := gS_19 h
  have h1 := (gS_b h).s16 0
  have h2 := (gS_b h).s19 0
  have hlad := (w_lad h).2
  obtain ⟨hX, hJ, hVS, hj, ⟨⟨s1, s2, s3, s4, s5⟩, hE, ⟨l1, l2⟩, hgg, htt⟩, hB, hp, hO⟩ := h
  refine ⟨hX', hJ', hV', hκ ▸ jJ_enter hj he hl, ⟨⟨s1, ?_, s3, s4, s5⟩, hE, ⟨fun i i0 i1 => ?_, fun i i0 i1 => ?_⟩, hgg, htt⟩, ?_, hp, hO⟩
  · show ρ 25 0 + 1 = σ 16 0 + 1
    rw [s2]
  · have i1 : i < σ 16 0 + 1 := i1
    show z_u ρ 21 (ρ 25 0) e 21 i = z_u σ 9 (σ 16 0) e 9 i
    by_cases c : i = σ 16 0
    · rw [c, s2, z_u_at, z_u_at]
    · rw [z_u_at' (by omega), z_u_at' c]
      exact l1 i i0 (by omega)
  · have i1 : i < σ 16 0 + 1 := i1
    show z_u ρ 22 e (ρ 30 0) 22 (z_u σ 9 (σ 16 0) e 9 i) = z_u σ 10 e (σ 19 0) 10 (z_u σ 9 (σ 16 0) e 9 i) ∧ z_u ρ 23 e (-1) 23 (z_u σ 9 (σ 16 0) e 9 i) = z_u σ 11 e (-1) 11 (z_u σ 9 (σ 16 0) e 9 i)
    by_cases c : i = σ 16 0
    · rw [c, z_u_at, z_u_at, z_u_at, z_u_at, z_u_at]
      exact ⟨s5, rfl⟩
    · rw [z_u_at' c]
      have hne : σ 9 i ≠ e := fun q => by
        have h9 := (hlad i i0 (by omega)).2.2.1
        rw [q] at h9
        omega
      rw [z_u_at' hne, z_u_at' hne, z_u_at' hne, z_u_at' hne]
      exact l2 i i0 (by omega)
  · exact wB_u (wB_u (wB_u (wB_u hB (by show (0 : Int) ≤ _ ∧ _ ≤ (29 : Int); omega)) (by show (0 : Int) ≤ _ ∧ _ ≤ (30 : Int); omega)) (by show (0 : Int) ≤ _ ∧ _ ≤ (40 : Int); omega)) (by show (-1 : Int) ≤ _ ∧ _ ≤ (40 : Int); omega)
end MUT
