/-! THE LAW lets one leave, and plays (laid by wip/p53/gen/gl78.py). -/
section LV5
section
variable {t : Nat} {m : Int} {o : Prop} {B B' : Nat → Int → Nat} {κ κ' : c_K} {A : Nat → Nat} {ρ σ σ' : z_S}
theorem w_lp (h : gS t m o B κ A ρ σ) (e : Int) : (lp ρ e = -1 ∨ (1 ≤ lp ρ e ∧ lp ρ e ≤ σ 16 0 ∧ σ 9 (lp ρ e - 1) = e)) ∧ (∀ j, 0 ≤ j → j < σ 16 0 → (σ 9 j = e ↔ lp ρ e = j + 1)) ∧ ∀ i j, 0 ≤ i → i < σ 16 0 → 0 ≤ j → j < σ 16 0 → σ 9 i = σ 9 j → i = j := by
  have h25 := gS_25 h
  have hl := (gS_L h).2.2.1.1
  have hlad := (w_lad h).2
  have a1 : lp ρ e = -1 ∨ (1 ≤ lp ρ e ∧ lp ρ e ≤ σ 16 0 ∧ σ 9 (lp ρ e - 1) = e) := by
    rcases lp_b (gS_M h) (e := e) with q | q
    · exact Or.inl q
    · refine Or.inr ⟨q.1, by omega, ?_⟩
      rw [← hl (lp ρ e - 1) (by omega) (by omega)]
      exact q.2.2.2
  refine ⟨a1, fun j j0 j1 => ⟨fun q => ?_, fun q => ?_⟩, fun i j i0 i1 j0 j1 q => ?_⟩
  · rw [← q]
    exact (hlad j j0 j1).2.2.1
  · rcases a1 with c | c
    · omega
    · rw [q, show j + 1 - 1 = j by omega] at c
      exact c.2.2
  · have b1 := (hlad i i0 i1).2.2.1
    have b2 := (hlad j j0 j1).2.2.1
    rw [q] at b1
    omega
theorem yLv_k {e : Int} {k : Nat} (h : k ≠ 18 ∧ k ≠ 21 ∧ k ≠ 25) : yLv ρ e k = ρ k := by
  unfold yLv
  split
  · exact z_u_ne h.1
  · rw [z_ur_ne h.2.1, z_u_ne h.2.2, z_u_ne h.1]
theorem yLv_18 {e : Int} : yLv ρ e 18 = z_up (ρ 18) e 0 := by
  unfold yLv
  split
  · exact z_u_eq
  · rw [z_ur_ne (by decide), z_u_ne (by decide), z_u_eq]
/-- a row, and one taken out of it at p -/
def wLv (L0 : Int → Int) (N p : Int) (L : Int → Int) (N' : Int) : Prop := (p = -1 ∧ N' = N ∧ ∀ i, 0 ≤ i → i < N → L i = L0 i) ∨ (p ≠ -1 ∧ N' = N - 1 ∧ ∀ i, 0 ≤ i → i < N - 1 → L i = if p - 1 ≤ i then L0 (i + 1) else L0 i)
def wLk (L0 : Int → Int) (N p k : Int) (L : Int → Int) (N' : Int) : Prop := (N' = N ∧ (∀ i, 0 ≤ i → i < N → L i = L0 i) ∧ (p = -1 ∨ k < p)) ∨ (p ≠ -1 ∧ p ≤ k ∧ N' = N - 1 ∧ ∀ i, 0 ≤ i → i < N - 1 → L i = if p - 1 ≤ i then L0 (i + 1) else L0 i)
theorem w_leave (h : gS t m o B κ A ρ σ) {e : Int} (he : pr ρ e) (hF : ∀ k, k ≠ 7 → k ≠ 9 → k ≠ 16 → σ' k = σ k) (f7 : σ' 7 = z_up (σ 7) e 0) (hL : wLv (σ 9) (σ 16 0) (lp ρ e) (σ' 9) (σ' 16 0)) (hB' : wB σ') (hκ : κ' = kLv κ e) (hX' : gXX B' κ' A) (hJ' : cJ B' κ') (hV' : cV κ' ∧ cS κ') : gS t m o B' κ' A (yLv ρ e) σ' := by
  obtain ⟨hlp, -, -⟩ := w_lp h e
  obtain ⟨hX, hJ, hVS, hj, ⟨⟨s1, s2, s3, s4, s5⟩, ⟨e1, e2, e3, e4⟩, ⟨l1, l2⟩, hgg, htt⟩, hB, hp, hO⟩ := h
  have hF' : ∀ k, k ≠ 7 ∧ k ≠ 9 ∧ k ≠ 16 → σ' k = σ k := fun k hk => hF k hk.1 hk.2.1 hk.2.2
  have k2 := hF' 2 (by decide)
  have k3 := hF' 3 (by decide)
  have k5 := hF' 5 (by decide)
  have k10 := hF' 10 (by decide)
  have k11 := hF' 11 (by decide)
  have k12 := hF' 12 (by decide)
  have k13 := hF' 13 (by decide)
  have k14 := hF' 14 (by decide)
  have k17 := hF' 17 (by decide)
  have k18 := hF' 18 (by decide)
  have k19 := hF' 19 (by decide)
  have hlad : ∀ i, 0 ≤ i → i < σ' 16 0 → yLv ρ e 21 i = σ' 9 i ∧ ∃ j, 0 ≤ j ∧ j < σ 16 0 ∧ σ' 9 i = σ 9 j := by
    intro i i0 i1
    rcases hL with ⟨p1, p2, p3⟩ | ⟨p1, p2, p3⟩
    · have : yLv ρ e 21 = ρ 21 := by
        unfold yLv
        rw [if_pos p1, z_u_ne (by decide)]
      rw [this, p3 i i0 (by omega)]
      exact ⟨l1 i i0 (by omega), i, i0, by omega, rfl⟩
    · have : yLv ρ e 21 i = if lp ρ e - 1 ≤ i ∧ i < ρ 25 0 - 1 then ρ 21 (i + 1) else ρ 21 i := by
        unfold yLv
        rw [if_neg p1, z_ur_at]
      rw [this, p3 i i0 (by omega)]
      by_cases c : lp ρ e - 1 ≤ i
      · rw [if_pos ⟨c, by omega⟩, if_pos c]
        exact ⟨l1 (i + 1) (by omega) (by omega), i + 1, by omega, by omega, rfl⟩
      · rw [if_neg (fun q => c q.1), if_neg c]
        exact ⟨l1 i i0 (by omega), i, i0, by omega, rfl⟩
  refine ⟨hX', hJ', hV', hκ ▸ jJ_leave hj he, ⟨⟨?_, ?_, ?_, ?_, ?_⟩, ⟨?_, ?_, fun x x0 x1 => ?_, ?_⟩, ⟨fun i i0 i1 => (hlad i i0 i1).1, fun i i0 i1 => ?_⟩, ?_, ?_⟩, hB', ?_, fun ho => ?_, ?_⟩
  · rw [yLv_k (by decide), k14]; exact s1
  · rcases hL with ⟨p1, p2, p3⟩ | ⟨p1, p2, p3⟩
    · rw [p2]
      unfold yLv
      rw [if_pos p1, z_u_ne (by decide)]
      exact s2
    · rw [p2]
      unfold yLv
      rw [if_neg p1, z_ur_ne (by decide), z_u_at, s2]
  · rw [yLv_k (by decide), k17]; exact s3
  · rw [yLv_k (by decide), k18]; exact s4
  · rw [yLv_k (by decide), k19]; exact s5
  · rw [yLv_k (by decide), k2]; exact e1
  · rw [yLv_k (by decide), k3, k14]; exact e2
  · rw [yLv_18, f7]
    unfold z_up
    by_cases c : x = e
    · rw [if_pos c, if_pos c]
    · rw [if_neg c, if_neg c]
      exact e3 x x0 x1
  · rw [yLv_k (by decide), k5]; exact e4
  · obtain ⟨-, j, j0, j1, j2⟩ := hlad i i0 i1
    rw [yLv_k (by decide), yLv_k (by decide), k10, k11, j2]
    exact l2 j j0 j1
  · unfold wLg
    rw [yLv_k (by decide), k12, k19]; exact hgg
  · unfold wLt
    rw [yLv_k (by decide), k13, k19]; exact htt
  · rw [k2]; exact hp
  · have hh := hO.1 ho
    unfold wO
    rw [yLv_k (by decide), yLv_k (by decide), yLv_k (by decide), hF' 15 (by decide), hF' 4 (by decide), hF' 8 (by decide)]
    exact hh
  · rw [yLv_k (by decide)]; exact hO.2
theorem w_ch0 (h : gS t m o B κ A ρ σ) {e f : Int} (he : lp ρ e ≠ -1) (hf : lp ρ f ≠ -1) (hκ : κ' = kCh κ e f) (hX' : gXX B' κ' A) (hJ' : cJ B' κ') (hV' : cV κ' ∧ cS κ') : gS t m o B' κ' A (yCh ρ e f 0) (z_u (z_u σ 11 e (σ 19 0)) 11 f (σ 19 0)) := by
  have b19 := (gS_b h).s19 0
  obtain ⟨hX, hJ, hVS, hj, ⟨⟨s1, s2, s3, s4, s5⟩, hE, ⟨l1, l2⟩, hgg, htt⟩, hB, hp, hO⟩ := h
  refine ⟨hX', hJ', hV', hκ ▸ jJ_ch0 hj ((lp_il e).mp he) ((lp_il f).mp hf), ⟨⟨s1, s2, s3, s4, s5⟩, hE, ⟨l1, fun i i0 i1 => ?_⟩, hgg, htt⟩, wB_u (wB_u hB (by show (-1 : Int) ≤ _ ∧ _ ≤ (40 : Int); omega)) (by show (-1 : Int) ≤ _ ∧ _ ≤ (40 : Int); omega), hp, hO⟩
  refine ⟨(l2 i i0 i1).1, ?_⟩
  show z_u (z_u ρ 23 e (ρ 30 0)) 23 f (ρ 30 0) 23 (σ 9 i) = z_u (z_u σ 11 e (σ 19 0)) 11 f (σ 19 0) 11 (σ 9 i)
  rw [s5]
  by_cases c : σ 9 i = f
  · rw [c, z_u_at, z_u_at]
  · rw [z_u_at' c, z_u_at' c]
    by_cases c2 : σ 9 i = e
    · rw [c2, z_u_at, z_u_at]
    · rw [z_u_at' c2, z_u_at' c2]
      exact (l2 i i0 i1).2
theorem w_ch1 (h : gS t m o B κ A ρ σ) {e f N : Int} (he : lp ρ e ≠ -1) (hf : lp ρ f ≠ -1) (hab : lp ρ f < lp ρ e) (hκ : κ' = kRz (kCh κ e f) (lp ρ e) (lp ρ f) N) (hF : ∀ k, k ≠ 9 → σ' k = z_u (z_u σ 11 e (σ 19 0)) 11 f (σ 19 0) k) (hL : ∀ i, 0 ≤ i → i < σ 16 0 → σ' 9 i = if i = lp ρ f - 1 then e else if lp ρ f - 1 < i ∧ i ≤ lp ρ e - 1 then σ 9 (i - 1) else σ 9 i) (hB' : wB σ') (hX' : gXX B' κ' A) (hJ' : cJ B' κ') (hV' : cV κ' ∧ cS κ') : gS t m o B' κ' A (yCh ρ e f 1) σ' := by
  obtain ⟨hlp, -, -⟩ := w_lp h e
  obtain ⟨hlf, -, -⟩ := w_lp h f
  have b19 := (gS_b h).s19 0
  obtain ⟨hX, hJ, hVS, hj, ⟨⟨s1, s2, s3, s4, s5⟩, ⟨e1, e2, e3, e4⟩, ⟨l1, l2⟩, hgg, htt⟩, hB, hp, hO⟩ := h
  have hG : ∀ k, k ≠ 9 ∧ k ≠ 11 → σ' k = σ k := fun k hk => by rw [hF k hk.1, z_u_ne hk.2, z_u_ne hk.2]
  have k2 := hG 2 (by decide)
  have k3 := hG 3 (by decide)
  have k5 := hG 5 (by decide)
  have k7 := hG 7 (by decide)
  have k10 := hG 10 (by decide)
  have k12 := hG 12 (by decide)
  have k13 := hG 13 (by decide)
  have k14 := hG 14 (by decide)
  have k16 := hG 16 (by decide)
  have k17 := hG 17 (by decide)
  have k18 := hG 18 (by decide)
  have k19 := hG 19 (by decide)
  have k11 := hF 11 (by decide)
  have hlad : ∀ i, 0 ≤ i → i < σ 16 0 → yCh ρ e f 1 21 i = σ' 9 i ∧ ∃ j, 0 ≤ j ∧ j < σ 16 0 ∧ σ' 9 i = σ 9 j := by
    intro i i0 i1
    have e0 : yCh ρ e f 1 21 = z_up (fun i => if lp ρ f - 1 < i ∧ i ≤ lp ρ e - 1 then ρ 21 (i - 1) else ρ 21 i) (lp ρ f - 1) e := by
      unfold yCh
      rw [if_neg (by decide), z_u_eq, z_ur_at]
    rw [e0, hL i i0 i1]
    unfold z_up
    by_cases c : i = lp ρ f - 1
    · rw [if_pos c, if_pos c]
      exact ⟨rfl, lp ρ e - 1, by omega, by omega, ((hlp.resolve_left he).2.2).symm⟩
    · rw [if_neg c, if_neg c]
      by_cases c2 : lp ρ f - 1 < i ∧ i ≤ lp ρ e - 1
      · rw [if_pos c2]
        exact ⟨(if_pos c2).trans (l1 _ (by omega) (by omega)), i - 1, by omega, by omega, rfl⟩
      · rw [if_neg c2]
        exact ⟨(if_neg c2).trans (l1 _ i0 i1), i, i0, i1, rfl⟩
  have hy : ∀ k, k ≠ 21 ∧ k ≠ 23 → yCh ρ e f 1 k = ρ k := fun k hk => by
    unfold yCh
    rw [if_neg (by decide), z_u_ne hk.1, z_ur_ne hk.1, z_u_ne hk.2, z_u_ne hk.2]
  have hy23 : yCh ρ e f 1 23 = z_u (z_u ρ 23 e (ρ 30 0)) 23 f (ρ 30 0) 23 := by
    unfold yCh
    rw [if_neg (by decide), z_u_ne (by decide), z_ur_ne (by decide)]
  refine ⟨hX', hJ', hV', hκ ▸ jJ_ch1 hj he hf hab (by decide), ⟨⟨?_, ?_, ?_, ?_, ?_⟩, ⟨?_, ?_, ?_, ?_⟩, ⟨fun i i0 i1 => (hlad i i0 (by rw [← k16]; exact i1)).1, fun i i0 i1 => ?_⟩, ?_, ?_⟩, hB', ?_, fun ho => ?_, ?_⟩
  · rw [hy 19 (by decide), k14]; exact s1
  · rw [hy 25 (by decide), k16]; exact s2
  · rw [hy 26 (by decide), k17]; exact s3
  · rw [hy 27 (by decide), k18]; exact s4
  · rw [hy 30 (by decide), k19]; exact s5
  · rw [hy 14 (by decide), k2]; exact e1
  · rw [hy 15 (by decide), k3, k14]; exact e2
  · rw [hy 18 (by decide), k7]; exact e3
  · rw [hy 17 (by decide), k5]; exact e4
  · obtain ⟨-, j, j0, j1, j2⟩ := hlad i i0 (by rw [← k16]; exact i1)
    rw [hy 22 (by decide), hy23, k10, k11, j2]
    refine ⟨(l2 j j0 j1).1, ?_⟩
    rw [s5]
    by_cases c : σ 9 j = f
    · rw [c, z_u_at, z_u_at]
    · rw [z_u_at' c, z_u_at' c]
      by_cases c2 : σ 9 j = e
      · rw [c2, z_u_at, z_u_at]
      · rw [z_u_at' c2, z_u_at' c2]
        exact (l2 j j0 j1).2
  · unfold wLg
    rw [hy 28 (by decide), k12, k19]; exact hgg
  · unfold wLt
    rw [hy 29 (by decide), k13, k19]; exact htt
  · rw [k2]; exact hp
  · have hh := hO.1 ho
    unfold wO
    rw [hy 12 (by decide), hy 8 (by decide), hy 10 (by decide), hG 15 (by decide), hG 4 (by decide), hG 8 (by decide)]
    exact hh
  · rw [hy 2 (by decide)]; exact hO.2
end
theorem la_hasLeft {G : z_G} {D : Nat} {B : Nat → Int → Nat} {κ : c_K} {A : Nat → Nat} {ρ σ : z_S} {h : z_H} {t : Nat} {m : Int} {o : Prop} (hG : z_OK G) (hD : D = z_dc G) (hM : z_MI G) (hI : gS t m o B κ A ρ σ) {e : Int} (hp : pr ρ e) : z_T G mL_hasLeft [.ref (A 40), z_i e] (gH D B κ A σ h) 10 5 30 (fun v h' => ∃ (κ' : c_K) (B' : Nat → Int → Nat) (ρ' σ' : z_S) (h2 : z_H), v = some (z_i 1) ∧ gS (t) (m) o B' κ' A ρ' σ' ∧ σ' 14 0 = σ 14 0 ∧ h' = gH D B' κ' A σ' h2) (z_no) := by
  refine z_T_of hG pL_hasLeft (Nat.le_of_ble_eq_true rfl) (ls0 := [(0, .ref (A 40)), (1, z_i e)]) rfl fun Y hY hg hmc hms hφ hψ => ?_
  subst hg
  have hpb := gS_pb hI hp
  have hcp := gS_cpr hI hp
  obtain ⟨hl1, hl2, hl3⟩ := w_lp hI e
  have hb16 := (gS_b hI).s16 0
  have hr37 := (gS_S hI).s37 e 0
  refine z_aload hY eL_hasLeft_0 0 rfl ?_
  refine g_gf hY (gS_X hI) eL_hasLeft_1 (v := .ref (B 0 0)) rfl ?_
  refine z_iload hY eL_hasLeft_4 1 rfl ?_
  refine z_callV (As := [z_i e]) (rest := []) hY eL_hasLeft_5 (q_place (D := D) (h := lH A (B 0 0) σ h) hG (gS_J hI) (gS_B hI) (gS_V hI) (gS_S hI) (by omega)) (cH_at (t := 0) (i := 0) (gS_J hI) (by omega)) (by decide) (Nat.le_of_ble_eq_true rfl) (by rw [hmc, hms]; omega) (fun E9 h9 q => by obtain ⟨-, q⟩ := q; exfalso; omega) (fun vv2 hh2 q2 => ?_)
  obtain ⟨-, rfl, rfl⟩ := q2
  refine z_heq (show _ = gH D B κ A σ h from rfl) ?_
  refine z_istore hY eL_hasLeft_8 (ls' := [(2, z_i (κ 37 e 0)), (0, .ref (A 40)), (1, z_i e)]) rfl ?_
  refine z_aload hY eL_hasLeft_9 1 rfl ?_
  refine g_gf hY (gS_X hI) eL_hasLeft_10 (v := .ref (A 7)) rfl ?_
  refine z_iload hY eL_hasLeft_13 2 rfl ?_
  refine z_const hY eL_hasLeft_14 ?_
  refine g_bas hY (gS_X hI) eL_hasLeft_15 (j := 7) (N := 30) (by decide) (fun _ => rfl) (by omega) (by first | omega | exact z_bl01 _) ?_
  refine z_const hY eL_hasLeft_16 ?_
  refine z_istore hY eL_hasLeft_17 (ls' := [(3, z_i 0), (2, z_i (κ 37 e 0)), (0, .ref (A 40)), (1, z_i e)]) rfl ?_
  refine z_sub [2, 3, 1, 0] (ls' := [(0, .ref (A 40)), (1, z_i e), (2, z_i (κ 37 e 0)), (3, z_i 0)]) rfl ?_
  have lp18 : ∀ (fu : Nat) (k : Int) (σ1 : z_S), (σ 16 0 - k).toNat < fu → (0 ≤ k ∧ k ≤ σ 16 0) → (∀ k, k ≠ 7 → k ≠ 9 → k ≠ 16 → σ1 k = σ k) → (wB σ1) → (σ1 7 = z_up (σ 7) e 0) → (wLk (σ 9) (σ 16 0) (lp ρ e) k (σ1 9) (σ1 16 0)) → z_W Y 18 [(0, .ref (A 40)), (1, z_i e), (2, z_i (κ 37 e 0)), (3, z_i k)] [] (gH D B κ A σ1 h) (0 + 1) (0 + 6) := by
    intro fu
    induction fu with
    | zero => intro k σ1 hf; exact absurd hf (Nat.not_lt_zero _)
    | succ fu ih18 =>
      intro k σ1 hf hk hF hw f7 hS
      refine z_iload hY eL_hasLeft_18 3 rfl ?_
      refine z_aload hY eL_hasLeft_19 0 rfl ?_
      have hb3 := hw.s16 0
      refine g_gf hY (gS_X hI) eL_hasLeft_20 (v := z_i (σ1 16 0)) rfl ?_
      refine z_icmpge hY eL_hasLeft_23 (by omega) (fun c23 => ?_) (fun c23 => ?_)
      · refine z_aload hY eL_hasLeft_89 0 rfl ?_
        refine g_gf hY (gS_X hI) eL_hasLeft_90 (v := .ref (B 0 0)) rfl ?_
        refine z_iload hY eL_hasLeft_93 1 rfl ?_
        have hwl : wLv (σ 9) (σ 16 0) (lp ρ e) (σ1 9) (σ1 16 0) := by rcases hS with ⟨a1, a2, a3⟩ | ⟨a1, a2, a3, a4⟩; (exact Or.inl ⟨by omega, a1, a2⟩); (exact Or.inr ⟨a1, a3, a4⟩)
        refine z_callV (As := [z_i e]) (rest := []) hY eL_hasLeft_94 (q_leave (D := D) (h := lH A (B 0 0) σ1 h) hG hD hM (gS_J hI) (gS_B hI) (gS_V hI) (gS_S hI) (by omega) (fun _ => cX_of (gS_j hI) hp)) (cH_at (t := 0) (i := 0) (gS_J hI) (by omega)) (by decide) (Nat.le_of_ble_eq_true rfl) (by rw [hmc, hms]; omega) (fun E9 h9 q => by obtain ⟨-, q⟩ := q; exfalso; omega) (fun vv5 hh5 q5 => ?_)
        obtain ⟨-, rfl, κ4, B4, g4, rfl, hc4, hrel4⟩ := q5
        obtain ⟨hgb4, hgX4, hgP4⟩ := gH_back (D := D) (gS_X hI) hc4
        refine z_heq hgb4 ?_
        have hI4 := w_leave hI hp hF f7 hwl hw hrel4 hgX4 hc4.1 hc4.2.1
        refine z_iload hY eL_hasLeft_97 2 rfl ?_
        refine z_icmpne hY eL_hasLeft_98 (by omega) (fun c98 => by exfalso; omega) (fun c98 => ?_)
        refine z_const hY eL_hasLeft_101 ?_
        refine z_goto hY eL_hasLeft_102 ?_
        exact z_zreturn hY eL_hasLeft_106 rfl (by omega) (by rw [hφ]; exact ⟨κ4, B4, (yLv ρ e), σ1, g4, rfl, hI4, congrFun (hF 14 (by decide) (by decide) (by decide)) 0, rfl⟩) (by rw [hmc, hms]; omega)
      · have hle : σ1 16 0 ≤ σ 16 0 := by rcases hS with ⟨a1, a2, a3⟩ | ⟨a1, a2, a3, a4⟩ <;> omega
        refine z_aload hY eL_hasLeft_26 0 rfl ?_
        refine g_gf hY (gS_X hI) eL_hasLeft_27 (v := .ref (A 9)) rfl ?_
        refine z_iload hY eL_hasLeft_30 3 rfl ?_
        have hb6 := hw.s9 k
        refine g_ial hY (gS_X hI) eL_hasLeft_31 (j := 9) (N := 30) (x := σ1 9 k) (by decide) rfl (by omega) rfl ?_
        refine z_iload hY eL_hasLeft_32 1 rfl ?_
        refine z_icmpeq hY eL_hasLeft_33 (by omega) (fun c33 => ?_) (fun c33 => ?_)
        · have hfd : σ1 16 0 = σ 16 0 ∧ (∀ i, 0 ≤ i → i < σ 16 0 → σ1 9 i = σ 9 i) ∧ lp ρ e = k + 1 := by rcases hS with ⟨a1, a2, a3⟩ | ⟨a1, a2, a3, a4⟩; (refine ⟨a1, a2, ?_⟩; have b1 := a2 k (by omega) (by omega); exact (hl2 k (by omega) (by omega)).mp (by omega)); (exfalso; have b1 := a4 k (by omega) (by omega); rw [if_pos (by omega)] at b1; have b2 := (hl2 (k + 1) (by omega) (by omega)).mp (by omega); omega)
          obtain ⟨ha1, ha2, ha3⟩ := hfd
          refine z_aload hY eL_hasLeft_39 0 rfl ?_
          refine z_dup hY eL_hasLeft_40 rfl ?_
          refine g_gf hY (gS_X hI) eL_hasLeft_41 (v := z_i (σ1 16 0)) rfl ?_
          refine z_const hY eL_hasLeft_44 ?_
          refine z_isub hY eL_hasLeft_45 ?_
          refine g_pf hY (gS_X hI) eL_hasLeft_46 (by decide) ?_
          refine z_iload hY eL_hasLeft_49 3 rfl ?_
          refine z_istore hY eL_hasLeft_50 (ls' := [(4, z_i k), (0, .ref (A 40)), (1, z_i e), (2, z_i (κ 37 e 0)), (3, z_i k)]) rfl ?_
          refine z_sub [1, 2, 3, 4, 0] (ls' := [(0, .ref (A 40)), (1, z_i e), (2, z_i (κ 37 e 0)), (3, z_i k), (4, z_i k)]) rfl ?_
          have lp52 : ∀ (fu : Nat) (i : Int) (σ2 : z_S), (σ 16 0 - i).toNat < fu → (k ≤ i ∧ i ≤ σ 16 0 - 1) → (∀ k, k ≠ 7 → k ≠ 9 → k ≠ 16 → σ2 k = σ k) → (wB σ2) → (σ2 7 = z_up (σ 7) e 0) → (σ2 16 0 = σ 16 0 - 1) → (∀ j, 0 ≤ j → j < σ 16 0 → σ2 9 j = if k ≤ j ∧ j < i then σ 9 (j + 1) else σ 9 j) → z_W Y 52 [(0, .ref (A 40)), (1, z_i e), (2, z_i (κ 37 e 0)), (3, z_i k), (4, z_i i)] [] (gH D B κ A σ2 h) (0 + 1) (0 + 6) := by
            intro fu
            induction fu with
            | zero => intro i σ2 hf; exact absurd hf (Nat.not_lt_zero _)
            | succ fu ih52 =>
              intro i σ2 hf hi hF2 hw2 f72 g16 g9
              refine z_iload hY eL_hasLeft_52 4 rfl ?_
              refine z_aload hY eL_hasLeft_54 0 rfl ?_
              have hb7 := hw2.s16 0
              refine g_gf hY (gS_X hI) eL_hasLeft_55 (v := z_i (σ2 16 0)) rfl ?_
              refine z_icmpge hY eL_hasLeft_58 (by omega) (fun c58 => ?_) (fun c58 => ?_)
              · refine z_iinc hY eL_hasLeft_83 3 rfl (ls' := [(3, z_i (k + 1)), (0, .ref (A 40)), (1, z_i e), (2, z_i (κ 37 e 0)), (4, z_i i)]) rfl ?_
                refine z_goto hY eL_hasLeft_86 ?_
                have hS9 : wLk (σ 9) (σ 16 0) (lp ρ e) (k + 1) (σ2 9) (σ2 16 0) := Or.inr ⟨by omega, by omega, g16, fun j j0 j1 => by rw [g9 j j0 (by omega)]; by_cases c9 : k ≤ j; (rw [if_pos ⟨c9, by omega⟩, if_pos (by omega)]); (rw [if_neg (fun q => c9 q.1), if_neg (by omega)])⟩
                refine z_sub [1, 2, 3, 0] (ls' := [(0, .ref (A 40)), (1, z_i e), (2, z_i (κ 37 e 0)), (3, z_i (k + 1))]) rfl ?_
                exact ih18 (k + 1) σ2 (by omega) (by omega) (fun k k1 k2 k3 => hF2 k k1 k2 k3) hw2 f72 hS9
              · refine z_aload hY eL_hasLeft_61 0 rfl ?_
                refine g_gf hY (gS_X hI) eL_hasLeft_62 (v := .ref (A 9)) rfl ?_
                refine z_iload hY eL_hasLeft_65 4 rfl ?_
                refine z_aload hY eL_hasLeft_67 0 rfl ?_
                refine g_gf hY (gS_X hI) eL_hasLeft_68 (v := .ref (A 9)) rfl ?_
                refine z_iload hY eL_hasLeft_71 4 rfl ?_
                refine z_const hY eL_hasLeft_73 ?_
                refine z_iadd hY eL_hasLeft_74 ?_
                have hb8 := hw2.s9 (i + 1)
                refine g_ial hY (gS_X hI) eL_hasLeft_75 (j := 9) (N := 30) (x := σ2 9 (i + 1)) (by decide) rfl (by omega) rfl ?_
                refine g_ias hY (gS_X hI) eL_hasLeft_76 (j := 9) (N := 30) (by decide) (fun _ => rfl) (by omega) ?_
                refine z_iinc hY eL_hasLeft_77 4 rfl (ls' := [(4, z_i (i + 1)), (0, .ref (A 40)), (1, z_i e), (2, z_i (κ 37 e 0)), (3, z_i k)]) rfl ?_
                refine z_goto hY eL_hasLeft_80 ?_
                refine z_sub [1, 2, 3, 4, 0] (ls' := [(0, .ref (A 40)), (1, z_i e), (2, z_i (κ 37 e 0)), (3, z_i k), (4, z_i (i + 1))]) rfl ?_
                exact ih52 (i + 1) (z_u σ2 9 i (σ2 9 (i + 1))) (by omega) (by omega) (fun k k1 k2 k3 => (z_u_ne (by omega)).trans (hF2 k k1 k2 k3)) (wB_u hw2 (by show (0 : Int) ≤ _ ∧ _ ≤ (29 : Int); omega)) f72 g16 (fun j j0 j1 => by by_cases c9 : j = i; (rw [c9, z_u_at, g9 (i + 1) (by omega) (by omega), if_neg (by omega), if_pos (by omega)]); (rw [z_u_at' c9, g9 j j0 j1]; by_cases c8 : k ≤ j ∧ j < i; (rw [if_pos c8, if_pos (by omega)]); (rw [if_neg c8, if_neg (by omega)])))
          exact lp52 _ k (z_u σ1 16 0 ((σ1 16 0) - 1)) (Nat.lt_succ_self _) (by omega) (fun k k1 k2 k3 => (z_u_ne (by omega)).trans (hF k k1 k2 k3)) (wB_u hw (by show (0 : Int) ≤ _ ∧ _ ≤ (30 : Int); omega)) f7 (by rw [z_u_at]; omega) (fun j j0 j1 => by rw [if_neg (by omega)]; exact ha2 j j0 j1)
        · refine z_goto hY eL_hasLeft_36 ?_
          refine z_iinc hY eL_hasLeft_83 3 rfl (ls' := [(3, z_i (k + 1)), (0, .ref (A 40)), (1, z_i e), (2, z_i (κ 37 e 0))]) rfl ?_
          refine z_goto hY eL_hasLeft_86 ?_
          have hS9 : wLk (σ 9) (σ 16 0) (lp ρ e) (k + 1) (σ1 9) (σ1 16 0) := by rcases hS with ⟨a1, a2, a3⟩ | ⟨a1, a2, a3, a4⟩; (refine Or.inl ⟨a1, a2, ?_⟩; have b1 := a2 k (by omega) (by omega); have b2 := hl2 k (by omega) (by omega); omega); (exact Or.inr ⟨a1, by omega, a3, a4⟩)
          refine z_sub [1, 2, 3, 0] (ls' := [(0, .ref (A 40)), (1, z_i e), (2, z_i (κ 37 e 0)), (3, z_i (k + 1))]) rfl ?_
          exact ih18 (k + 1) σ1 (by omega) (by omega) (fun k k1 k2 k3 => hF k k1 k2 k3) hw f7 hS9
  exact lp18 _ 0 (z_u σ 7 e 0) (Nat.lt_succ_self _) (by omega) (fun k k1 k2 k3 => (z_u_ne (by omega)).trans (rfl)) (wB_u (gS_b hI) (by show (0 : Int) ≤ _ ∧ _ ≤ (1 : Int); omega)) z_u_eq (Or.inl ⟨rfl, fun _ _ _ => rfl, by omega⟩)
theorem la_isPlayed {G : z_G} {D : Nat} {B : Nat → Int → Nat} {κ : c_K} {A : Nat → Nat} {ρ σ : z_S} {h : z_H} {t : Nat} {m : Int} {o : Prop} (hG : z_OK G) (hD : D = z_dc G) (hM : z_MI G) (hI : gS t m o B κ A ρ σ) (hn0 : 1 ≤ σ 14 0) : z_T G mL_isPlayed [.ref (A 40)] (gH D B κ A σ h) 10 16 140 (fun v h' => ∃ (κ' : c_K) (B' : Nat → Int → Nat) (ρ' σ' : z_S) (h2 : z_H), v = some (z_i 1) ∧ gS (t) (m) o B' κ' A ρ' σ' ∧ σ' 14 0 = σ 14 0 ∧ h' = gH D B' κ' A σ' h2) (z_no) := by
  refine z_T_of hG pL_isPlayed (Nat.le_of_ble_eq_true rfl) (ls0 := [(0, .ref (A 40))]) rfl fun Y hY hg hmc hms hφ hψ => ?_
  subst hg
  have rest75 : ∀ (κ1 : c_K) (B1 : Nat → Int → Nat) (ρ1 σ1 : z_S) (h1 : z_H) , (gS t m o B1 κ1 A ρ1 σ1) → (σ1 14 0 = σ 14 0) → z_W Y 75 [(0, .ref (A 40))] [] (gH D B1 κ1 A σ1 h1) (2) (12) := by
    intro κ1 B1 ρ1 σ1 h1  hI1 hq14
    have hnn : 1 ≤ σ1 14 0 := by omega
    refine z_aload hY eL_isPlayed_75 0 rfl ?_
    refine z_callV (As := []) (rest := []) hY eL_isPlayed_76 (la_anyone hG hI1 (by first | assumption | omega)) ((gH_at (gS_X hI1) (by decide)).trans (congrArg some lC_40)) (by decide) (Nat.le_of_ble_eq_true rfl) (by rw [hmc, hms]; omega) (fun _ _ q => q.elim) (fun vv2 hh2 q2 => ?_)
    obtain ⟨r1, X1, rfl, hr1, hX1, rfl⟩ := q2
    have hI30 : gS t m o B1 κ1 A ρ1 (z_u σ1 0 0 X1) := (gS_E hI1 (wE_u wE_r (by decide)) (wB_u (gS_b hI1) (by show (-2147483648 : Int) ≤ _ ∧ _ ≤ (2147483647 : Int); omega)))
    obtain ⟨σ2, hs3⟩ : ∃ qq, qq = z_u σ1 0 0 X1 := ⟨_, rfl⟩
    refine z_heq (congrArg (fun q => gH D B1 κ1 A q h1) hs3.symm) ?_
    rw [← hs3] at hI30
    have hn14_3 : σ2 14 0 = σ1 14 0 := by rw [hs3]; try rfl
    obtain ⟨e, he0⟩ : ∃ e : Int, e = r1 := ⟨_, rfl⟩
    refine z_top (b := e) he0.symm ?_
    have heb := (gS_b hI30).s14 0
    have hep : e = -1 ∨ pr ρ1 e := by rcases hr1 with q9 | q9; (left; omega); (right; exact (gS_pr hI30).mpr ⟨by omega, by omega, by rw [he0, hs3]; exact q9.2.2⟩)
    refine z_istore hY eL_isPlayed_79 (ls' := [(1, z_i e), (0, .ref (A 40))]) rfl ?_
    refine z_iload hY eL_isPlayed_80 0 rfl ?_
    refine z_const hY eL_isPlayed_81 ?_
    refine z_icmpne hY eL_isPlayed_82 (by omega) (fun c82 => ?_) (fun c82 => ?_)
    · have hp := hep.resolve_left c82
      have hpb := gS_pb hI30 hp
      refine z_aload hY eL_isPlayed_87 1 rfl ?_
      refine z_iload hY eL_isPlayed_88 0 rfl ?_
      refine z_callVr (As := [z_i e]) (rest := []) (r := z_i (lp ρ1 e)) hY eL_isPlayed_89 (la_placeIn hG hI30 (e := e) (by omega)) ((gH_at (gS_X hI30) (by decide)).trans (congrArg some lC_40)) (by decide) (Nat.le_of_ble_eq_true rfl) (by rw [hmc, hms]; omega) ?_
      have hv4 := lp_b (gS_M hI30) (e := e)
      refine z_const hY eL_isPlayed_92 ?_
      refine z_icmpne hY eL_isPlayed_93 (by omega) (fun c93 => ?_) (fun c93 => ?_)
      · obtain ⟨hlp0, hl2, hl3⟩ := w_lp hI30 e
        have hb16 := (gS_b hI30).s16 0
        have hb17 := (gS_b hI30).s17 0
        refine z_aload hY eL_isPlayed_154 1 rfl ?_
        refine z_iload hY eL_isPlayed_155 0 rfl ?_
        refine z_callVr (As := [z_i e]) (rest := []) (r := z_i (lp ρ1 e)) hY eL_isPlayed_156 (la_placeIn hG hI30 (e := e) (by omega)) ((gH_at (gS_X hI30) (by decide)).trans (congrArg some lC_40)) (by decide) (Nat.le_of_ble_eq_true rfl) (by rw [hmc, hms]; omega) ?_
        have hv5 := lp_b (gS_M hI30) (e := e)
        refine z_istore hY eL_isPlayed_159 (ls' := [(2, z_i (lp ρ1 e)), (1, z_i e), (0, .ref (A 40))]) rfl ?_
        refine z_aload hY eL_isPlayed_160 2 rfl ?_
        have hb6 := (gS_b hI30).s17 0
        refine g_gf hY (gS_X hI30) eL_isPlayed_161 (v := z_i (σ2 17 0)) rfl ?_
        refine z_iload hY eL_isPlayed_164 0 rfl ?_
        refine z_const hY eL_isPlayed_165 ?_
        refine z_isub hY eL_isPlayed_166 ?_
        refine z_callSr (As := [z_i (σ2 17 0), z_i ((lp ρ1 e) - 1)]) (rest := []) (r := z_i (if ((lp ρ1 e) - 1) < (σ2 17 0) then ((lp ρ1 e) - 1) else (σ2 17 0))) hY eL_isPlayed_167 (ma_min hG (by omega)) (by decide) (Nat.le_of_ble_eq_true rfl) (by rw [hmc, hms]; omega) ?_
        obtain ⟨M7, hM7⟩ : ∃ M : Int, M = if ((lp ρ1 e) - 1) < (σ2 17 0) then ((lp ρ1 e) - 1) else (σ2 17 0) := ⟨_, rfl⟩
        refine z_top (b := M7) hM7.symm ?_
        have hMs7 : (((lp ρ1 e) - 1) < (σ2 17 0) ∧ M7 = ((lp ρ1 e) - 1)) ∨ ((σ2 17 0) ≤ ((lp ρ1 e) - 1) ∧ M7 = (σ2 17 0)) := by rw [hM7]; split <;> omega
        refine z_istore hY eL_isPlayed_170 (ls' := [(3, z_i M7), (2, z_i (lp ρ1 e)), (1, z_i e), (0, .ref (A 40))]) rfl ?_
        refine z_aload hY eL_isPlayed_171 3 rfl ?_
        refine g_gf hY (gS_X hI30) eL_isPlayed_172 (v := .ref (B1 0 0)) rfl ?_
        refine z_iload hY eL_isPlayed_175 2 rfl ?_
        have hcp := gS_cpr hI30 hp
        have hk17 : κ1 18 0 0 = σ2 17 0 := (gS_R hI30).a.2.2.1.trans (gS_26 hI30)
        refine z_callV (As := [z_i e]) (rest := []) hY eL_isPlayed_176 (q_mayChallenge (D := D) (h := lH A (B1 0 0) σ2 h1) hG (gS_J hI30) (gS_B hI30) (gS_V hI30) (gS_S hI30) (by omega)) (cH_at (t := 0) (i := 0) (gS_J hI30) (by omega)) (by decide) (Nat.le_of_ble_eq_true rfl) (by rw [hmc, hms]; omega) (fun E9 h9 q => by obtain ⟨-, q⟩ := q; exfalso; omega) (fun vv9 hh9 q9 => ?_)
        obtain ⟨-, rfl, rfl⟩ := q9
        refine z_heq (show _ = gH D B1 κ1 A σ2 h1 from rfl) ?_
        refine z_top (b := M7) (by rw [(gS_R hI30).aLp, if_neg (by omega)]; split <;> omega) ?_
        refine z_iload hY eL_isPlayed_179 0 rfl ?_
        refine z_icmpeq hY eL_isPlayed_180 (by omega) (fun c180 => ?_) (fun c180 => by exfalso; omega)
        refine z_iload hY eL_isPlayed_185 0 rfl ?_
        refine z_ifne hY eL_isPlayed_186 (by omega) (fun c186 => ?_) (fun c186 => ?_)
        · refine z_const hY eL_isPlayed_207 ?_
          refine z_aload hY eL_isPlayed_208 3 rfl ?_
          refine z_iload hY eL_isPlayed_209 0 rfl ?_
          refine z_callV (As := [z_i M7]) (rest := [z_i 1]) hY eL_isPlayed_210 (la_next (B := B1) (κ := κ1) (σ := σ2) hG (gS_X hI30) (n := M7) (by omega)) ((gH_at (gS_X hI30) (by decide)).trans (congrArg some lC_40)) (by decide) (Nat.le_of_ble_eq_true rfl) (by rw [hmc, hms]; omega) (fun _ _ q => q.elim) (fun vv11 hh11 q11 => ?_)
          obtain ⟨r10, X10, rfl, hr10, hX10, rfl⟩ := q11
          refine z_iadd hY eL_isPlayed_213 ?_
          refine z_top (b := r10 + 1) (by omega) ?_
          refine z_istore hY eL_isPlayed_214 (ls' := [(4, z_i (r10 + 1)), (3, z_i M7), (2, z_i (lp ρ1 e)), (1, z_i e), (0, .ref (A 40))]) rfl ?_
          refine z_aload hY eL_isPlayed_216 4 rfl ?_
          refine g_gf hY (gS_X hI30) eL_isPlayed_217 (v := .ref (A 9)) rfl ?_
          refine z_iload hY eL_isPlayed_220 2 rfl ?_
          refine z_const hY eL_isPlayed_221 ?_
          refine z_isub hY eL_isPlayed_222 ?_
          refine z_iload hY eL_isPlayed_223 0 rfl ?_
          refine z_isub hY eL_isPlayed_225 ?_
          refine z_top (b := (lp ρ1 e) - r10 - 2) (by omega) ?_
          have hb99 : 0 ≤ lp ρ1 e - 1 ∧ lp ρ1 e ≤ 30 := by omega
          have hb12 := (gS_b hI30).s9 ((lp ρ1 e) - r10 - 2)
          refine g_ial hY (gS_X hI30) eL_isPlayed_226 (j := 9) (N := 30) (x := σ2 9 ((lp ρ1 e) - r10 - 2)) (by decide) rfl (by omega) (congrFun (z_u_ne (by decide)) _) ?_
          obtain ⟨f, hf0⟩ : ∃ f : Int, f = σ2 9 ((lp ρ1 e) - r10 - 2) := ⟨_, rfl⟩
          refine z_top (b := f) hf0.symm ?_
          have hlf := (w_lad hI30).2 ((lp ρ1 e) - r10 - 2) (by omega) (by omega)
          rw [← hf0] at hlf
          have hpf := hlf.1
          have hpfb := gS_pb hI30 hpf
          have hff := hlf.2.2.1
          refine z_istore hY eL_isPlayed_227 (ls' := [(5, z_i f), (4, z_i (r10 + 1)), (3, z_i M7), (2, z_i (lp ρ1 e)), (1, z_i e), (0, .ref (A 40))]) rfl ?_
          refine z_aload hY eL_isPlayed_229 5 rfl ?_
          refine z_const hY eL_isPlayed_230 ?_
          refine z_callV (As := [z_i 3]) (rest := []) hY eL_isPlayed_231 (la_next (B := B1) (κ := κ1) (σ := (z_u σ2 0 0 X10)) hG (gS_X hI30) (n := 3) (by omega)) ((gH_at (gS_X hI30) (by decide)).trans (congrArg some lC_40)) (by decide) (Nat.le_of_ble_eq_true rfl) (by rw [hmc, hms]; omega) (fun _ _ q => q.elim) (fun vv14 hh14 q14 => ?_)
          obtain ⟨r13, X13, rfl, hr13, hX13, rfl⟩ := q14
          refine z_ifle hY eL_isPlayed_234 (by omega) (fun c234 => ?_) (fun c234 => ?_)
          · refine z_const hY eL_isPlayed_241 ?_
            refine z_istore hY eL_isPlayed_242 (ls' := [(6, z_i 0), (5, z_i f), (4, z_i (r10 + 1)), (3, z_i M7), (2, z_i (lp ρ1 e)), (1, z_i e), (0, .ref (A 40))]) rfl ?_
            refine z_aload hY eL_isPlayed_244 6 rfl ?_
            refine g_gf hY (gS_X hI30) eL_isPlayed_245 (v := .ref (A 11)) rfl ?_
            refine z_iload hY eL_isPlayed_248 5 rfl ?_
            refine z_aload hY eL_isPlayed_249 6 rfl ?_
            have hb15 := (gS_b hI30).s19 0
            refine g_gf hY (gS_X hI30) eL_isPlayed_250 (v := z_i (σ2 19 0)) (congrArg (fun q => some (z_i q)) (Eq.trans (congrFun (z_u_ne (by decide)) _) (congrFun (z_u_ne (by decide)) _))) ?_
            refine g_ias hY (gS_X hI30) eL_isPlayed_253 (j := 11) (N := 30) (by decide) (fun _ => rfl) (by omega) ?_
            refine z_aload hY eL_isPlayed_254 6 rfl ?_
            refine g_gf hY (gS_X hI30) eL_isPlayed_255 (v := .ref (A 11)) rfl ?_
            refine z_iload hY eL_isPlayed_258 1 rfl ?_
            refine z_aload hY eL_isPlayed_260 6 rfl ?_
            refine g_gf hY (gS_X hI30) eL_isPlayed_261 (v := z_i (σ2 19 0)) (congrArg (fun q => some (z_i q)) (Eq.trans (congrFun (z_u_ne (by decide)) _) (Eq.trans (congrFun (z_u_ne (by decide)) _) (congrFun (z_u_ne (by decide)) _)))) ?_
            refine g_ias hY (gS_X hI30) eL_isPlayed_264 (j := 11) (N := 30) (by decide) (fun _ => rfl) (by omega) ?_
            refine z_aload hY eL_isPlayed_265 6 rfl ?_
            refine g_gf hY (gS_X hI30) eL_isPlayed_266 (v := .ref (B1 0 0)) rfl ?_
            refine z_iload hY eL_isPlayed_269 5 rfl ?_
            refine z_iload hY eL_isPlayed_270 1 rfl ?_
            refine z_iload hY eL_isPlayed_272 0 rfl ?_
            have hP16 : gS t m o B1 κ1 A ρ1 (z_u (z_u σ2 0 0 X10) 0 0 X13) := (gS_E hI30 (wE_u (wE_u wE_r (by decide)) (by decide)) (wB_u (wB_u (gS_b hI30) (by show (-2147483648 : Int) ≤ _ ∧ _ ≤ (2147483647 : Int); omega)) (by show (-2147483648 : Int) ≤ _ ∧ _ ≤ (2147483647 : Int); omega)))
            have hal := (gS_R hP16).aLp e
            have haf := (gS_R hP16).aLp f
            have hcf := gS_cpr hP16 hpf
            refine z_callV (As := [z_i e, z_i f, z_i 0]) (rest := []) hY eL_isPlayed_274 (q_challenge (D := D) (h := lH A (B1 0 0) (z_u (z_u (z_u (z_u σ2 0 0 X10) 0 0 X13) 11 e (σ2 19 0)) 11 f (σ2 19 0)) h1) hG hD hM (gS_J hI30) (gS_B hI30) (gS_V hI30) (gS_S hI30) (by omega) (by omega) (by decide)) (cH_at (t := 0) (i := 0) (gS_J hI30) (by omega)) (by decide) (Nat.le_of_ble_eq_true rfl) (by rw [hmc, hms]; omega) (fun E9 h9 q => by obtain ⟨-, q⟩ := q; exfalso; omega) (fun vv18 hh18 q18 => ?_)
            obtain ⟨-, rfl, κ17, B17, g17, rfl, hc17, hrel17⟩ := q18
            obtain ⟨hgb17, hgX17, hgP17⟩ := gH_back (D := D) (gS_X hI30) hc17
            refine z_heq hgb17 ?_
            rw [if_pos rfl] at hrel17
            refine z_top (b := cLp κ1 e) (if_pos rfl) ?_
            obtain ⟨σ19, hs19⟩ : ∃ qq, qq = z_u (z_u (z_u (z_u σ2 0 0 X10) 0 0 X13) 11 e (σ2 19 0)) 11 f (σ2 19 0) := ⟨_, rfl⟩
            refine z_heq (congrArg (fun q => gH D B17 κ17 A q g17) hs19.symm) ?_
            have hI17 : gS t m o B17 κ17 A (yCh ρ1 e f 0) σ19 := by rw [hs19]; exact w_ch0 hP16 (by omega) (by omega) hrel17 hgX17 hc17.1 hc17.2.1
            have hn14_17 : σ19 14 0 = σ2 14 0 := by rw [hs19]; rfl
            refine z_iload hY eL_isPlayed_277 0 rfl ?_
            refine z_ifeq hY eL_isPlayed_279 (by omega) (fun _ => ?_) (fun c => absurd c (by omega))
            refine z_iload hY eL_isPlayed_289 4 rfl ?_
            refine z_icmpeq hY eL_isPlayed_290 (by omega) (fun c290 => ?_) (fun c290 => by exfalso; omega)
            refine z_const hY eL_isPlayed_295 ?_
            refine z_istore hY eL_isPlayed_296 (ls' := [(7, z_i 0), (6, z_i 0), (5, z_i f), (4, z_i (r10 + 1)), (3, z_i M7), (2, z_i (lp ρ1 e)), (1, z_i e), (0, .ref (A 40))]) rfl ?_
            refine z_iload hY eL_isPlayed_298 1 rfl ?_
            refine z_ifeq hY eL_isPlayed_300 (by omega) (fun _ => ?_) (fun c => absurd c (by omega))
            refine z_iload hY eL_isPlayed_338 1 rfl ?_
            refine z_ifeq hY eL_isPlayed_340 (by omega) (fun _ => ?_) (fun c => absurd c (by omega))
            refine z_const hY eL_isPlayed_355 ?_
            exact z_zreturn hY eL_isPlayed_356 rfl (by omega) (by rw [hφ]; exact ⟨κ17, B17, (yCh ρ1 e f 0), σ19, g17, rfl, hI17, by omega, rfl⟩) (by rw [hmc, hms]; omega)
          · refine z_const hY eL_isPlayed_237 ?_
            refine z_goto hY eL_isPlayed_238 ?_
            refine z_istore hY eL_isPlayed_242 (ls' := [(6, z_i 1), (5, z_i f), (4, z_i (r10 + 1)), (3, z_i M7), (2, z_i (lp ρ1 e)), (1, z_i e), (0, .ref (A 40))]) rfl ?_
            refine z_aload hY eL_isPlayed_244 6 rfl ?_
            refine g_gf hY (gS_X hI30) eL_isPlayed_245 (v := .ref (A 11)) rfl ?_
            refine z_iload hY eL_isPlayed_248 5 rfl ?_
            refine z_aload hY eL_isPlayed_249 6 rfl ?_
            have hb20 := (gS_b hI30).s19 0
            refine g_gf hY (gS_X hI30) eL_isPlayed_250 (v := z_i (σ2 19 0)) (congrArg (fun q => some (z_i q)) (Eq.trans (congrFun (z_u_ne (by decide)) _) (congrFun (z_u_ne (by decide)) _))) ?_
            refine g_ias hY (gS_X hI30) eL_isPlayed_253 (j := 11) (N := 30) (by decide) (fun _ => rfl) (by omega) ?_
            refine z_aload hY eL_isPlayed_254 6 rfl ?_
            refine g_gf hY (gS_X hI30) eL_isPlayed_255 (v := .ref (A 11)) rfl ?_
            refine z_iload hY eL_isPlayed_258 1 rfl ?_
            refine z_aload hY eL_isPlayed_260 6 rfl ?_
            refine g_gf hY (gS_X hI30) eL_isPlayed_261 (v := z_i (σ2 19 0)) (congrArg (fun q => some (z_i q)) (Eq.trans (congrFun (z_u_ne (by decide)) _) (Eq.trans (congrFun (z_u_ne (by decide)) _) (congrFun (z_u_ne (by decide)) _)))) ?_
            refine g_ias hY (gS_X hI30) eL_isPlayed_264 (j := 11) (N := 30) (by decide) (fun _ => rfl) (by omega) ?_
            refine z_aload hY eL_isPlayed_265 6 rfl ?_
            refine g_gf hY (gS_X hI30) eL_isPlayed_266 (v := .ref (B1 0 0)) rfl ?_
            refine z_iload hY eL_isPlayed_269 5 rfl ?_
            refine z_iload hY eL_isPlayed_270 1 rfl ?_
            refine z_iload hY eL_isPlayed_272 0 rfl ?_
            have hP21 : gS t m o B1 κ1 A ρ1 (z_u (z_u σ2 0 0 X10) 0 0 X13) := (gS_E hI30 (wE_u (wE_u wE_r (by decide)) (by decide)) (wB_u (wB_u (gS_b hI30) (by show (-2147483648 : Int) ≤ _ ∧ _ ≤ (2147483647 : Int); omega)) (by show (-2147483648 : Int) ≤ _ ∧ _ ≤ (2147483647 : Int); omega)))
            have hal := (gS_R hP21).aLp e
            have haf := (gS_R hP21).aLp f
            have hcf := gS_cpr hP21 hpf
            refine z_callV (As := [z_i e, z_i f, z_i 1]) (rest := []) hY eL_isPlayed_274 (q_challenge (D := D) (h := lH A (B1 0 0) (z_u (z_u (z_u (z_u σ2 0 0 X10) 0 0 X13) 11 e (σ2 19 0)) 11 f (σ2 19 0)) h1) hG hD hM (gS_J hI30) (gS_B hI30) (gS_V hI30) (gS_S hI30) (by omega) (by omega) (by decide)) (cH_at (t := 0) (i := 0) (gS_J hI30) (by omega)) (by decide) (Nat.le_of_ble_eq_true rfl) (by rw [hmc, hms]; omega) (fun E9 h9 q => by obtain ⟨-, q⟩ := q; exfalso; omega) (fun vv23 hh23 q23 => ?_)
            obtain ⟨-, rfl, κ22, B22, g22, rfl, hc22, hrel22⟩ := q23
            obtain ⟨hgb22, hgX22, hgP22⟩ := gH_back (D := D) (gS_X hI30) hc22
            refine z_heq hgb22 ?_
            rw [if_neg (by decide)] at hrel22
            obtain ⟨N22, hrel22⟩ := hrel22
            refine z_top (b := cLp κ1 f) (if_neg (by decide)) ?_
            rw [hal, haf] at hrel22
            refine z_iload hY eL_isPlayed_277 0 rfl ?_
            refine z_ifeq hY eL_isPlayed_279 (by omega) (fun c => absurd c (by omega)) (fun _ => ?_)
            refine z_iload hY eL_isPlayed_282 4 rfl ?_
            refine z_iload hY eL_isPlayed_283 2 rfl ?_
            refine z_isub hY eL_isPlayed_285 ?_
            refine z_top (b := (lp ρ1 e) - r10 - 1) (by omega) ?_
            refine z_goto hY eL_isPlayed_286 ?_
            refine z_icmpeq hY eL_isPlayed_290 (by omega) (fun c290 => ?_) (fun c290 => by exfalso; omega)
            refine z_const hY eL_isPlayed_295 ?_
            refine z_istore hY eL_isPlayed_296 (ls' := [(7, z_i 0), (6, z_i 1), (5, z_i f), (4, z_i (r10 + 1)), (3, z_i M7), (2, z_i (lp ρ1 e)), (1, z_i e), (0, .ref (A 40))]) rfl ?_
            refine z_sub [7, 6, 5, 4, 3, 2, 1, 0] (ls' := [(0, .ref (A 40)), (1, z_i e), (2, z_i (lp ρ1 e)), (3, z_i M7), (4, z_i (r10 + 1)), (5, z_i f), (6, z_i 1), (7, z_i 0)]) rfl ?_
            have lp298 : ∀ (fu : Nat) (j : Int) (σ3 : z_S), ((r10 + 1) - j).toNat < fu → (0 ≤ j ∧ j ≤ (r10 + 1)) → (∀ k, k ≠ 9 → σ3 k = (z_u (z_u (z_u (z_u σ2 0 0 X10) 0 0 X13) 11 e (σ2 19 0)) 11 f (σ2 19 0)) k) → (wB σ3) → (∀ i, 0 ≤ i → i < σ2 16 0 → σ3 9 i = if lp ρ1 e - 1 - j < i ∧ i ≤ lp ρ1 e - 1 then σ2 9 (i - 1) else σ2 9 i) → z_W Y 298 [(0, .ref (A 40)), (1, z_i e), (2, z_i (lp ρ1 e)), (3, z_i M7), (4, z_i (r10 + 1)), (5, z_i f), (6, z_i 1), (7, z_i j)] [] (gH D B22 κ22 A σ3 g22) (2 + 0 + 1 + 0 + 0 + 4) (12 + 0 + 6 + 0 + 0 + 63) := by
              intro fu
              induction fu with
              | zero => intro j σ3 hf; exact absurd hf (Nat.not_lt_zero _)
              | succ fu ih298 =>
                intro j σ3 hf hj hF3 hw3 hL3
                refine z_iload hY eL_isPlayed_298 6 rfl ?_
                refine z_ifeq hY eL_isPlayed_300 (by omega) (fun c => absurd c (by omega)) (fun _ => ?_)
                refine z_iload hY eL_isPlayed_303 7 rfl ?_
                refine z_iload hY eL_isPlayed_305 4 rfl ?_
                refine z_icmpge hY eL_isPlayed_307 (by omega) (fun c307 => ?_) (fun c307 => ?_)
                · refine z_iload hY eL_isPlayed_338 6 rfl ?_
                  refine z_ifeq hY eL_isPlayed_340 (by omega) (fun c => absurd c (by omega)) (fun _ => ?_)
                  refine z_aload hY eL_isPlayed_343 0 rfl ?_
                  refine g_gf hY hgX22 eL_isPlayed_344 (v := .ref (A 9)) rfl ?_
                  refine z_iload hY eL_isPlayed_347 2 rfl ?_
                  refine z_const hY eL_isPlayed_348 ?_
                  refine z_isub hY eL_isPlayed_349 ?_
                  refine z_iload hY eL_isPlayed_350 4 rfl ?_
                  refine z_isub hY eL_isPlayed_352 ?_
                  refine z_top (b := (lp ρ1 e) - r10 - 2) (by omega) ?_
                  refine z_iload hY eL_isPlayed_353 1 rfl ?_
                  refine g_ias hY hgX22 eL_isPlayed_354 (j := 9) (N := 30) (by decide) (fun _ => rfl) (by omega) ?_
                  refine z_const hY eL_isPlayed_355 ?_
                  exact z_zreturn hY eL_isPlayed_356 rfl (by omega) (by rw [hφ]; have hL9 : ∀ i, 0 ≤ i → i < σ2 16 0 → z_u σ3 9 ((lp ρ1 e) - r10 - 2) e 9 i = if i = lp ρ1 f - 1 then e else if lp ρ1 f - 1 < i ∧ i ≤ lp ρ1 e - 1 then σ2 9 (i - 1) else σ2 9 i := (fun i i0 i1 => by by_cases c9 : i = ((lp ρ1 e) - r10 - 2); (rw [c9, z_u_at, if_pos (by omega)]); (rw [z_u_at' c9, hL3 i i0 i1, if_neg (show ¬ i = lp ρ1 f - 1 by omega)]; by_cases c8 : lp ρ1 f - 1 < i ∧ i ≤ lp ρ1 e - 1; (rw [if_pos (show lp ρ1 e - 1 - j < i ∧ i ≤ lp ρ1 e - 1 by omega), if_pos c8]); (rw [if_neg (show ¬ (lp ρ1 e - 1 - j < i ∧ i ≤ lp ρ1 e - 1) by omega), if_neg c8]))); exact ⟨κ22, B22, yCh ρ1 e f 1, (z_u σ3 9 ((lp ρ1 e) - r10 - 2) e), g22, rfl, w_ch1 hP21 (by omega) (by omega) (by omega) hrel22 (fun k k1 => (z_u_ne k1).trans (hF3 k k1)) (fun i i0 i1 => hL9 i i0 i1) (wB_u hw3 (by show (0 : Int) ≤ _ ∧ _ ≤ (29 : Int); omega)) hgX22 hc22.1 hc22.2.1, by show σ3 14 0 = σ 14 0; rw [hF3 14 (by decide)]; show σ2 14 0 = σ 14 0; omega, rfl⟩) (by rw [hmc, hms]; omega)
                · refine z_aload hY eL_isPlayed_310 0 rfl ?_
                  refine g_gf hY hgX22 eL_isPlayed_311 (v := .ref (A 9)) rfl ?_
                  refine z_iload hY eL_isPlayed_314 2 rfl ?_
                  refine z_const hY eL_isPlayed_315 ?_
                  refine z_isub hY eL_isPlayed_316 ?_
                  refine z_iload hY eL_isPlayed_317 7 rfl ?_
                  refine z_isub hY eL_isPlayed_319 ?_
                  refine z_top (b := (lp ρ1 e) - j - 1) (by omega) ?_
                  refine z_aload hY eL_isPlayed_320 0 rfl ?_
                  refine g_gf hY hgX22 eL_isPlayed_321 (v := .ref (A 9)) rfl ?_
                  refine z_iload hY eL_isPlayed_324 2 rfl ?_
                  refine z_const hY eL_isPlayed_325 ?_
                  refine z_isub hY eL_isPlayed_326 ?_
                  refine z_iload hY eL_isPlayed_327 7 rfl ?_
                  refine z_isub hY eL_isPlayed_329 ?_
                  refine z_top (b := (lp ρ1 e) - j - 2) (by omega) ?_
                  have hb24 := hw3.s9 ((lp ρ1 e) - j - 2)
                  refine g_ial hY hgX22 eL_isPlayed_330 (j := 9) (N := 30) (x := σ3 9 ((lp ρ1 e) - j - 2)) (by decide) rfl (by omega) rfl ?_
                  refine g_ias hY hgX22 eL_isPlayed_331 (j := 9) (N := 30) (by decide) (fun _ => rfl) (by omega) ?_
                  refine z_iinc hY eL_isPlayed_332 7 rfl (ls' := [(7, z_i (j + 1)), (0, .ref (A 40)), (1, z_i e), (2, z_i (lp ρ1 e)), (3, z_i M7), (4, z_i (r10 + 1)), (5, z_i f), (6, z_i 1)]) rfl ?_
                  refine z_goto hY eL_isPlayed_335 ?_
                  refine z_sub [1, 2, 3, 4, 5, 6, 7, 0] (ls' := [(0, .ref (A 40)), (1, z_i e), (2, z_i (lp ρ1 e)), (3, z_i M7), (4, z_i (r10 + 1)), (5, z_i f), (6, z_i 1), (7, z_i (j + 1))]) rfl ?_
                  exact ih298 (j + 1) (z_u σ3 9 ((lp ρ1 e) - j - 1) (σ3 9 ((lp ρ1 e) - j - 2))) (by omega) (by omega) (fun k k1 => (z_u_ne k1).trans (hF3 k k1)) (wB_u hw3 (by show (0 : Int) ≤ _ ∧ _ ≤ (29 : Int); omega)) (fun i i0 i1 => by by_cases c9 : i = lp ρ1 e - j - 1; (rw [c9, z_u_at, hL3 (lp ρ1 e - j - 2) (by omega) (by omega), if_neg (by omega), if_pos (by omega)]; congr 1; omega); (rw [z_u_at' c9, hL3 i i0 i1]; by_cases c8 : lp ρ1 e - 1 - j < i ∧ i ≤ lp ρ1 e - 1; (rw [if_pos c8, if_pos (by omega)]); (rw [if_neg c8, if_neg (by omega)])))
            exact lp298 _ 0 (z_u (z_u (z_u (z_u σ2 0 0 X10) 0 0 X13) 11 e (σ2 19 0)) 11 f (σ2 19 0)) (Nat.lt_succ_self _) (by omega) (fun _ _ => rfl) (wB_u (wB_u (wB_u (wB_u (gS_b hI30) (by show (-2147483648 : Int) ≤ _ ∧ _ ≤ (2147483647 : Int); omega)) (by show (-2147483648 : Int) ≤ _ ∧ _ ≤ (2147483647 : Int); omega)) (by show (-1 : Int) ≤ _ ∧ _ ≤ (40 : Int); omega)) (by show (-1 : Int) ≤ _ ∧ _ ≤ (40 : Int); omega)) (fun i i0 i1 => by rw [if_neg (by omega)]; rfl)
        · have hla : κ1 34 (κ1 20 3 (1 - 1)) 0 = σ2 9 0 := ((w_lad hI30).2 0 (by omega) (by omega)).2.2.2.1
          have hla2 := (hl2 0 (by omega) (by omega)).mpr (by omega)
          have hla3 := (w_lad hI30).1
          refine z_aload hY eL_isPlayed_189 3 rfl ?_
          refine g_gf hY (gS_X hI30) eL_isPlayed_190 (v := .ref (B1 0 0)) rfl ?_
          refine z_const hY eL_isPlayed_193 ?_
          refine z_callV (As := [z_i 1]) (rest := []) hY eL_isPlayed_194 (q_ladderAt (D := D) (h := lH A (B1 0 0) σ2 h1) hG (gS_J hI30) (gS_B hI30) (gS_V hI30) (gS_S hI30) (by omega)) (cH_at (t := 0) (i := 0) (gS_J hI30) (by omega)) (by decide) (Nat.le_of_ble_eq_true rfl) (by rw [hmc, hms]; omega) (fun E9 h9 q => by obtain ⟨-, q⟩ := q; exfalso; omega) (fun vv26 hh26 q26 => ?_)
          obtain ⟨-, rfl, rfl⟩ := q26
          refine z_heq (show _ = gH D B1 κ1 A σ2 h1 from rfl) ?_
          refine z_iload hY eL_isPlayed_197 2 rfl ?_
          refine z_icmpne hY eL_isPlayed_198 (by omega) (fun c198 => by exfalso; omega) (fun c198 => ?_)
          refine z_const hY eL_isPlayed_201 ?_
          refine z_goto hY eL_isPlayed_202 ?_
          exact z_zreturn hY eL_isPlayed_206 rfl (by omega) (by rw [hφ]; exact ⟨κ1, B1, ρ1, σ2, h1, rfl, hI30, by omega, rfl⟩) (by rw [hmc, hms]; omega)
      · have h25 := gS_25 hI30
        have h19 := gS_19 hI30
        have hb16 := (gS_b hI30).s16 0
        have hll := lad_lt (gS_j hI30) hp (by omega)
        refine z_aload hY eL_isPlayed_96 1 rfl ?_
        refine g_gf hY (gS_X hI30) eL_isPlayed_97 (v := .ref (A 9)) rfl ?_
        refine z_aload hY eL_isPlayed_100 1 rfl ?_
        have hb27 := (gS_b hI30).s16 0
        refine g_gf hY (gS_X hI30) eL_isPlayed_101 (v := z_i (σ2 16 0)) rfl ?_
        refine z_iload hY eL_isPlayed_104 0 rfl ?_
        refine g_ias hY (gS_X hI30) eL_isPlayed_105 (j := 9) (N := 30) (by decide) (fun _ => rfl) (by omega) ?_
        refine z_aload hY eL_isPlayed_106 1 rfl ?_
        refine z_dup hY eL_isPlayed_107 rfl ?_
        refine g_gf hY (gS_X hI30) eL_isPlayed_108 (v := z_i (σ2 16 0)) (congrArg (fun q => some (z_i q)) (congrFun (z_u_ne (by decide)) _)) ?_
        refine z_const hY eL_isPlayed_111 ?_
        refine z_iadd hY eL_isPlayed_112 ?_
        refine g_pf hY (gS_X hI30) eL_isPlayed_113 (by decide) ?_
        refine z_aload hY eL_isPlayed_116 1 rfl ?_
        refine g_gf hY (gS_X hI30) eL_isPlayed_117 (v := .ref (A 10)) rfl ?_
        refine z_iload hY eL_isPlayed_120 0 rfl ?_
        refine z_aload hY eL_isPlayed_121 1 rfl ?_
        have hb28 := (gS_b hI30).s19 0
        refine g_gf hY (gS_X hI30) eL_isPlayed_122 (v := z_i (σ2 19 0)) (congrArg (fun q => some (z_i q)) (Eq.trans (congrFun (z_u_ne (by decide)) _) (congrFun (z_u_ne (by decide)) _))) ?_
        refine g_ias hY (gS_X hI30) eL_isPlayed_125 (j := 10) (N := 30) (by decide) (fun _ => rfl) (by omega) ?_
        refine z_aload hY eL_isPlayed_126 1 rfl ?_
        refine g_gf hY (gS_X hI30) eL_isPlayed_127 (v := .ref (A 11)) rfl ?_
        refine z_iload hY eL_isPlayed_130 0 rfl ?_
        refine z_const hY eL_isPlayed_131 ?_
        refine g_ias hY (gS_X hI30) eL_isPlayed_132 (j := 11) (N := 30) (by decide) (fun _ => rfl) (by omega) ?_
        refine z_aload hY eL_isPlayed_133 1 rfl ?_
        refine g_gf hY (gS_X hI30) eL_isPlayed_134 (v := .ref (B1 0 0)) rfl ?_
        refine z_iload hY eL_isPlayed_137 0 rfl ?_
        have hal := (gS_R hI30).aLp e
        have hcp := gS_cpr hI30 hp
        have hll := lad_lt (gS_j hI30) hp (by omega)
        have hl1 := (gS_R hI30).l.1
        have hl2 := (gS_R hI30).n
        have h25 := gS_25 hI30
        refine z_callV (As := [z_i e]) (rest := []) hY eL_isPlayed_138 (q_enter (D := D) (h := lH A (B1 0 0) (z_u (z_u (z_u (z_u σ2 9 (σ2 16 0) e) 16 0 ((σ2 16 0) + 1)) 10 e (σ2 19 0)) 11 e (-1)) h1) hG hD hM (gS_J hI30) (gS_B hI30) (gS_V hI30) (gS_S hI30) (by omega) (fun _ _ => by omega)) (cH_at (t := 0) (i := 0) (gS_J hI30) (by omega)) (by decide) (Nat.le_of_ble_eq_true rfl) (by rw [hmc, hms]; omega) (fun E9 h9 q => by obtain ⟨-, q⟩ := q; exfalso; omega) (fun vv30 hh30 q30 => ?_)
        obtain ⟨-, rfl, κ29, B29, g29, rfl, hc29, N129, hrel29⟩ := q30
        obtain ⟨hgb29, hgX29, hgP29⟩ := gH_back (D := D) (gS_X hI30) hc29
        refine z_heq hgb29 ?_
        obtain ⟨σ31, hs31⟩ : ∃ qq, qq = z_u (z_u (z_u (z_u σ2 9 (σ2 16 0) e) 16 0 ((σ2 16 0) + 1)) 10 e (σ2 19 0)) 11 e (-1) := ⟨_, rfl⟩
        refine z_heq (congrArg (fun q => gH D B29 κ29 A q g29) hs31.symm) ?_
        have hI29 : gS t m o B29 κ29 A (yEn ρ1 e) σ31 := by rw [hs31]; exact w_enter hI30 hp (by omega) hrel29 hgX29 hc29.1 hc29.2.1
        have hn14_29 : σ31 14 0 = σ2 14 0 := by rw [hs31]; rfl
        have hn16 : σ31 16 0 = σ2 16 0 + 1 := by rw [hs31]; rfl
        refine z_aload hY eL_isPlayed_141 1 rfl ?_
        have hb32 := (gS_b hI29).s16 0
        refine g_gf hY (gS_X hI29) eL_isPlayed_142 (v := z_i (σ31 16 0)) rfl ?_
        refine z_icmpne hY eL_isPlayed_145 (by omega) (fun c145 => by exfalso; omega) (fun c145 => ?_)
        refine z_const hY eL_isPlayed_148 ?_
        refine z_goto hY eL_isPlayed_149 ?_
        exact z_zreturn hY eL_isPlayed_153 rfl (by omega) (by rw [hφ]; exact ⟨κ29, B29, (yEn ρ1 e), σ31, g29, rfl, hI29, by omega, rfl⟩) (by rw [hmc, hms]; omega)
    · refine z_const hY eL_isPlayed_85 ?_
      exact z_zreturn hY eL_isPlayed_86 rfl (by omega) (by rw [hφ]; exact ⟨κ1, B1, ρ1, σ2, h1, rfl, hI30, by omega, rfl⟩) (by rw [hmc, hms]; omega)
  refine z_aload hY eL_isPlayed_0 0 rfl ?_
  refine z_const hY eL_isPlayed_1 ?_
  refine z_callV (As := [z_i 6]) (rest := []) hY eL_isPlayed_3 (la_next (B := B) (κ := κ) (σ := σ) hG (gS_X hI) (n := 6) (by omega)) ((gH_at (gS_X hI) (by decide)).trans (congrArg some lC_40)) (by decide) (Nat.le_of_ble_eq_true rfl) ⟨Nat.zero_le _, Nat.zero_le _⟩ (fun _ _ q => q.elim) (fun vv34 hh34 q34 => ?_)
  obtain ⟨r33, X33, rfl, hr33, hX33, rfl⟩ := q34
  refine z_ifne hY eL_isPlayed_6 (by omega) (fun c6 => ?_) (fun c6 => ?_)
  · have hI350 : gS t m o B κ A ρ (z_u σ 0 0 X33) := (gS_E hI (wE_u wE_r (by decide)) (wB_u (gS_b hI) (by show (-2147483648 : Int) ≤ _ ∧ _ ≤ (2147483647 : Int); omega)))
    obtain ⟨σ35, hs35⟩ : ∃ qq, qq = z_u σ 0 0 X33 := ⟨_, rfl⟩
    refine z_heq (congrArg (fun q => gH D B κ A q h) hs35.symm) ?_
    rw [← hs35] at hI350
    have hn14_35 : σ35 14 0 = σ 14 0 := by rw [hs35]; try rfl
    have hJ36 : gS t m o B κ A ρ σ35 := hI350
    refine z_widen (k' := 2) (n' := 12) (by omega) (by omega) ?_
    exact rest75 κ B ρ σ35 h  hJ36 (by omega)
  · refine z_aload hY eL_isPlayed_9 0 rfl ?_
    have hb37 := (gS_b hI).s17 0
    refine g_gf hY (gS_X hI) eL_isPlayed_10 (v := z_i (σ 17 0)) (congrArg (fun q => some (z_i q)) (congrFun (z_u_ne (by decide)) _)) ?_
    refine z_istore hY eL_isPlayed_13 (ls' := [(1, z_i (σ 17 0)), (0, .ref (A 40))]) rfl ?_
    refine z_aload hY eL_isPlayed_14 1 rfl ?_
    refine z_const hY eL_isPlayed_15 ?_
    refine z_aload hY eL_isPlayed_16 1 rfl ?_
    refine z_const hY eL_isPlayed_17 ?_
    refine z_callV (As := [z_i 5]) (rest := [z_i 1, .ref (A 40)]) hY eL_isPlayed_18 (la_next (B := B) (κ := κ) (σ := (z_u σ 0 0 X33)) hG (gS_X hI) (n := 5) (by omega)) ((gH_at (gS_X hI) (by decide)).trans (congrArg some lC_40)) (by decide) (Nat.le_of_ble_eq_true rfl) ⟨Nat.zero_le _, Nat.zero_le _⟩ (fun _ _ q => q.elim) (fun vv39 hh39 q39 => ?_)
    obtain ⟨r38, X38, rfl, hr38, hX38, rfl⟩ := q39
    refine z_iadd hY eL_isPlayed_21 ?_
    refine z_top (b := r38 + 1) (by omega) ?_
    refine g_pf hY (gS_X hI) eL_isPlayed_22 (by decide) ?_
    refine z_aload hY eL_isPlayed_25 1 rfl ?_
    refine g_gf hY (gS_X hI) eL_isPlayed_26 (v := .ref (B 0 0)) rfl ?_
    refine z_aload hY eL_isPlayed_29 1 rfl ?_
    refine g_gf hY (gS_X hI) eL_isPlayed_30 (v := z_i (r38 + 1)) (congrArg (fun q => some (z_i q)) z_u_at) ?_
    have hP40 : gS t m o B κ A ρ (z_u (z_u σ 0 0 X33) 0 0 X38) := (gS_E hI (wE_u (wE_u wE_r (by decide)) (by decide)) (wB_u (wB_u (gS_b hI) (by show (-2147483648 : Int) ≤ _ ∧ _ ≤ (2147483647 : Int); omega)) (by show (-2147483648 : Int) ≤ _ ∧ _ ≤ (2147483647 : Int); omega)))
    have hk17 : κ 18 0 0 = σ 17 0 := (gS_R hP40).a.2.2.1.trans (gS_26 hI)
    refine z_callV (As := [z_i (r38 + 1)]) (rest := []) hY eL_isPlayed_33 (q_setReach (D := D) (h := lH A (B 0 0) (z_u (z_u (z_u σ 0 0 X33) 0 0 X38) 17 0 (r38 + 1)) h) hG hD hM (gS_J hP40) (gS_B hP40) (gS_V hP40) (gS_S hP40) (by omega)) (cH_at (t := 0) (i := 0) (gS_J hP40) (by omega)) (by decide) (Nat.le_of_ble_eq_true rfl) (by rw [hmc, hms]; omega) (fun E9 h9 q => by obtain ⟨-, q⟩ := q; exfalso; omega) (fun vv42 hh42 q42 => ?_)
    obtain ⟨-, rfl, κ41, B41, g41, rfl, hc41, hrel41⟩ := q42
    obtain ⟨hgb41, hgX41, hgP41⟩ := gH_back (D := D) (gS_X hP40) hc41
    refine z_heq hgb41 ?_
    obtain ⟨σ43, hs43⟩ : ∃ qq, qq = z_u (z_u (z_u σ 0 0 X33) 0 0 X38) 17 0 (r38 + 1) := ⟨_, rfl⟩
    refine z_heq (congrArg (fun q => gH D B41 κ41 A q g41) hs43.symm) ?_
    have hI41 : gS t m o B41 κ41 A (z_u ρ 26 0 (r38 + 1)) σ43 := by rw [hs43]; exact w_reach hP40 (by omega) hrel41 hgX41 hc41.1 hc41.2.1
    have hn14_41 : σ43 14 0 = σ 14 0 := by rw [hs43]; rfl
    have hk17_41 : σ43 17 0 = (r38 + 1) := by rw [hs43]; rfl
    have hk18_41 : σ43 18 0 = σ 18 0 := by rw [hs43]; rfl
    refine z_iload hY eL_isPlayed_36 0 rfl ?_
    refine z_icmpeq hY eL_isPlayed_37 (by omega) (fun c37 => ?_) (fun c37 => by exfalso; omega)
    refine z_aload hY eL_isPlayed_42 1 rfl ?_
    have hb44 := (gS_b hI41).s18 0
    refine g_gf hY (gS_X hI41) eL_isPlayed_43 (v := z_i (σ43 18 0)) rfl ?_
    refine z_istore hY eL_isPlayed_46 (ls' := [(1, z_i (σ43 18 0)), (0, .ref (A 40))]) rfl ?_
    refine z_aload hY eL_isPlayed_47 1 rfl ?_
    refine z_const hY eL_isPlayed_48 ?_
    refine z_aload hY eL_isPlayed_49 1 rfl ?_
    refine z_const hY eL_isPlayed_50 ?_
    refine z_callV (As := [z_i 4]) (rest := [z_i 1, .ref (A 40)]) hY eL_isPlayed_51 (la_next (B := B41) (κ := κ41) (σ := σ43) hG (gS_X hI41) (n := 4) (by omega)) ((gH_at (gS_X hI41) (by decide)).trans (congrArg some lC_40)) (by decide) (Nat.le_of_ble_eq_true rfl) (by rw [hmc, hms]; omega) (fun _ _ q => q.elim) (fun vv46 hh46 q46 => ?_)
    obtain ⟨r45, X45, rfl, hr45, hX45, rfl⟩ := q46
    refine z_iadd hY eL_isPlayed_54 ?_
    refine z_top (b := r45 + 1) (by omega) ?_
    refine g_pf hY (gS_X hI41) eL_isPlayed_55 (by decide) ?_
    refine z_aload hY eL_isPlayed_58 1 rfl ?_
    refine g_gf hY (gS_X hI41) eL_isPlayed_59 (v := .ref (B41 0 0)) rfl ?_
    refine z_aload hY eL_isPlayed_62 1 rfl ?_
    refine g_gf hY (gS_X hI41) eL_isPlayed_63 (v := z_i (r45 + 1)) (congrArg (fun q => some (z_i q)) z_u_at) ?_
    have hP47 : gS t m o B41 κ41 A (z_u ρ 26 0 (r38 + 1)) (z_u σ43 0 0 X45) := (gS_E hI41 (wE_u wE_r (by decide)) (wB_u (gS_b hI41) (by show (-2147483648 : Int) ≤ _ ∧ _ ≤ (2147483647 : Int); omega)))
    have hk18 : κ41 19 0 0 = σ43 18 0 := (gS_R hP47).a.2.2.2.1.trans (gS_27 hI41)
    refine z_callV (As := [z_i (r45 + 1)]) (rest := []) hY eL_isPlayed_66 (q_setPatience (D := D) (h := lH A (B41 0 0) (z_u (z_u σ43 0 0 X45) 18 0 (r45 + 1)) g41) hG hD hM (gS_J hP47) (gS_B hP47) (gS_V hP47) (gS_S hP47) (by omega)) (cH_at (t := 0) (i := 0) (gS_J hP47) (by omega)) (by decide) (Nat.le_of_ble_eq_true rfl) (by rw [hmc, hms]; omega) (fun E9 h9 q => by obtain ⟨-, q⟩ := q; exfalso; omega) (fun vv49 hh49 q49 => ?_)
    obtain ⟨-, rfl, κ48, B48, g48, rfl, hc48, hrel48⟩ := q49
    obtain ⟨hgb48, hgX48, hgP48⟩ := gH_back (D := D) (gS_X hP47) hc48
    refine z_heq hgb48 ?_
    obtain ⟨σ50, hs50⟩ : ∃ qq, qq = z_u (z_u σ43 0 0 X45) 18 0 (r45 + 1) := ⟨_, rfl⟩
    refine z_heq (congrArg (fun q => gH D B48 κ48 A q g48) hs50.symm) ?_
    have hI48 : gS t m o B48 κ48 A (z_u (z_u ρ 26 0 (r38 + 1)) 27 0 (r45 + 1)) σ50 := by rw [hs50]; exact w_pat hP47 (by omega) hrel48 hgX48 hc48.1 hc48.2.1
    have hn14_48 : σ50 14 0 = σ43 14 0 := by rw [hs50]; rfl
    have hk18_48 : σ50 18 0 = (r45 + 1) := by rw [hs50]; rfl
    have hk17_48 : σ50 17 0 = σ43 17 0 := by rw [hs50]; rfl
    refine z_iload hY eL_isPlayed_69 0 rfl ?_
    refine z_icmpeq hY eL_isPlayed_70 (by omega) (fun c70 => ?_) (fun c70 => by exfalso; omega)
    have hI510 : gS t m o B48 κ48 A (z_u (z_u ρ 26 0 (r38 + 1)) 27 0 (r45 + 1)) σ50 := hI48
    obtain ⟨σ51, hs51⟩ : ∃ qq, qq = σ50 := ⟨_, rfl⟩
    refine z_heq (congrArg (fun q => gH D B48 κ48 A q g48) hs51.symm) ?_
    rw [← hs51] at hI510
    have hn14_51 : σ51 14 0 = σ50 14 0 := by rw [hs51]; try rfl
    refine z_sub [1] (ls' := [(0, .ref (A 40))]) rfl ?_
    have hJ52 : gS t m o B48 κ48 A (z_u (z_u ρ 26 0 (r38 + 1)) 27 0 (r45 + 1)) σ51 := hI510
    refine z_widen (k' := 2) (n' := 12) (by omega) (by omega) ?_
    exact rest75 κ48 B48 (z_u (z_u ρ 26 0 (r38 + 1)) 27 0 (r45 + 1)) σ51 g48  hJ52 (by omega)
end LV5
