/-! THE LAW's printed order is read as it was meant: what the reader has read when it stands behind a piece of the text, whatever text follows. -/
section LV11
section
variable {σ τ K : z_S} {f f' φ φ' γ γ' : Int → Int} {n n' c t : Int}
theorem yRd_7u {v : Int} {k : Nat} {i : Int} (hk : k ≠ 1 ∧ k ≠ 2 ∧ k ≠ 4 ∧ k ≠ 5 ∧ k ≠ 6 ∧ k ≠ 7) : yRd (z_u σ k i v) = z_u (yRd σ) k i v := by
  have e1 : z_u σ k i v 1 = σ 1 := z_u_ne (Ne.symm hk.1)
  have e2 : z_u σ k i v 2 = σ 2 := z_u_ne (Ne.symm hk.2.1)
  have e7 : z_u σ k i v 7 = σ 7 := z_u_ne (Ne.symm hk.2.2.2.2.2)
  have s1 : ∀ (f : Nat) (i' : Int), ySk (z_u σ k i v) f i' = ySk σ f i' := by
    intro f
    induction f with
    | zero => intro _; rfl
    | succ f ih => intro i'; unfold ySk; rw [e1, ih]
  have s2 : ∀ (f : Nat) (i' : Int), yDe (z_u σ k i v) f i' = yDe σ f i' := by
    intro f
    induction f with
    | zero => intro _; rfl
    | succ f ih => intro i'; unfold yDe yDi; rw [e1, ih]
  have s3 : ∀ (f : Nat) (i' d w : Int), yDv (z_u σ k i v) f i' d w = yDv σ f i' d w := by
    intro f
    induction f with
    | zero => intro _ _ _; rfl
    | succ f ih => intro i' d w; unfold yDv yDi; rw [e1, ih]
  have a1 : yA (z_u σ k i v) = yA σ := by unfold yA; rw [s1, e2, e7]
  have a2 : yE (z_u σ k i v) = yE σ := by unfold yE; rw [a1, s2, e2]
  have a3 : yW (z_u σ k i v) = yW σ := by unfold yW; rw [a1, s3, e2]
  unfold yRd
  rw [a1, a2, a3, e1, e2]
  split
  · rw [z_u_c (k := 4) (k' := k) hk.2.2.1.symm, z_u_c (k := 5) (k' := k) hk.2.2.2.1.symm, z_u_c (k := 7) (k' := k) hk.2.2.2.2.2.symm]
  · split
    · rw [z_u_c (k := 6) (k' := k) hk.2.2.2.2.1.symm, z_u_c (k := 4) (k' := k) hk.2.2.1.symm, z_u_c (k := 5) (k' := k) hk.2.2.2.1.symm, z_u_c (k := 7) (k' := k) hk.2.2.2.2.2.symm]
    · rw [z_u_c (k := 6) (k' := k) hk.2.2.2.2.1.symm, z_u_c (k := 4) (k' := k) hk.2.2.1.symm, z_u_c (k := 5) (k' := k) hk.2.2.2.1.symm, z_u_c (k := 7) (k' := k) hk.2.2.2.2.2.symm]
/-- one byte that is no digit, behind so many blanks -/
theorem rd_ch {b : Int} (s : Int) (hs : s = 0 ∨ s = 1) (h0 : σ 7 0 + s < σ 2 0) (h1 : s = 1 → σ 1 (σ 7 0) = 32) (hb : σ 1 (σ 7 0 + s) = b) (hd : ¬ (48 ≤ b ∧ b ≤ 57) ∧ b ≠ 32 ∧ b ≠ 10) : yRd σ 7 0 = σ 7 0 + s + 1 ∧ yRd σ 4 0 = yTo b ∧ yRd σ 6 0 = b := by
  have ha : yA σ = σ 7 0 + s := by
    unfold yA
    rcases hs with rfl | rfl
    · rw [ySk_f (Or.inr (by rw [show σ 7 0 = σ 7 0 + 0 by omega, hb]; omega))]; omega
    · rw [ySk_t (by omega) (Or.inl (h1 rfl)), ySk_f (Or.inr (by rw [hb]; omega))]
  unfold yRd
  rw [ha, if_neg (by omega), hb, if_neg hd.1]
  exact ⟨rfl, rfl, rfl⟩
/-- one digit, and something that is none behind it -/
theorem rd_dg {b : Int} (h0 : σ 7 0 + 1 < σ 2 0) (hb : σ 1 (σ 7 0) = 48 + b) (hd : 0 ≤ b ∧ b ≤ 9) (hn : ¬ (48 ≤ σ 1 (σ 7 0 + 1) ∧ σ 1 (σ 7 0 + 1) ≤ 57)) : yRd σ 7 0 = σ 7 0 + 1 ∧ yRd σ 4 0 = 2 ∧ yRd σ 6 0 = b := by
  have ha : yA σ = σ 7 0 := by
    unfold yA
    rw [ySk_f (Or.inr (by rw [hb]; omega))]
  have he : yE σ = σ 7 0 + 1 := by
    unfold yE
    rw [ha, yDe_t (by omega) (by unfold yDi; omega), yDe_f (Or.inr hn)]
  have hw : yW σ = b := by
    unfold yW
    rw [ha, yDv_t (by omega) (by unfold yDi; omega), yDv_f (Or.inr hn), if_pos (by omega)]
    omega
  unfold yRd
  rw [ha, if_neg (by omega), if_pos (by omega), he, hw, if_pos (by omega)]
  exact ⟨rfl, rfl, rfl⟩
theorem rd_end (h0 : σ 7 0 = σ 2 0) : yRd σ 4 0 = 0 := by
  have ha : yA σ = σ 2 0 := by
    unfold yA
    rw [ySk_f (Or.inl (by omega))]
    exact h0
  unfold yRd
  rw [if_pos ha]
  rfl
/-- a reader over the tape τ at the place p, with what it has read so far: factors up to m, directions up to d -/
def rK (τ : z_S) (p c m d : Int) (φ γ : Int → Int) (K : z_S) : Prop := K 7 0 = p ∧ K 13 0 = c ∧ (∀ i, 0 ≤ i → i < m → K 9 i = φ i) ∧ (∀ j, 0 ≤ j → j < d → K 11 j = γ j) ∧ K 1 = τ 1 ∧ K 2 = τ 2
theorem rK_rd {p m d : Int} (h : rK τ p c m d φ γ K) {p' : Int} (hp : yRd K 7 0 = p') : rK τ p' c m d φ γ (yRd K) := by
  obtain ⟨h1, h2, h3, h4, h5, h6⟩ := h
  refine ⟨hp, ?_, ?_, ?_, ?_, ?_⟩
  · rw [yRd_k (by decide)]; exact h2
  · rw [yRd_k (by decide)]; exact h3
  · rw [yRd_k (by decide)]; exact h4
  · rw [yRd_k (by decide)]; exact h5
  · rw [yRd_k (by decide)]; exact h6
/-- the tape begins with the text -/
def tpA (f : Int → Int) (n : Int) (τ : z_S) : Prop := n ≤ τ 2 0 ∧ ∀ i, 0 ≤ i → i < n → τ 1 i = f i
theorem tpA_m (h : tpA f' n' τ) (hn : n ≤ n') (hf : ∀ i, 0 ≤ i → i < n → f' i = f i) : tpA f n τ := ⟨Int.le_trans hn h.1, fun i i0 i1 => (h.2 i i0 (by omega)).trans (hf i i0 i1)⟩
/-- a term: how often, and which kind -/
def trL (x : Int) : Int := if x = 1 then 1 else 4
def trT (f : Int → Int) (p x k : Int) : Prop := if x = 1 then f p = 97 + k else f p = 48 + x ∧ f (p + 1) = 32 ∧ f (p + 2) = 42 ∧ f (p + 3) = 97 + k
theorem rt_1 {p m d x k s : Int} (hK : rK τ p c m d φ γ K) (hA : tpA f n τ) (hT : trT f p x k) (hx : 0 ≤ x ∧ x ≤ 4) (hk : 0 ≤ k ∧ k ≤ 3) (hp : 0 ≤ p ∧ p + trL x ≤ n) (hm : 0 ≤ c ∧ m = 4 * c + 4) :
    ∃ K', yRt (yRd K) s = (1, yRd K') ∧ rK τ (p + trL x) c m d (z_up φ (4 * c + k) (φ (4 * c + k) + s * x)) γ K' := by
  have key : ∀ (σ : z_S) (q w : Int), rK τ q c m d φ γ σ → σ 4 0 = 3 → σ 6 0 = 97 + k → yTt σ s w = (1, yRd (z_u σ 9 (4 * c + k) (φ (4 * c + k) + s * w))) ∧ rK τ q c m d (z_up φ (4 * c + k) (φ (4 * c + k) + s * w)) γ (z_u σ 9 (4 * c + k) (φ (4 * c + k) + s * w)) := by
    intro σ q w ⟨h1, h2, h3, h4, h5, h6⟩ g1 g2
    refine ⟨?_, h1, h2, fun i i0 i1 => ?_, h4, h5, h6⟩
    · unfold yTt
      rw [if_neg (by omega), h2, g2, show 4 * c + (97 + k) - 97 = 4 * c + k by omega, h3 (4 * c + k) (by omega) (by omega)]
    · unfold z_up
      by_cases e : i = 4 * c + k
      · rw [if_pos e, e, z_u_at]
      · rw [if_neg e, z_u_at' e]; exact h3 i i0 i1
  have kK := hK
  obtain ⟨h1, h2, h3, h4, h5, h6⟩ := hK
  have h20 : K 2 0 = τ 2 0 := by rw [h6]
  have hn := hA.1
  unfold trT at hT
  unfold trL at hp ⊢
  by_cases c1 : x = 1
  · subst c1
    rw [if_pos rfl] at hT hp ⊢
    have e := rd_ch (σ := K) (b := 97 + k) 0 (Or.inl rfl) (by omega) (by omega) (by rw [h1, h5, show p + 0 = p by omega, hA.2 p (by omega) (by omega)]; exact hT) (by omega)
    rw [h1] at e
    have e4 : yRd K 4 0 = 3 := by rw [e.2.1]; unfold yTo; rw [if_neg (by unfold sgn; omega), if_pos (by omega)]
    obtain ⟨a1, a2⟩ := key (yRd K) (p + 1) 1 (rK_rd kK (by omega)) e4 e.2.2
    refine ⟨_, ?_, a2⟩
    unfold yRt
    rw [if_neg (by omega)]
    exact a1
  · rw [if_neg c1] at hT hp ⊢
    obtain ⟨t0, t1, t2, t3⟩ := hT
    have r1 := rd_dg (σ := K) (b := x) (by omega) (by rw [h1, h5, hA.2 p (by omega) (by omega)]; exact t0) (by omega) (by rw [h1, h5, hA.2 (p + 1) (by omega) (by omega), t1]; omega)
    rw [h1] at r1
    have k1 := rK_rd kK r1.1
    have q1 : yRd K 1 = τ 1 := k1.2.2.2.2.1
    have q2 : yRd K 2 0 = τ 2 0 := by rw [k1.2.2.2.2.2]
    have r2 := rd_ch (σ := yRd K) (b := 42) 1 (Or.inr rfl) (by omega) (fun _ => by rw [r1.1, q1, hA.2 (p + 1) (by omega) (by omega)]; exact t1) (by rw [r1.1, q1, show p + 1 + 1 = p + 2 by omega, hA.2 (p + 2) (by omega) (by omega)]; exact t2) (by omega)
    rw [r1.1] at r2
    have k2 := rK_rd k1 r2.1
    have q3 : yRd (yRd K) 1 = τ 1 := k2.2.2.2.2.1
    have q4 : yRd (yRd K) 2 0 = τ 2 0 := by rw [k2.2.2.2.2.2]
    have r3 := rd_ch (σ := yRd (yRd K)) (b := 97 + k) 0 (Or.inl rfl) (by omega) (by omega) (by rw [r2.1, q3, show p + 1 + 1 + 1 + 0 = p + 3 by omega, hA.2 (p + 3) (by omega) (by omega)]; exact t3) (by omega)
    rw [r2.1] at r3
    have k3 := rK_rd k2 r3.1
    have e4 : yRd (yRd (yRd K)) 4 0 = 3 := by rw [r3.2.1]; unfold yTo; rw [if_neg (by unfold sgn; omega), if_pos (by omega)]
    obtain ⟨a1, a2⟩ := key _ _ x k3 e4 r3.2.2
    refine ⟨_, ?_, (show p + 1 + 1 + 1 + 0 + 1 = p + 4 by omega) ▸ a2⟩
    unfold yRt
    rw [if_pos r1.2.1, if_pos ⟨by rw [r2.2.1]; decide, r2.2.2⟩, r1.2.2]
    exact a1
/-- what comes of a criterion's end -/
def fnC (c : Int) (q : Int × z_S) : Int × z_S := if q.1 = 0 then q else yCl2 (5 - c).toNat q.2
/-- behind c criteria; behind a criterion's direction; behind t of its terms -/
def iC (f : Int → Int) (n c : Int) (φ γ : Int → Int) : Prop := ∀ τ, tpA f n τ → (c = 0 ∨ τ 2 0 = n ∨ (n < τ 2 0 ∧ τ 1 n = 59)) → ∃ K, rK τ n c (4 * c) c φ γ K ∧ yRo τ = if c = 0 then fnC 0 (yRc (yRd K)) else yCl2 (6 - c).toNat (yRd K)
def iD (f : Int → Int) (n c : Int) (φ γ : Int → Int) : Prop := ∀ τ, tpA f n τ → ∃ K, rK τ n c (4 * c + 4) (c + 1) φ γ K ∧ yRo τ = fnC c (yNc (if (yRt (yRd K) 1).1 = 0 then yRt (yRd K) 1 else yTl 3 (yRt (yRd K) 1).2))
def iT (f : Int → Int) (n c t : Int) (φ γ : Int → Int) : Prop := ∀ τ, tpA f n τ → ∃ K, rK τ n c (4 * c + 4) (c + 1) φ γ K ∧ yRo τ = fnC c (yNc (yTl (4 - t).toNat (yRd K)))
theorem iC_0 : iC f 0 0 φ γ := fun τ hA _ => ⟨z_u (z_u τ 7 0 0) 13 0 0, ⟨rfl, rfl, fun i _ _ => by omega, fun j _ _ => by omega, rfl, rfl⟩, rfl⟩
theorem rK_c0 {p : Int} {g : Int} (h : rK τ p c (4 * c) c φ γ K) (hc : 0 ≤ c) (hg : K 6 0 = 60 + 2 * g) (hg1 : g = 0 ∨ g = 1) (h0 : ∀ i, 4 * c ≤ i → i < 4 * c + 4 → φ' i = 0) (h1 : ∀ i, 0 ≤ i → i < 4 * c → φ' i = φ i) (h2 : ∀ j, 0 ≤ j → j < c → γ' j = γ j) (h3 : γ' c = g) : rK τ p c (4 * c + 4) (c + 1) φ' γ' (yC0 K) := by
  obtain ⟨a1, a2, a3, a4, a5, a6⟩ := h
  unfold yC0
  rw [a2]
  refine ⟨a1, a2, fun i i0 i1 => ?_, fun j j0 j1 => ?_, a5, a6⟩
  · by_cases e3 : i = 4 * c + 3
    · rw [e3, z_u_at, h0 _ (by omega) (by omega)]
    · rw [z_u_at' e3]
      by_cases e2 : i = 4 * c + 2
      · rw [e2, z_u_at, h0 _ (by omega) (by omega)]
      · rw [z_u_at' e2]
        by_cases e1 : i = 4 * c + 1
        · rw [e1, z_u_at, h0 _ (by omega) (by omega)]
        · rw [z_u_at' e1]
          by_cases e0 : i = 4 * c
          · rw [e0, z_u_at, h0 _ (by omega) (by omega)]
          · rw [z_u_at' e0, h1 i i0 (by omega)]
            exact a3 i i0 (by omega)
  · show z_u K 11 c (if K 6 0 = 62 then 1 else 0) 11 j = γ' j
    by_cases e : j = c
    · rw [e, z_u_at, h3]
      rcases hg1 with z | z
      · rw [if_neg (by omega), z]
      · rw [if_pos (by omega), z]
    · rw [z_u_at' e, h2 j j0 (by omega)]
      exact a4 j j0 (by omega)
/-- a direction -/
theorem iC_d {g : Int} (h : iC f n c φ γ) (hn : 0 ≤ n) (hc : 0 ≤ c ∧ c ≤ 3) (hg1 : g = 0 ∨ g = 1) (hn' : n' = n + (if c = 0 then 1 else 3)) (hf : ∀ i, 0 ≤ i → i < n → f' i = f i) (ht : if c = 0 then f' n = 60 + 2 * g else f' n = 59 ∧ f' (n + 1) = 32 ∧ f' (n + 2) = 60 + 2 * g) (h0 : ∀ i, 4 * c ≤ i → i < 4 * c + 4 → φ' i = 0) (h1 : ∀ i, 0 ≤ i → i < 4 * c → φ' i = φ i) (h2 : ∀ j, 0 ≤ j → j < c → γ' j = γ j) (h3 : γ' c = g) : iD f' n' c φ' γ' := fun τ hA => by
  have hsg : ∀ σ : z_S, σ 4 0 = yTo (60 + 2 * g) → σ 6 0 = 60 + 2 * g → σ 13 0 = c → yGo σ := fun σ q4 q6 q13 => by
    refine ⟨?_, ?_, ?_⟩
    · rw [q4]; unfold yTo; rw [if_pos (by unfold sgn; omega)]
    · omega
    · omega
  by_cases c0 : c = 0
  · rw [if_pos c0] at hn' ht
    obtain ⟨K, hK, hR⟩ := h τ (tpA_m hA (by omega) hf) (Or.inl c0)
    rw [if_pos c0] at hR
    have kK := hK
    obtain ⟨a1, a2, a3, a4, a5, a6⟩ := hK
    have h20 : K 2 0 = τ 2 0 := by rw [a6]
    have hl := hA.1
    have e := rd_ch (σ := K) (b := 60 + 2 * g) 0 (Or.inl rfl) (by omega) (by omega) (by rw [a1, a5, show n + 0 = n by omega, hA.2 n (by omega) (by omega)]; exact ht) (by omega)
    rw [a1] at e
    have k1 := rK_rd kK e.1
    have hgo := hsg (yRd K) e.2.1 e.2.2 k1.2.1
    refine ⟨yC0 (yRd K), (show n + 0 + 1 = n' by omega) ▸ rK_c0 k1 (by omega) e.2.2 hg1 h0 h1 h2 h3, ?_⟩
    rw [hR, c0]
    unfold yRc
    rw [if_pos hgo]
  · rw [if_neg c0] at hn' ht
    obtain ⟨t0, t1, t2⟩ := ht
    have hl := hA.1
    obtain ⟨K, hK, hR⟩ := h τ (tpA_m hA (by omega) hf) (Or.inr (Or.inr ⟨by omega, (hA.2 n (by omega) (by omega)).trans t0⟩))
    rw [if_neg c0] at hR
    have kK := hK
    obtain ⟨a1, a2, a3, a4, a5, a6⟩ := hK
    have h20 : K 2 0 = τ 2 0 := by rw [a6]
    have e := rd_ch (σ := K) (b := 59) 0 (Or.inl rfl) (by omega) (by omega) (by rw [a1, a5, show n + 0 = n by omega, hA.2 n (by omega) (by omega)]; exact t0) (by omega)
    rw [a1] at e
    have k1 := rK_rd kK e.1
    have q1 : yRd K 1 = τ 1 := k1.2.2.2.2.1
    have q2 : yRd K 2 0 = τ 2 0 := by rw [k1.2.2.2.2.2]
    have e2 := rd_ch (σ := yRd K) (b := 60 + 2 * g) 1 (Or.inr rfl) (by omega) (fun _ => by rw [e.1, q1, show n + 0 + 1 = n + 1 by omega, hA.2 (n + 1) (by omega) (by omega)]; exact t1) (by rw [e.1, q1, show n + 0 + 1 + 1 = n + 2 by omega, hA.2 (n + 2) (by omega) (by omega)]; exact t2) (by omega)
    rw [e.1] at e2
    have k2 := rK_rd k1 e2.1
    have hgo := hsg (yRd (yRd K)) e2.2.1 e2.2.2 k2.2.1
    refine ⟨yC0 (yRd (yRd K)), (show n + 0 + 1 + 1 + 1 = n' by omega) ▸ rK_c0 k2 (by omega) e2.2.2 hg1 h0 h1 h2 h3, ?_⟩
    rw [hR, show (6 - c).toNat = (5 - c).toNat + 1 by omega]
    show (if yRd K 4 0 = 1 ∧ yRd K 6 0 = 59 then (if (yRc (yRd (yRd K))).1 = 0 then yRc (yRd (yRd K)) else yCl2 (5 - c).toNat (yRc (yRd (yRd K))).2) else _) = _
    rw [if_pos ⟨by rw [e.2.1]; decide, e.2.2⟩]
    show fnC c (yRc (yRd (yRd K))) = _
    conv => lhs; unfold yRc
    rw [if_pos hgo]
/-- the first term -/
theorem iD_t {x k : Int} (h : iD f n c φ γ) (hn : 0 ≤ n) (hc : 0 ≤ c) (hx : 0 ≤ x ∧ x ≤ 4) (hk : 0 ≤ k ∧ k ≤ 3) (hf : ∀ i, 0 ≤ i → i < n → f' i = f i) (hT : trT f' n x k) : iT f' (n + trL x) c 1 (z_up φ (4 * c + k) (φ (4 * c + k) + 1 * x)) γ := fun τ hA => by
  have hl : 0 ≤ trL x := by unfold trL; split <;> omega
  obtain ⟨K, hK, hR⟩ := h τ (tpA_m hA (by omega) hf)
  obtain ⟨K', e1, e2⟩ := rt_1 (s := 1) hK hA hT hx hk ⟨hn, Int.le_refl _⟩ ⟨hc, rfl⟩
  refine ⟨K', e2, ?_⟩
  rw [hR, e1, if_neg (show ¬ ((1 : Int) = 0) by decide)]
  rfl
/-- a further term -/
theorem iT_t {x k s : Int} (h : iT f n c t φ γ) (hn : 0 ≤ n) (hc : 0 ≤ c) (ht : 1 ≤ t ∧ t ≤ 2) (hs : s = 1 ∨ s = -1) (hx : 0 ≤ x ∧ x ≤ 4) (hk : 0 ≤ k ∧ k ≤ 3) (hf : ∀ i, 0 ≤ i → i < n → f' i = f i) (h0 : f' n = 44 - s) (hT : trT f' (n + 1) x k) : iT f' (n + 1 + trL x) c (t + 1) (z_up φ (4 * c + k) (φ (4 * c + k) + s * x)) γ := fun τ hA => by
  have hl : 0 ≤ trL x := by unfold trL; split <;> omega
  obtain ⟨K, hK, hR⟩ := h τ (tpA_m hA (by omega) hf)
  have kK := hK
  obtain ⟨a1, a2, a3, a4, a5, a6⟩ := hK
  have h20 : K 2 0 = τ 2 0 := by rw [a6]
  have hle := hA.1
  have hl1 : 1 ≤ trL x := by unfold trL; split <;> omega
  have e := rd_ch (σ := K) (b := 44 - s) 0 (Or.inl rfl) (by omega) (by omega) (by rw [a1, a5, show n + 0 = n by omega, hA.2 n (by omega) (by omega)]; exact h0) (by omega)
  rw [a1] at e
  have k1 := rK_rd kK (p' := n + 1) (by omega)
  obtain ⟨K', e1, e2⟩ := rt_1 (s := s) k1 hA hT hx hk ⟨by omega, Int.le_refl _⟩ ⟨hc, rfl⟩
  have hg : ySg (yRd K) = s := by
    unfold ySg
    rw [e.2.2]
    rcases hs with z | z
    · rw [if_pos (by omega), z]
    · rw [if_neg (by omega), z]
  refine ⟨K', e2, ?_⟩
  rw [hR, yTl_c (by omega) ⟨by rw [e.2.1]; unfold yTo; rw [if_pos (by unfold sgn; omega)], by omega⟩ (by rw [hg, e1]; show (1 : Int) ≠ 0; decide), hg, e1]
/-- a criterion's end -/
theorem iT_e (h : iT f n c t φ γ) (hn : 0 ≤ n) (hc : 0 ≤ c ∧ c ≤ 3) : iC f n (c + 1) φ γ := fun τ hA he => by
  obtain ⟨K, hK, hR⟩ := h τ hA
  have kK := hK
  obtain ⟨a1, a2, a3, a4, a5, a6⟩ := hK
  have h20 : K 2 0 = τ 2 0 := by rw [a6]
  have hl := hA.1
  have hno : ¬ (yRd K 4 0 = 1 ∧ (yRd K 6 0 = 43 ∨ yRd K 6 0 = 45)) := fun q => by
    rcases he with z | z | ⟨z, w⟩
    · omega
    · have := rd_end (σ := K) (by omega)
      omega
    · have e := rd_ch (σ := K) (b := 59) 0 (Or.inl rfl) (by omega) (by omega) (by rw [a1, a5, show n + 0 = n by omega]; exact w) (by omega)
      omega
  refine ⟨z_u K 13 0 (c + 1), ⟨a1, z_u_at, fun i i0 i1 => a3 i i0 (by omega), fun j j0 j1 => a4 j j0 (by omega), a5, a6⟩, ?_⟩
  rw [hR, yTl_e hno, if_neg (by omega), yRd_7u (by decide)]
  have e13 : yRd K 13 0 = c := by rw [yRd_k (by decide)]; exact a2
  show fnC c (yNc (1, yRd K)) = _
  have e2 : yNc (1, yRd K) = (1, z_u (yRd K) 13 0 (c + 1)) := by
    unfold yNc
    rw [if_neg (show ¬ ((1 : Int) = 0) by decide)]
    show ((1 : Int), z_u (yRd K) 13 0 (yRd K 13 0 + 1)) = _
    rw [e13]
  rw [e2]
  unfold fnC
  rw [if_neg (show ¬ ((1 : Int) = 0) by decide), show (6 - (c + 1)).toNat = (5 - c).toNat by omega]
/-- the whole text is read -/
theorem iC_end (h : iC f n c φ γ) (hc : 1 ≤ c ∧ c ≤ 4) (hA : tpA f n τ) (hn : τ 2 0 = n) : (yRo τ).1 = 1 ∧ (yRo τ).2 13 0 = c ∧ (∀ i, 0 ≤ i → i < 4 * c → (yRo τ).2 9 i = φ i) ∧ ∀ j, 0 ≤ j → j < c → (yRo τ).2 11 j = γ j := by
  obtain ⟨K, hK, hR⟩ := h τ hA (Or.inr (Or.inl hn))
  obtain ⟨a1, a2, a3, a4, a5, a6⟩ := hK
  have h20 : K 2 0 = τ 2 0 := by rw [a6]
  have e4 := rd_end (σ := K) (by omega)
  have e : yRo τ = (1, yRd K) := by
    rw [hR, if_neg (by omega), yCl2_e (by omega) (by omega), if_pos e4]
  rw [e]
  refine ⟨rfl, ?_, fun i i0 i1 => ?_, fun j j0 j1 => ?_⟩
  · show yRd K 13 0 = c
    rw [yRd_k (by decide)]; exact a2
  · show yRd K 9 i = φ i
    rw [yRd_k (by decide)]; exact a3 i i0 i1
  · show yRd K 11 j = γ j
    rw [yRd_k (by decide)]; exact a4 j j0 j1
end
end LV11
