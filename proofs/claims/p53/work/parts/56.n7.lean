/-! STANDINGS THAT ARE APART: pairs the other way round, swaps of neighbours. -/
section N7
/-- a sum over all pairs is one over the pairs in order -/
theorem jn_tri {G : Int → Int → Int} : ∀ n : Int, 0 ≤ n → z_sm (fun e => z_sm (fun f => G e f) n) n = z_sm (fun e => z_sm (fun f => G e f + G f e) e + G e e) n := by
  refine jn_ind ?_ ?_
  · rw [z_sm0 (by omega), z_sm0 (by omega)]
  · intro n h0 ih
    rw [z_smS h0, z_smS h0, z_smS h0, ← ih]
    have e1 : z_sm (fun e => z_sm (fun f => G e f) (n + 1)) n = z_sm (fun e => z_sm (fun f => G e f) n + G e n) n := z_sm_congr fun e _ _ => z_smS h0
    have e2 : z_sm (G n) n = z_sm (fun f => G n f) n := rfl
    rw [e1, jn_add h0, jn_add h0]
    omega
/-- neighbours exchanged -/
def jx (i : Int) : Int → Int := fun j => if j = i then i + 1 else if j = i + 1 then i else j
theorem jx_x (i j : Int) : jx i (jx i j) = j := by
  unfold jx
  (repeat' split) <;> omega
theorem jx_s {i n : Int} (h : 0 ≤ i ∧ i + 1 < n) (f : Int → Int) : z_sm (fun a => f (jx i a)) n = z_sm f n := by
  have hb : ∀ a, 0 ≤ a → a < n → 0 ≤ jx i a ∧ jx i a < n := fun a h0 h1 => by unfold jx; (repeat' split) <;> omega
  rw [jn_perm (P := fun e => 0 ≤ e ∧ e < n) (m := n) (by omega) (by omega) (fun a h0 h1 => ⟨(hb a h0 h1).1, (hb a h0 h1).2, hb a h0 h1⟩) (fun a b _ _ _ _ q => by rw [← jx_x i a, q, jx_x]) (fun e h0 h1 _ => ⟨jx i e, (hb e h0 h1).1, (hb e h0 h1).2, jx_x i e⟩)]
  exact z_sm_congr fun e h0 h1 => if_pos ⟨h0, h1⟩
theorem cPr_x {R : Int → Int} {n i : Int} (h : 0 ≤ i ∧ i + 1 < n) (hR : R (i + 1) < R i) : cPr (z_up (z_up R i (R (i + 1))) (i + 1) (R i)) n + 1 = cPr R n := by
  have eR : z_up (z_up R i (R (i + 1))) (i + 1) (R i) = fun a => R (jx i a) := funext fun a => by
    unfold z_up jx
    by_cases c1 : a = i + 1
    · rw [if_pos c1, if_neg (by omega), if_pos c1]
    · rw [if_neg c1]
      by_cases c2 : a = i
      · rw [if_pos c2, if_pos c2]
      · rw [if_neg c2, if_neg c2, if_neg c1]
  have e1 : cPr (fun a => R (jx i a)) n = z_sm (fun a => z_sm (fun b => if jx i a < jx i b ∧ R b < R a then (1 : Int) else 0) n) n := by
    unfold cPr
    rw [← jx_s h (fun a => z_sm (fun b => if jx i a < jx i b ∧ R b < R a then (1 : Int) else 0) n)]
    refine z_sm_congr fun a _ _ => ?_
    show _ = z_sm (fun b => if jx i (jx i a) < jx i b ∧ R b < R (jx i a) then (1 : Int) else 0) n
    rw [← jx_s h (fun b => if jx i (jx i a) < jx i b ∧ R b < R (jx i a) then (1 : Int) else 0)]
    refine z_sm_congr fun b _ _ => ?_
    show _ = if jx i (jx i a) < jx i (jx i b) ∧ R (jx i b) < R (jx i a) then (1 : Int) else 0
    rw [jx_x, jx_x]
  have e2 : z_sm (fun a => if a = i then z_sm (fun b => if b = i + 1 then (1 : Int) else 0) n else 0) n = 1 := by
    rw [jn_one (a := i + 1) (by omega), jn_one (a := i) (by omega)]
  have e3 : cPr R n = z_sm (fun a => z_sm (fun b => if jx i a < jx i b ∧ R b < R a then (1 : Int) else 0) n + (if a = i then z_sm (fun b => if b = i + 1 then (1 : Int) else 0) n else 0)) n := by
    unfold cPr
    refine z_sm_congr fun a _ _ => ?_
    by_cases c : a = i
    · subst c
      rw [if_pos rfl, ← jn_add (by omega)]
      refine z_sm_congr fun b _ _ => ?_
      have ja : jx a a = a + 1 := if_pos rfl
      rw [ja]
      by_cases c2 : b = a + 1
      · subst c2
        have jb : jx a (a + 1) = a := by unfold jx; rw [if_neg (by omega), if_pos rfl]
        rw [jb, if_pos ⟨by omega, hR⟩, if_neg (by omega), if_pos rfl]; rfl
      · rw [if_neg c2]
        by_cases c3 : b = a
        · subst c3
          rw [if_neg (by omega), if_neg (by omega)]; rfl
        · have jb : jx a b = b := by unfold jx; rw [if_neg c3, if_neg c2]
          rw [jb]
          by_cases c4 : a < b ∧ R b < R a
          · rw [if_pos c4, if_pos ⟨by omega, c4.2⟩]; rfl
          · rw [if_neg c4, if_neg (fun q => c4 ⟨by omega, q.2⟩)]; rfl
    · rw [if_neg c, Int.add_zero]
      refine z_sm_congr fun b _ _ => ?_
      by_cases ca : a = i + 1
      · subst ca
        have ja : jx i (i + 1) = i := by unfold jx; rw [if_neg (by omega), if_pos rfl]
        rw [ja]
        by_cases c2 : b = i
        · subst c2
          have jb : jx b b = b + 1 := if_pos rfl
          rw [jb, if_neg (by omega), if_neg (by omega)]
        · by_cases c3 : b = i + 1
          · subst c3
            rw [ja, if_neg (by omega), if_neg (by omega)]
          · have jb : jx i b = b := by unfold jx; rw [if_neg c2, if_neg c3]
            rw [jb]
            by_cases c4 : i + 1 < b ∧ R b < R (i + 1)
            · rw [if_pos c4, if_pos ⟨by omega, c4.2⟩]
            · rw [if_neg c4, if_neg (fun q => c4 ⟨by omega, q.2⟩)]
      · have ja : jx i a = a := by unfold jx; rw [if_neg c, if_neg ca]
        rw [ja]
        by_cases c4 : a < b ∧ R b < R a
        · rw [if_pos c4, if_pos ⟨by unfold jx; (repeat' split) <;> omega, c4.2⟩]
        · rw [if_neg c4, if_neg (fun q => c4 ⟨by have := q.1; unfold jx at this; (repeat' split at this) <;> omega, q.2⟩)]
  rw [jn_add (by omega), e2] at e3
  rw [eR, e1]
  exact e3.symm
theorem sw_pr {n : Int} : ∀ (f : Nat) (R : Int → Int) (i m : Int), 0 ≤ i → i + f < n → cPr (swL f R i m).1 n + (swL f R i m).2 = cPr R n + m := by
  intro f
  induction f with
  | zero => intro R i m _ _; rfl
  | succ f ih =>
    intro R i m h0 h1
    unfold swL
    by_cases c : R (i + 1) < R i
    · rw [if_pos c, ih _ _ _ (by omega) (by omega)]
      have := cPr_x (n := n) ⟨h0, by omega⟩ c
      omega
    · rw [if_neg c, ih _ _ _ (by omega) (by omega)]
/-- the last k stand right -/
def jQ (R : Int → Int) (n k : Int) : Prop := ∀ j, n - k ≤ j → j < n → ∀ i, 0 ≤ i → i < j → R i ≤ R j
theorem sw_q {n k : Int} (hk : 0 ≤ k ∧ k < n) : ∀ (f : Nat) (R : Int → Int) (i m : Int), 0 ≤ i → i + f = n - 1 → jQ R n k → (i ≤ n - 1 - k → ∀ j, 0 ≤ j → j < i → R j ≤ R i) → (n - 1 - k < i → ∀ j, 0 ≤ j → j < n - 1 - k → R j ≤ R (n - 1 - k)) → jQ (swL f R i m).1 n (k + 1) := by
  intro f
  induction f with
  | zero =>
    intro R i m h0 h1 hq ha hb j hj1 hj2 i' hi1 hi2
    show R i' ≤ R j
    by_cases c : n - k ≤ j
    · exact hq j c hj2 i' hi1 hi2
    · have ej : j = n - 1 - k := by omega
      subst ej
      by_cases c2 : i ≤ n - 1 - k
      · have ei : i = n - 1 - k := by omega
        rw [← ei]
        exact ha c2 i' hi1 (by omega)
      · exact hb (by omega) i' hi1 (by omega)
  | succ f ih =>
    intro R i m h0 h1 hq ha hb
    unfold swL
    by_cases c : R (i + 1) < R i
    · rw [if_pos c]
      have hlt : i + 1 < n - k := by
        by_cases c2 : i + 1 < n - k
        · exact c2
        · have := hq (i + 1) (by omega) (by omega) i h0 (by omega)
          omega
      have hm := ha (by omega)
      refine ih _ _ _ (by omega) (by omega) (fun j hj1 hj2 i' hi1 hi2 => ?_) (fun h j hj1 hj2 => ?_) (fun h => by omega)
      · have k1 := hq j hj1 hj2
        have ej : z_up (z_up R i (R (i + 1))) (i + 1) (R i) j = R j := by unfold z_up; rw [if_neg (by omega), if_neg (by omega)]
        rw [ej]
        unfold z_up
        by_cases c3 : i' = i + 1
        · rw [if_pos c3]; exact k1 i h0 (by omega)
        · rw [if_neg c3]
          by_cases c4 : i' = i
          · rw [if_pos c4]; exact k1 (i + 1) (by omega) (by omega)
          · rw [if_neg c4]; exact k1 i' hi1 hi2
      · have e1 : z_up (z_up R i (R (i + 1))) (i + 1) (R i) (i + 1) = R i := if_pos rfl
        rw [e1]
        unfold z_up
        rw [if_neg (by omega)]
        by_cases c4 : j = i
        · rw [if_pos c4]; omega
        · rw [if_neg c4]; exact hm j hj1 (by omega)
    · rw [if_neg c]
      refine ih _ _ _ (by omega) (by omega) hq (fun h j hj1 hj2 => ?_) (fun h j hj1 hj2 => ?_)
      · by_cases c4 : j = i
        · rw [c4]; omega
        · have := ha (by omega) j hj1 (by omega); omega
      · by_cases c5 : i = n - 1 - k
        · rw [← c5]; exact ha (by omega) j hj1 (by omega)
        · exact hb (by omega) j hj1 hj2
theorem sp_pr {n : Int} : ∀ (f : Nat) (R : Int → Int) (k m : Int), 0 ≤ k → k + f = n → jQ R n k → swP n f R m = m + cPr R n := by
  intro f
  induction f with
  | zero =>
    intro R k m h0 h1 hq
    have : cPr R n = 0 := z_sm_zero fun i hi0 hi1 => z_sm_zero fun j hj0 hj1 => if_neg fun q => by
      have := hq j (by omega) hj1 i hi0 q.1
      omega
    rw [this]
    show m = m + 0
    omega
  | succ f ih =>
    intro R k m h0 h1 hq
    unfold swP
    have h2 := sw_pr (n := n) (n - 1 - 0).toNat R 0 0 (by omega) (by omega)
    have h3 := sw_q (n := n) (k := k) (by omega) (n - 1 - 0).toNat R 0 0 (by omega) (by omega) hq (fun _ j a b => by omega) (fun h => by omega)
    rw [ih (swN R n).1 (k + 1) _ (by omega) (by omega) h3]
    unfold swN
    omega
theorem sp_all {n : Int} (hn : 0 ≤ n) (R : Int → Int) : swP n (n - 0).toNat R 0 = cPr R n := by
  rw [sp_pr (n := n) (n - 0).toNat R 0 0 (by omega) (by omega) (fun j h1 h2 => by omega)]
  omega
/-- those that are there in both -/
abbrev jV (A C : Int → Int) (e : Int) : Prop := A e ≠ -1 ∧ C e ≠ -1
variable {κ : c_K} {σ : z_S}
/-- places of a standing: none, or 1 to 30, no two alike -/
def jPl (A : Int → Int) (n : Int) : Prop := (∀ e, 0 ≤ e → e < n → A e = -1 ∨ (1 ≤ A e ∧ A e ≤ 30)) ∧ ∀ e f, 0 ≤ e → e < n → 0 ≤ f → f < n → e ≠ f → A e ≠ -1 → A e ≠ A f
theorem lu_s {r o : Int} {A C : Int → Int} {n : Int} (hA : jPl A n) (hC : jPl C n) (h1 : ∀ e, 0 ≤ e → e < n → cPa κ r e = A e) (h2 : ∀ e, 0 ≤ e → e < n → cPa κ o e = C e) : ∀ i : Nat, (i : Int) ≤ n → (∀ e : Int, 0 ≤ e → e < i → jV A C e → luF κ r o i (A e - 1) = C e) ∧ ∀ p : Int, 0 ≤ p → p < 30 → luF κ r o i p ≠ -1 → ∃ e : Int, (0 ≤ e ∧ e < i) ∧ jV A C e ∧ A e = p + 1 := by
  intro i
  induction i with
  | zero => intro _; exact ⟨fun e a b => by omega, fun p a b c => absurd (show luF κ r o 0 p = -1 from if_pos ⟨a, b⟩) c⟩
  | succ i ih =>
    intro hi
    obtain ⟨i1, i2⟩ := ih (by omega)
    have a1 := h1 i (by omega) (by omega)
    have a2 := h2 i (by omega) (by omega)
    have b1 := hA.1 i (by omega) (by omega)
    have b2 := hC.1 i (by omega) (by omega)
    have e0 : luF κ r o (i + 1) = if jV A C i then z_up (luF κ r o i) (A i - 1) (C i) else luF κ r o i := by
      rw [luF, a1, a2]
      by_cases c : jV A C i
      · rw [if_pos c, if_pos ⟨by omega, by omega, c.2⟩]
      · rw [if_neg c, if_neg (fun q => c ⟨by omega, q.2.2⟩)]
    rw [e0]
    by_cases c : jV A C i
    · rw [if_pos c]
      refine ⟨fun e h0 hn hv => ?_, fun p h0 hn hv => ?_⟩
      · unfold z_up
        by_cases ce : e = i
        · rw [ce, if_pos rfl]
        · have := hA.2 e i h0 (by omega) (by omega) (by omega) ce hv.1
          rw [if_neg (by omega)]
          exact i1 e h0 (by omega) hv
      · unfold z_up at hv
        by_cases cp : p = A i - 1
        · exact ⟨i, by omega, c, by omega⟩
        · rw [if_neg cp] at hv
          obtain ⟨e, x1, x2, x3⟩ := i2 p h0 hn hv
          exact ⟨e, by omega, x2, x3⟩
    · rw [if_neg c]
      refine ⟨fun e h0 hn hv => ?_, fun p h0 hn hv => ?_⟩
      · by_cases ce : e = i
        · exact absurd (ce ▸ hv) c
        · exact i1 e h0 (by omega) hv
      · obtain ⟨e, x1, x2, x3⟩ := i2 p h0 hn hv
        exact ⟨e, by omega, x2, x3⟩
theorem cm_s {A C F : Int → Int} {n : Int} (hA : jPl A n) (hF1 : ∀ e, 0 ≤ e → e < n → jV A C e → F (A e - 1) = C e) (hF2 : ∀ p, 0 ≤ p → p < 30 → F p ≠ -1 → ∃ e, (0 ≤ e ∧ e < n) ∧ jV A C e ∧ A e = p + 1) : ∀ (f : Nat) (R : Int → Int) (i c : Int) (θ : Int → Int), i + f = 30 → 0 ≤ c → c ≤ i → jS (fun e f => A e < A f) (fun e => (0 ≤ e ∧ e < n) ∧ jV A C e ∧ A e ≤ i) θ c → (∀ j, 0 ≤ j → j < c → R j = C (θ j)) → (∀ p, i ≤ p → p < 30 → R p = F p) → ∃ θ' : Int → Int, jS (fun e f => A e < A f) (fun e => (0 ≤ e ∧ e < n) ∧ jV A C e) θ' (cmL f R i c).2 ∧ ∀ j, 0 ≤ j → j < (cmL f R i c).2 → (cmL f R i c).1 j = C (θ' j) := by
  intro f
  induction f with
  | zero =>
    intro R i c θ hi h0 h1 hS hR _
    refine ⟨θ, jS_cg hS rfl (fun _ _ _ => rfl) (fun e => ⟨fun q => ⟨q.1, q.2, ?_⟩, fun q => ⟨q.1, q.2.1⟩⟩) (fun _ _ _ _ q => q), hR⟩
    have := hA.1 e q.1.1 q.1.2
    omega
  | succ f ih =>
    intro R i c θ hi h0 h1 hS hR hp
    unfold cmL
    have hFi := hp i (by omega) (by omega)
    by_cases ci : R i ≠ -1
    · rw [if_pos ci]
      obtain ⟨e0, x1, x2, x3⟩ := hF2 i (by omega) (by omega) (by rw [← hFi]; exact ci)
      have hv := hF1 e0 x1.1 x1.2 x2
      rw [show A e0 - 1 = i by omega] at hv
      refine ih _ (i + 1) (c + 1) (fun j => if j < c then θ j else if j = c then e0 else θ (j - 1)) (by omega) (by omega) (by omega) ?_ (fun j a b => ?_) (fun p a b => ?_)
      · refine jS_in hS ⟨h0, Int.le_refl _⟩ (fun j a b => ?_) (fun j a b => by omega) (fun x => ?_)
        · have := (hS.2.1 j a b).2.2
          show A (θ j) < A e0
          omega
        · constructor
          · rintro ⟨y1, y2, y3⟩
            by_cases cx : A x ≤ i
            · exact Or.inl ⟨y1, y2, cx⟩
            · refine Or.inr ?_
              by_cases cy : x = e0
              · exact cy
              · have := hA.2 x e0 y1.1 y1.2 x1.1 x1.2 cy y2.1
                omega
          · rintro (⟨y1, y2, y3⟩ | rfl)
            · exact ⟨y1, y2, by omega⟩
            · exact ⟨x1, x2, by omega⟩
      · show z_up R c (R i) j = C (if j < c then θ j else if j = c then e0 else θ (j - 1))
        unfold z_up
        by_cases cj : j = c
        · rw [if_pos cj, if_neg (by omega), if_pos cj, hFi, hv]
        · rw [if_neg cj, if_pos (by omega)]; exact hR j a (by omega)
      · unfold z_up
        rw [if_neg (by omega)]
        exact hp p (by omega) b
    · rw [if_neg ci]
      refine ih R (i + 1) c θ (by omega) h0 (by omega) ?_ hR (fun p a b => hp p (by omega) b)
      refine jS_cg hS rfl (fun _ _ _ => rfl) (fun e => ?_) (fun _ _ _ _ q => q)
      constructor
      · rintro ⟨y1, y2, y3⟩
        refine ⟨y1, y2, ?_⟩
        by_cases cx : A e = i + 1
        · exfalso
          have hv := hF1 e y1.1 y1.2 y2
          rw [show A e - 1 = i by omega, ← hFi] at hv
          exact ci (by rw [hv]; exact y2.2)
        · omega
      · rintro ⟨y1, y2, y3⟩
        exact ⟨y1, y2, by omega⟩
/-- pairs that stand the other way round, in the row and over all -/
theorem lu_pr {r o : Int} {A C : Int → Int} {n : Int} (hn : 0 ≤ n) (hk : κ 24 0 0 = n) (hA : jPl A n) (hC : jPl C n) (h1 : ∀ e, 0 ≤ e → e < n → cPa κ r e = A e) (h2 : ∀ e, 0 ≤ e → e < n → cPa κ o e = C e) : 0 ≤ (cLu κ r o).2 ∧ cPr (cLu κ r o).1 (cLu κ r o).2 = z_sm (fun e => z_sm (fun f => if A e ≠ -1 ∧ A f ≠ -1 ∧ C e ≠ -1 ∧ C f ≠ -1 ∧ ¬ (A e < A f ↔ C e < C f) then (1 : Int) else 0) e) n := by
  obtain ⟨f1, f2⟩ := lu_s (κ := κ) (r := r) (o := o) hA hC h1 h2 n.toNat (by omega)
  have en : ((n.toNat : Nat) : Int) = n := by omega
  rw [en] at f1 f2
  obtain ⟨θ, hS, hR⟩ := cm_s (C := C) hA f1 f2 ((30 : Int) - 0).toNat (luF κ r o n.toNat) 0 0 (fun _ => 0) (by omega) (by omega) (by omega)
    ⟨Int.le_refl _, fun i a b => by omega, fun i j a b c => by omega, fun e he => by
      have := hA.1 e he.1.1 he.1.2
      have := he.2.1.1
      have := he.2.2
      omega⟩ (fun j a b => by omega) (fun p _ _ => rfl)
  have hO : jO (fun e f => A e < A f) := ⟨fun a h => by omega, fun a b c h1 h2 => by omega⟩
  unfold cLu
  rw [hk]
  generalize cmL ((30 : Int) - 0).toNat (luF κ r o n.toNat) 0 0 = q at hS hR ⊢
  refine ⟨hS.1, ?_⟩
  have hb : ∀ e, ((0 ≤ e ∧ e < n) ∧ jV A C e) → 0 ≤ e ∧ e < n := fun e h => h.1
  have e1 : cPr q.1 q.2 = z_sm (fun i => z_sm (fun j => if A (θ i) < A (θ j) ∧ C (θ j) < C (θ i) then (1 : Int) else 0) q.2) q.2 := by
    unfold cPr
    refine z_sm_congr fun i i0 i1 => jn_ct fun j j0 j1 => ?_
    rw [hR i i0 i1, hR j j0 j1]
    exact and_congr_left fun _ => (jS_lt hO hS ⟨i0, i1⟩ ⟨j0, j1⟩).symm
  have e2 : z_sm (fun i => z_sm (fun j => if A (θ i) < A (θ j) ∧ C (θ j) < C (θ i) then (1 : Int) else 0) q.2) q.2 = z_sm (fun e => z_sm (fun f => if ((0 ≤ e ∧ e < n) ∧ jV A C e) ∧ ((0 ≤ f ∧ f < n) ∧ jV A C f) ∧ (A e < A f ∧ C f < C e) then (1 : Int) else 0) n) n := by
    have k1 : z_sm (fun i => z_sm (fun j => if A (θ i) < A (θ j) ∧ C (θ j) < C (θ i) then (1 : Int) else 0) q.2) q.2 = z_sm (fun i => (fun e => z_sm (fun f => if ((0 ≤ f ∧ f < n) ∧ jV A C f) ∧ (A e < A f ∧ C f < C e) then (1 : Int) else 0) n) (θ i)) q.2 := z_sm_congr fun i i0 i1 => jS_ct (Q := fun f => A (θ i) < A f ∧ C f < C (θ i)) hO hS hn hb
    rw [k1, jS_sum (f := fun e => z_sm (fun f => if ((0 ≤ f ∧ f < n) ∧ jV A C f) ∧ (A e < A f ∧ C f < C e) then (1 : Int) else 0) n) hO hS hn hb]
    refine z_sm_congr fun e e0 e1 => ?_
    by_cases c : (0 ≤ e ∧ e < n) ∧ jV A C e
    · rw [if_pos c]
      exact jn_ct fun f _ _ => ⟨fun q => ⟨c, q⟩, fun q => q.2⟩
    · rw [if_neg c]
      exact (z_sm_zero fun f _ _ => if_neg fun q => c q.1).symm
  rw [e1, e2, jn_tri (G := fun e f => if ((0 ≤ e ∧ e < n) ∧ jV A C e) ∧ ((0 ≤ f ∧ f < n) ∧ jV A C f) ∧ (A e < A f ∧ C f < C e) then (1 : Int) else 0) n hn]
  refine z_sm_congr fun e e0 e1 => ?_
  rw [if_neg (show ¬ (_ ∧ _ ∧ (A e < A e ∧ C e < C e)) from fun q => by omega), Int.add_zero]
  refine z_sm_congr fun f f0 f1 => ?_
  by_cases ce : A e ≠ -1 ∧ A f ≠ -1 ∧ C e ≠ -1 ∧ C f ≠ -1
  · have d1 := hA.2 e f e0 e1 f0 (by omega) (by omega) ce.1
    have d2 := hC.2 e f e0 e1 f0 (by omega) (by omega) ce.2.2.1
    have v1 : (0 ≤ e ∧ e < n) ∧ jV A C e := ⟨⟨e0, e1⟩, ce.1, ce.2.2.1⟩
    have v2 : (0 ≤ f ∧ f < n) ∧ jV A C f := ⟨⟨f0, by omega⟩, ce.2.1, ce.2.2.2⟩
    by_cases c1 : A e < A f
    · by_cases c2 : C e < C f
      · rw [if_neg (fun q => by have := q.2.2.2; omega), if_neg (fun q => by have := q.2.2.1; omega), if_neg (fun q => q.2.2.2.2 ⟨fun _ => c2, fun _ => c1⟩)]; rfl
      · rw [if_pos ⟨v1, v2, c1, by omega⟩, if_neg (fun q => by have := q.2.2.1; omega), if_pos ⟨ce.1, ce.2.1, ce.2.2.1, ce.2.2.2, fun q => c2 (q.mp c1)⟩]; rfl
    · by_cases c2 : C e < C f
      · rw [if_neg (fun q => c1 q.2.2.1), if_pos ⟨v2, v1, by omega, c2⟩, if_pos ⟨ce.1, ce.2.1, ce.2.2.1, ce.2.2.2, fun q => c1 (q.mpr c2)⟩]; rfl
      · rw [if_neg (fun q => c1 q.2.2.1), if_neg (fun q => c2 q.2.2.2), if_neg (fun q => q.2.2.2.2 ⟨fun q => absurd q c1, fun q => absurd q c2⟩)]; rfl
  · rw [if_neg (fun q => ce ⟨q.1.2.1, q.2.1.2.1, q.1.2.2, q.2.1.2.2⟩), if_neg (fun q => ce ⟨q.2.1.2.1, q.1.2.1, q.2.1.2.2, q.1.2.2⟩), if_neg (fun q => ce ⟨q.1, q.2.1, q.2.2.1, q.2.2.2.1⟩)]; rfl
theorem jR.zpl (h : jR κ σ) (hV : mV σ) {r : Int} (hr : r = -1 ∨ kp σ r) : jPl (yPi σ r) (σ 19 0) ∧ ∀ e, 0 ≤ e → e < σ 19 0 → cPa κ r e = yPi σ r e := by
  rcases hr with rfl | hr
  · have e1 : ∀ e, yPi σ (-1) e = if e < σ 19 0 ∧ σ 18 e ≠ 0 then pl σ e else -1 := fun e => if_pos rfl
    have hn := (mV_n hV).2
    have h24 := h.n
    have key : ∀ e, 0 ≤ e → e < σ 19 0 → σ 18 e ≠ 0 → pl σ e = κ 37 e 0 ∧ 1 ≤ pl σ e ∧ pl σ e ≤ κ 24 1 0 ∧ κ 20 1 (pl σ e - 1) = e := fun e a b c => h.xpl hV ⟨a, b, c⟩
    have hm := my_b hV
    have hn1 := h.xn1 hV
    refine ⟨⟨fun e a b => ?_, fun e f a b a' b' hne hv => ?_⟩, fun e a b => ?_⟩
    · rw [e1]
      by_cases c : e < σ 19 0 ∧ σ 18 e ≠ 0
      · rw [if_pos c]
        have := key e a b c.2
        exact Or.inr (by omega)
      · rw [if_neg c]; exact Or.inl rfl
    · rw [e1] at hv
      by_cases c : e < σ 19 0 ∧ σ 18 e ≠ 0
      · rw [e1, e1, if_pos c]
        have k1 := key e a b c.2
        by_cases c' : f < σ 19 0 ∧ σ 18 f ≠ 0
        · rw [if_pos c']
          have k2 := key f a' b' c'.2
          intro q
          rw [q] at k1
          exact hne (k1.2.2.2.symm.trans k2.2.2.2)
        · rw [if_neg c']; omega
      · rw [if_neg c] at hv; exact absurd rfl hv
    · rw [e1]
      unfold cPa
      rw [if_pos rfl]
      by_cases c : e < σ 19 0 ∧ σ 18 e ≠ 0
      · rw [if_pos c]; exact (key e a b c.2).1.symm
      · rw [if_neg c]
        have h18 : σ 18 e = 0 := by
          by_cases c2 : σ 18 e = 0
          · exact c2
          · exact absurd ⟨b, c2⟩ c
        exact (h.e ⟨a, b⟩).2.2.2.2.2.2 h18
  · have h1 := hr.1; have h2 := hr.2.1
    have e1 : ∀ e, yPi σ r e = σ 29 (20 * e + r % 20) := fun e => if_neg (by omega)
    obtain ⟨k1, k2⟩ := h.k (r % 20) (by omega) (by omega) (by omega)
    refine ⟨⟨fun e a b => by rw [e1]; exact k1 e a b, fun e f a b a' b' hne hv => by rw [e1] at hv ⊢; rw [e1]; exact k2 e f a b a' b' hne hv⟩, fun e a b => ?_⟩
    unfold cPa
    rw [if_neg (by omega)]
    exact h.zpc hr ⟨a, b⟩
theorem jR.aInv (h : jR κ σ) (hV : mV σ) {r o : Int} (hr : r = -1 ∨ kp σ r) (ho : o = -1 ∨ kp σ o) : 0 ≤ (cLu κ r o).2 ∧ cPr (cLu κ r o).1 (cLu κ r o).2 = yAp σ r o := by
  obtain ⟨a1, a2⟩ := h.zpl hV hr
  obtain ⟨b1, b2⟩ := h.zpl hV ho
  exact lu_pr (mV_n hV).1 h.n a1 b1 a2 b2
theorem jR.aSwaps (h : jR κ σ) (hV : mV σ) {r o : Int} (hr : r = -1 ∨ kp σ r) (ho : o = -1 ∨ kp σ o) : swP (cLu κ r o).2 ((cLu κ r o).2 - 0).toNat (cLu κ r o).1 0 = yAp σ r o := by
  obtain ⟨a1, a2⟩ := h.aInv hV hr ho
  rw [sp_all a1, a2]
end N7
