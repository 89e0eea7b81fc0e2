/-! THE LAW's OBJECT: its fields and rows by numbers; the class's heap around it. -/
section LH
def lK : List Nat := [40, 2, 3, 4, 5, 6, 7, 8, 9, 10, 11, 12, 13, 20]
def lLn (k : Nat) : Nat := match k with
  | 2 => 120
  | 4 => 16
  | 8 => 4
  | 12 => 1200
  | 13 => 1200
  | _ => 30
def lSc : List Nat := [0, 14, 15, 16, 17, 18, 19]
def lF (A : Nat → Nat) (O : Nat) (σ : z_S) : List Value := [z_i (σ 0 0), .ref O, .ref (A 2), .ref (A 3), .ref (A 4), .ref (A 5), .ref (A 6), .ref (A 7), .ref (A 8), .ref (A 9), .ref (A 10), .ref (A 11), .ref (A 12), .ref (A 13), z_i (σ 14 0), z_i (σ 15 0), z_i (σ 16 0), z_i (σ 17 0), z_i (σ 18 0), z_i (σ 19 0), .ref (A 20)]
def lC (A : Nat → Nat) (O : Nat) (σ : z_S) (k : Nat) : va_E := if k = 40 then z_ob 8 (lF A O σ) else if k = 7 ∨ k = 8 then z_ba (lLn k) (σ k) else z_ia (lLn k) (σ k)
def lHs (A : Nat → Nat) (O : Nat) (σ : z_S) : List Nat → z_H → z_H
  | [], h => h
  | k :: ks, h => z_set (lHs A O σ ks h) (A k) (lC A O σ k)
def lH (A : Nat → Nat) (O : Nat) (σ : z_S) (h : z_H) : z_H := lHs A O σ lK h
def lI (A : Nat → Nat) : Prop := ∀ i ∈ lK, ∀ j ∈ lK, A i = A j → i = j
theorem lHs_at {A : Nat → Nat} {O : Nat} {σ : z_S} {h : z_H} {k : Nat} : ∀ ks : List Nat, k ∈ ks → (∀ j ∈ ks, A j = A k → j = k) → lHs A O σ ks h (A k) = some (lC A O σ k) := by
  intro ks
  induction ks with
  | nil => intro hk; cases hk
  | cons k' ks ih =>
    intro hk hi
    show z_set _ _ _ _ = _
    unfold z_set
    by_cases e : A k = A k'
    · rw [if_pos e, hi k' List.mem_cons_self e.symm]
    · rw [if_neg e]
      rcases List.mem_cons.mp hk with rfl | hk
      · exact absurd rfl e
      · exact ih hk (fun j hj => hi j (List.mem_cons_of_mem _ hj))
theorem lHs_ne {A : Nat → Nat} {O : Nat} {σ σ' : z_S} {h : z_H} {k q : Nat} : ∀ ks : List Nat, (∀ j ∈ ks, j ≠ k → lC A O σ' j = lC A O σ j) → q ≠ A k → lHs A O σ ks h q = lHs A O σ' ks h q := by
  intro ks
  induction ks with
  | nil => intro _ _; rfl
  | cons k' ks ih =>
    intro hc hq
    show z_set _ _ _ _ = z_set _ _ _ _
    unfold z_set
    by_cases e : q = A k'
    · rw [if_pos e, if_pos e, hc k' List.mem_cons_self (fun e2 => hq (by rw [e, e2]))]
    · rw [if_neg e, if_neg e]
      exact ih (fun j hj => hc j (List.mem_cons_of_mem _ hj)) hq
theorem lH_at {A : Nat → Nat} {O : Nat} {σ : z_S} {h : z_H} {k : Nat} (hA : lI A) (hk : k ∈ lK) : lH A O σ h (A k) = some (lC A O σ k) := lHs_at lK hk (fun j hj => hA j hj k hk)
theorem lH_set {A : Nat → Nat} {O : Nat} {σ σ' : z_S} {h : z_H} {k : Nat} {c : va_E} (hA : lI A) (hk : k ∈ lK) (hc : ∀ j ∈ lK, j ≠ k → lC A O σ' j = lC A O σ j) (he : lC A O σ' k = c) : z_set (lH A O σ h) (A k) c = lH A O σ' h := by
  funext q
  by_cases e : q = A k
  · subst e
    rw [z_set_at, lH_at hA hk, he]
  · rw [z_set_ne e]
    exact lHs_ne lK hc e
theorem lHs_out {A : Nat → Nat} {O : Nat} {σ : z_S} {h : z_H} {q : Nat} : ∀ ks : List Nat, (∀ j ∈ ks, q ≠ A j) → lHs A O σ ks h q = h q := by
  intro ks
  induction ks with
  | nil => intro _; rfl
  | cons k' ks ih =>
    intro hq
    show z_set _ _ _ _ = _
    rw [z_set_ne (hq k' List.mem_cons_self)]
    exact ih (fun j hj => hq j (List.mem_cons_of_mem _ hj))
theorem lHs_id {A : Nat → Nat} {O : Nat} {σ : z_S} {h : z_H} : ∀ ks : List Nat, (∀ j ∈ ks, h (A j) = some (lC A O σ j)) → lHs A O σ ks h = h := by
  intro ks
  induction ks with
  | nil => intro _; rfl
  | cons k' ks ih =>
    intro hq
    show z_set _ _ _ = _
    rw [ih (fun j hj => hq j (List.mem_cons_of_mem _ hj))]
    exact z_set_s (hq k' List.mem_cons_self)
/-- the whole heap: the class's cells, the law's cells, the rest -/
noncomputable def gH (D : Nat) (B : Nat → Int → Nat) (κ : c_K) (A : Nat → Nat) (σ : z_S) (h : z_H) : z_H := cH D B κ (lH A (B 0 0) σ h)
def gXX (B : Nat → Int → Nat) (κ : c_K) (A : Nat → Nat) : Prop := lI A ∧ ∀ k ∈ lK, ∀ t i, cL κ t i → B t i ≠ A k
theorem cH_out {D : Nat} {B : Nat → Int → Nat} {κ : c_K} {h : z_H} {a : Nat} {c : va_E} (hn : ∀ t i, cL κ t i → B t i ≠ a) : z_set (cH D B κ h) a c = cH D B κ (z_set h a c) := by
  funext q
  by_cases hx : ∃ p : Nat × Int, cL κ p.1 p.2 ∧ B p.1 p.2 = q
  · have hq : q ≠ a := by
      obtain ⟨p, p1, p2⟩ := hx
      rw [← p2]
      exact hn _ _ p1
    rw [z_set_ne hq]
    unfold cH
    rw [dif_pos hx, dif_pos hx]
  · have hn2 : ∀ t i, cL κ t i → B t i ≠ q := fun t i hl e => hx ⟨(t, i), hl, e⟩
    rw [cH_no hn2]
    by_cases hq : q = a
    · subst hq
      rw [z_set_at, z_set_at]
    · rw [z_set_ne hq, z_set_ne hq, cH_no hn2]
theorem gH_at {D : Nat} {B : Nat → Int → Nat} {κ : c_K} {A : Nat → Nat} {σ : z_S} {h : z_H} {k : Nat} (hX : gXX B κ A) (hk : k ∈ lK) : gH D B κ A σ h (A k) = some (lC A (B 0 0) σ k) := by
  unfold gH
  rw [cH_no (hX.2 k hk), lH_at hX.1 hk]
theorem gH_set {D : Nat} {B : Nat → Int → Nat} {κ : c_K} {A : Nat → Nat} {σ σ' : z_S} {h : z_H} {k : Nat} {c : va_E} (hX : gXX B κ A) (hk : k ∈ lK) (hc : ∀ j ∈ lK, j ≠ k → lC A (B 0 0) σ' j = lC A (B 0 0) σ j) (he : lC A (B 0 0) σ' k = c) : z_set (gH D B κ A σ h) (A k) c = gH D B κ A σ' h := by
  unfold gH
  rw [cH_out (hX.2 k hk), lH_set hX.1 hk hc he]
/-- behind a call of the class's -/
theorem gH_back {D : Nat} {B B' : Nat → Int → Nat} {κ κ' : c_K} {A : Nat → Nat} {σ : z_S} {h h2 : z_H} (hX : gXX B κ A) (hI : cI B κ (lH A (B 0 0) σ h) B' κ' h2) : cH D B' κ' h2 = gH D B' κ' A σ h2 ∧ gXX B' κ' A ∧ (∀ x c, h x = some c → (∀ t i, cL κ t i → B t i ≠ x) → (∀ k ∈ lK, A k ≠ x) → h2 x = some c ∧ ∀ t i, cL κ' t i → B' t i ≠ x) := by
  obtain ⟨hJ, -, hF1, hF2⟩ := hI
  have h0 : B' 0 0 = B 0 0 := (hF2 0 0 (by decide) (Or.inl ⟨Or.inl (by decide), rfl⟩)).2
  have hk : ∀ k ∈ lK, h2 (A k) = some (lC A (B 0 0) σ k) ∧ ∀ t i, cL κ' t i → B' t i ≠ A k := fun k hk => hF1 _ _ (lH_at hX.1 hk) (hX.2 k hk)
  refine ⟨?_, ⟨hX.1, fun k hk' => (hk k hk').2⟩, fun x c hx hn hA => hF1 x c ?_ hn⟩
  · unfold gH lH
    rw [h0, lHs_id lK (fun j hj => (hk j hj).1)]
  · rw [show lH A (B 0 0) σ h x = h x from lHs_out lK (fun j hj => (hA j hj).symm)]
    exact hx
variable {Y : z_Y} {d : Nat} {M : z_M} {pc pc' : Nat} {ls ls' : List (Nat × Value)} {st st' : List Value} {h : z_H} {k n : Nat} {D : Nat} {B : Nat → Int → Nat} {κ : c_K} {A : Nat → Nat} {σ : z_S}
theorem g_gf {ix kf : Nat} {t0 : FieldType} {fin : Bool} {v : Value} (hY : z_ok Y d M) (hX : gXX B κ A) (dd : z_at M pc (.getfield ix) 3 pc' ∧ z_fd M.1.cls ix 8 kf t0 fin) (hv : (lF A (B 0 0) σ)[kf]? = some v) (kk : z_W Y pc' ls (v :: st) (gH D B κ A σ h) k n) : z_W Y pc ls (.ref (A 40) :: st) (gH D B κ A σ h) k n :=
  z_getfield hY dd (by rw [gH_at hX (by decide)]; rfl) hv kk
theorem lF_u {O kf : Nat} {i x : Int} (hs : kf ∉ lSc) : lF A O (z_u σ kf i x) = lF A O σ := by
  have h1 : ∀ j ∈ lSc, z_u σ kf i x j = σ j := fun j hj => z_u_ne (fun e => hs (e ▸ hj))
  unfold lF
  rw [h1 0 (by decide), h1 14 (by decide), h1 15 (by decide), h1 16 (by decide), h1 17 (by decide), h1 18 (by decide), h1 19 (by decide)]
theorem lC_u {O j kf : Nat} {i x : Int} (hj : j ≠ kf) (h40 : j ≠ 40) : lC A O (z_u σ kf i x) j = lC A O σ j := by
  unfold lC
  rw [if_neg h40, if_neg h40, z_u_ne hj]
theorem lC_40 {O : Nat} : lC A O σ 40 = z_ob 8 (lF A O σ) := if_pos rfl
theorem g_set1 {kf : Nat} {x : Int} (hX : gXX B κ A) (hs : kf ∈ lSc) : z_set (gH D B κ A σ h) (A 40) (z_ob 8 ((lF A (B 0 0) σ).set kf (z_i x))) = gH D B κ A (z_u σ kf 0 x) h := by
  refine gH_set hX (by decide) (fun j hj h40 => lC_u ?_ h40) ?_
  · intro e
    subst e
    simp only [lSc, lK, List.mem_cons, List.not_mem_nil, or_false] at hs hj
    omega
  · rw [lC_40]
    congr 1
    simp only [lSc, List.mem_cons, List.not_mem_nil, or_false] at hs
    rcases hs with rfl | rfl | rfl | rfl | rfl | rfl | rfl <;> simp [lF, z_u]
theorem g_pf {ix kf : Nat} {x : Int} (hY : z_ok Y d M) (hX : gXX B κ A) (dd : z_at M pc (.putfield ix) 3 pc' ∧ z_fd M.1.cls ix 8 kf .int false) (hs : kf ∈ lSc) (kk : z_W Y pc' ls st (gH D B κ A (z_u σ kf 0 x) h) k n) : z_W Y pc ls (z_i x :: .ref (A 40) :: st) (gH D B κ A σ h) k n := by
  refine z_putfield hY dd (by rw [gH_at hX (by decide), lC_40]) rfl rfl ?_ (z_heq (g_set1 hX hs) kk)
  simp only [lSc, List.mem_cons, List.not_mem_nil, or_false] at hs
  show kf < 21
  omega
theorem g_ial {j N : Nat} {i x : Int} (hY : z_ok Y d M) (hX : gXX B κ A) (dd : z_at M pc .iaload 1 pc') (hj : j ∈ lK) (hC : lC A (B 0 0) σ j = z_ia N (σ j)) (hi : 0 ≤ i ∧ i < N ∧ N ≤ 2147483647) (hx : σ j i = x) (kk : z_W Y pc' ls (z_i x :: st) (gH D B κ A σ h) k n) : z_W Y pc ls (z_i i :: .ref (A j) :: st) (gH D B κ A σ h) k n := by
  refine z_iaload hY dd (by rw [gH_at hX hj, hC]) hi ?_
  rw [hx]
  exact kk
theorem g_bal {j N : Nat} {i x : Int} (hY : z_ok Y d M) (hX : gXX B κ A) (dd : z_at M pc .baload 1 pc') (hj : j ∈ lK) (hC : lC A (B 0 0) σ j = z_ba N (σ j)) (hi : 0 ≤ i ∧ i < N ∧ N ≤ 2147483647) (hx : σ j i = x) (kk : z_W Y pc' ls (z_i x :: st) (gH D B κ A σ h) k n) : z_W Y pc ls (z_i i :: .ref (A j) :: st) (gH D B κ A σ h) k n := by
  refine z_baload hY dd (by rw [gH_at hX hj, hC]) hi ?_
  rw [hx]
  exact kk
theorem g_set2 {j : Nat} {i x : Int} {c : va_E} (hX : gXX B κ A) (hj : j ∈ lK ∧ j ∉ lSc ∧ j ≠ 40) (hc : lC A (B 0 0) (z_u σ j i x) j = c) : z_set (gH D B κ A σ h) (A j) c = gH D B κ A (z_u σ j i x) h := by
  refine gH_set hX hj.1 (fun q hq hne => ?_) hc
  by_cases h40 : q = 40
  · subst h40
    rw [lC_40, lC_40, lF_u hj.2.1]
  · exact lC_u hne h40
theorem g_ias {j N : Nat} {i x : Int} (hY : z_ok Y d M) (hX : gXX B κ A) (dd : z_at M pc .iastore 1 pc') (hj : j ∈ lK ∧ j ∉ lSc ∧ j ≠ 40) (hC : ∀ σ : z_S, lC A (B 0 0) σ j = z_ia N (σ j)) (hi : 0 ≤ i ∧ i < N ∧ N ≤ 2147483647) (kk : z_W Y pc' ls st (gH D B κ A (z_u σ j i x) h) k n) : z_W Y pc ls (z_i x :: z_i i :: .ref (A j) :: st) (gH D B κ A σ h) k n := by
  refine z_iastore hY dd (by rw [gH_at hX hj.1, hC]) hi (z_heq (g_set2 hX hj ?_) kk)
  rw [hC, z_u_eq]
theorem g_bas {j N : Nat} {i x : Int} (hY : z_ok Y d M) (hX : gXX B κ A) (dd : z_at M pc .bastore 1 pc') (hj : j ∈ lK ∧ j ∉ lSc ∧ j ≠ 40) (hC : ∀ σ : z_S, lC A (B 0 0) σ j = z_ba N (σ j)) (hi : 0 ≤ i ∧ i < N ∧ N ≤ 2147483647) (hx01 : x = 0 ∨ x = 1) (kk : z_W Y pc' ls st (gH D B κ A (z_u σ j i x) h) k n) : z_W Y pc ls (z_i x :: z_i i :: .ref (A j) :: st) (gH D B κ A σ h) k n := by
  refine z_bastore hY dd (by rw [gH_at hX hj.1, hC]) hi hx01 (z_heq (g_set2 hX hj ?_) kk)
  rw [hC, z_u_eq]
/-- bounds of the law's numbers -/
def wLo (k : Nat) : Int := match k with
  | 0 => -2147483648
  | 2 => -100000
  | 4 => -3996
  | 5 => -100000
  | 6 => -100000
  | 11 => -1
  | 12 => -200000
  | 13 => -1
  | 15 => 0
  | 17 => 1
  | 18 => 1
  | _ => 0
def wHi (k : Nat) : Int := match k with
  | 0 => 2147483647
  | 2 => 100000
  | 3 => 4
  | 4 => 3996
  | 5 => 100000
  | 6 => 100000
  | 7 => 1
  | 8 => 1
  | 9 => 29
  | 10 => 40
  | 11 => 40
  | 12 => 200000
  | 13 => 30
  | 14 => 30
  | 15 => 4
  | 16 => 30
  | 17 => 5
  | 18 => 4
  | 19 => 40
  | 20 => 29
  | _ => 1000
def wB (σ : z_S) : Prop := ∀ (k : Nat) (i : Int), wLo k ≤ σ k i ∧ σ k i ≤ wHi k
theorem wB.s0 (h : wB σ) : ∀ i, -2147483648 ≤ σ 0 i ∧ σ 0 i ≤ 2147483647 := h 0
theorem wB.s2 (h : wB σ) : ∀ i, -100000 ≤ σ 2 i ∧ σ 2 i ≤ 100000 := h 2
theorem wB.s3 (h : wB σ) : ∀ i, 0 ≤ σ 3 i ∧ σ 3 i ≤ 4 := h 3
theorem wB.s4 (h : wB σ) : ∀ i, -3996 ≤ σ 4 i ∧ σ 4 i ≤ 3996 := h 4
theorem wB.s5 (h : wB σ) : ∀ i, -100000 ≤ σ 5 i ∧ σ 5 i ≤ 100000 := h 5
theorem wB.s6 (h : wB σ) : ∀ i, -100000 ≤ σ 6 i ∧ σ 6 i ≤ 100000 := h 6
theorem wB.s7 (h : wB σ) : ∀ i, 0 ≤ σ 7 i ∧ σ 7 i ≤ 1 := h 7
theorem wB.s8 (h : wB σ) : ∀ i, 0 ≤ σ 8 i ∧ σ 8 i ≤ 1 := h 8
theorem wB.s9 (h : wB σ) : ∀ i, 0 ≤ σ 9 i ∧ σ 9 i ≤ 29 := h 9
theorem wB.s10 (h : wB σ) : ∀ i, 0 ≤ σ 10 i ∧ σ 10 i ≤ 40 := h 10
theorem wB.s11 (h : wB σ) : ∀ i, -1 ≤ σ 11 i ∧ σ 11 i ≤ 40 := h 11
theorem wB.s12 (h : wB σ) : ∀ i, -200000 ≤ σ 12 i ∧ σ 12 i ≤ 200000 := h 12
theorem wB.s13 (h : wB σ) : ∀ i, -1 ≤ σ 13 i ∧ σ 13 i ≤ 30 := h 13
theorem wB.s14 (h : wB σ) : ∀ i, 0 ≤ σ 14 i ∧ σ 14 i ≤ 30 := h 14
theorem wB.s15 (h : wB σ) : ∀ i, 0 ≤ σ 15 i ∧ σ 15 i ≤ 4 := h 15
theorem wB.s16 (h : wB σ) : ∀ i, 0 ≤ σ 16 i ∧ σ 16 i ≤ 30 := h 16
theorem wB.s17 (h : wB σ) : ∀ i, 1 ≤ σ 17 i ∧ σ 17 i ≤ 5 := h 17
theorem wB.s18 (h : wB σ) : ∀ i, 1 ≤ σ 18 i ∧ σ 18 i ≤ 4 := h 18
theorem wB.s19 (h : wB σ) : ∀ i, 0 ≤ σ 19 i ∧ σ 19 i ≤ 40 := h 19
theorem wB.s20 (h : wB σ) : ∀ i, 0 ≤ σ 20 i ∧ σ 20 i ≤ 29 := h 20
theorem wB_u (hB : wB σ) {k : Nat} {i v : Int} (hv : wLo k ≤ v ∧ v ≤ wHi k) : wB (z_u σ k i v) := by
  intro k' i'
  unfold z_u
  by_cases e : k' = k
  · subst e
    rw [if_pos rfl]
    by_cases e2 : i' = i
    · rw [if_pos e2]; exact hv
    · rw [if_neg e2]; exact hB k' i'
  · rw [if_neg e]; exact hB k' i'
/-- all but the law's scratch is the same -/
def wE (σ' σ : z_S) : Prop := ∀ k, k ≠ 0 → k ≠ 6 → k ≠ 20 → σ' k = σ k
theorem wE_r : wE σ σ := fun _ _ _ _ => rfl
theorem wE_u {σ' : z_S} (h : wE σ' σ) {k : Nat} {i v : Int} (hk : k = 0 ∨ k = 6 ∨ k = 20) : wE (z_u σ' k i v) σ := fun q h0 h6 h20 => by
  rw [z_u_ne (by omega)]
  exact h q h0 h6 h20
theorem wE_t {σ' σ'' : z_S} (h2 : wE σ'' σ') (h1 : wE σ' σ) : wE σ'' σ := fun q h0 h6 h20 => (h2 q h0 h6 h20).trans (h1 q h0 h6 h20)
end LH
