/-! One who comes; a new order (laid by wip/whole/gen/gm39.py). -/
section D8
/-- what a new entrant bears -/
def kEv (n g : Int) (k : Nat) : Int → Int := fun j => if k = 34 then n else if k = 35 then g else if k = 36 then 1 else if k = 33 then (if 0 ≤ j ∧ j < ((20 : Nat) : Int) then (-1) else (fun _ => 0) j) else if k = 37 ∨ k = 39 ∨ k = 40 then -1 else 0
def kNe (κ : c_K) (g N : Int) : c_K := fun k i => if (30 ≤ k ∧ k ≤ 40) ∧ i = κ 24 0 0 then kEv (κ 24 0 0) g k else kAd κ 0 (fun j => if j = κ 24 0 0 then κ 24 0 0 else κ 20 0 j) (kW (κ 25 0 0)) N k i
theorem kNe_k {κ : c_K} {g N : Int} {k : Nat} (h : ¬ (30 ≤ k ∧ k ≤ 40)) : kNe κ g N k = kAd κ 0 (fun j => if j = κ 24 0 0 then κ 24 0 0 else κ 20 0 j) (kW (κ 25 0 0)) N k := funext fun i => if_neg fun q => h q.1
theorem kNe_o {κ : c_K} {g N : Int} {k : Nat} {i : Int} (h : i ≠ κ 24 0 0) (hk : k ≠ 20 ∧ k ≠ 24 ∧ k ≠ 25 ∧ k ≠ 26) : kNe κ g N k i = κ k i := by
  unfold kNe
  rw [if_neg (fun q => h q.2), kAd_ne hk]
theorem kNe_n {κ : c_K} {g N : Int} {k : Nat} (h : 30 ≤ k ∧ k ≤ 40) : kNe κ g N k (κ 24 0 0) = kEv (κ 24 0 0) g k := if_pos ⟨h, rfl⟩
theorem kNe_ne {κ : c_K} {g N : Int} {k : Nat} (h : ¬ (30 ≤ k ∧ k ≤ 40)) (hk : k ≠ 20 ∧ k ≠ 24 ∧ k ≠ 25 ∧ k ≠ 26) : kNe κ g N k = κ k := by rw [kNe_k h, kAd_ne hk]
theorem kNe_24 {κ : c_K} {g N : Int} : kNe κ g N 24 0 0 = κ 24 0 0 + 1 := by rw [kNe_k (by decide), kAd_24]
theorem kNe_r {κ : c_K} {g N r : Int} {k : Nat} (h : ¬ (30 ≤ k ∧ k ≤ 40)) (hr : r ≠ 0) : kNe κ g N k r = κ k r := by rw [kNe_k h, kAd_ni hr]
theorem kNe_26 {κ : c_K} {g N : Int} : kNe κ g N 26 0 0 = N := by rw [kNe_k (by decide), kAd_26]
theorem kNe_25 {κ : c_K} {g N : Int} : kNe κ g N 25 0 0 = kW (κ 25 0 0) := by rw [kNe_k (by decide), kAd_25]
theorem kNe_20 {κ : c_K} {g N : Int} : kNe κ g N 20 0 = fun j => if j = κ 24 0 0 then κ 24 0 0 else κ 20 0 j := by rw [kNe_k (by decide), kAd_20]
theorem kEv_b {n g : Int} (hn : 0 ≤ n ∧ n ≤ 29) (hg : 0 ≤ g ∧ g ≤ 4) {k : Nat} (hk : 30 ≤ k ∧ k ≤ 40) (j : Int) : bLo k ≤ kEv n g k j ∧ kEv n g k j ≤ bHi k := by
  have h31 : bLo 31 = -2147483648 := rfl
  have h31' : bHi 31 = 2147483647 := rfl
  rcases (show k = 30 ∨ k = 31 ∨ k = 32 ∨ k = 33 ∨ k = 34 ∨ k = 35 ∨ k = 36 ∨ k = 37 ∨ k = 38 ∨ k = 39 ∨ k = 40 by omega) with rfl | rfl | rfl | rfl | rfl | rfl | rfl | rfl | rfl | rfl | rfl
  · exact ⟨by show (-100000 : Int) ≤ 0; omega, by show (0 : Int) ≤ 100000; omega⟩
  · exact ⟨by show (-2147483648 : Int) ≤ 0; omega, by show (0 : Int) ≤ 2147483647; omega⟩
  · exact ⟨by show (-200000 : Int) ≤ 0; omega, by show (0 : Int) ≤ 200000; omega⟩
  · have e : kEv n g 33 j = if 0 ≤ j ∧ j < ((20 : Nat) : Int) then (-1) else 0 := rfl
    rw [e]
    exact ⟨by show (-1 : Int) ≤ _; split <;> omega, by show _ ≤ (30 : Int); split <;> omega⟩
  · exact ⟨by show (-1 : Int) ≤ n; omega, by show n ≤ 29; omega⟩
  · exact ⟨by show (0 : Int) ≤ g; omega, by show g ≤ 4; omega⟩
  · exact ⟨by show (0 : Int) ≤ 1; omega, by show (1 : Int) ≤ 1; omega⟩
  · exact ⟨by show (-1 : Int) ≤ -1; omega, by show (-1 : Int) ≤ 30; omega⟩
  · exact ⟨by show (-200000 : Int) ≤ 0; omega, by show (0 : Int) ≤ 200000; omega⟩
  · exact ⟨by show (-1 : Int) ≤ -1; omega, by show (-1 : Int) ≤ 200; omega⟩
  · exact ⟨by show (-1 : Int) ≤ -1; omega, by show (-1 : Int) ≤ 200; omega⟩
theorem S_Ne {κ : c_K} (hV : cV κ) (hS : cS κ) {g N : Int} (hn : κ 24 0 0 < 30) (hg : 0 ≤ g ∧ g ≤ 4) (hN : κ 24 0 0 + 1 ≤ N ∧ 0 < N ∧ N ≤ 45) : cV (kNe κ g N) ∧ cS (kNe κ g N) := by
  obtain ⟨h0, hsz, hrw, hcu, htl, hth⟩ := hV
  have e24 : kNe κ g N 24 0 0 = κ 24 0 0 + 1 := kNe_24
  refine ⟨⟨by rw [e24]; omega, fun r r0 r3 => ?_, fun r j r0 r3 j0 j1 => ?_, ?_, ?_, fun i => ?_⟩, fun k i j => ?_, fun j j0 j1 => ?_, fun e e0 e1 => ?_⟩
  · rw [e24]
    have := hsz r r0 r3
    by_cases hr : r = 0
    · subst hr
      rw [e24, kNe_26]
      omega
    · rw [kNe_r (by decide) hr, kNe_r (by decide) hr]
      omega
  · rw [e24]
    by_cases hr : r = 0
    · subst hr
      rw [e24] at j1
      rw [kNe_20]
      show 0 ≤ (if j = κ 24 0 0 then κ 24 0 0 else κ 20 0 j) ∧ (if j = κ 24 0 0 then κ 24 0 0 else κ 20 0 j) < _
      by_cases hj : j = κ 24 0 0
      · rw [if_pos hj]; omega
      · rw [if_neg hj]
        have := hrw 0 j (by omega) (by omega) j0 (by omega)
        omega
    · rw [kNe_r (by decide) hr] at j1 ⊢
      have := hrw r j r0 r3 j0 j1
      omega
  · rw [kNe_ne (by decide) (by decide)]; exact hcu
  · rw [kNe_ne (by decide) (by decide)]; exact htl
  · by_cases hi : i = κ 24 0 0
    · subst hi
      rw [kNe_n (by decide)]
      exact Or.inr rfl
    · rw [kNe_o hi (by decide)]; exact hth i
  · by_cases hk : 30 ≤ k ∧ k ≤ 40
    · by_cases hi : i = κ 24 0 0
      · subst hi
        rw [kNe_n hk]
        exact kEv_b (by omega) hg hk j
      · rw [kNe_o hi (by omega)]; exact hS.1 k i j
    · rw [kNe_k hk]
      by_cases hi : i = 0
      · subst hi
        by_cases h1 : k = 20 ∨ k = 24 ∨ k = 25 ∨ k = 26
        · have hb : ∀ v : Int, -2147483648 ≤ v → v ≤ 2147483647 → bLo k ≤ v ∧ v ≤ bHi k := fun v a b => by
            rcases h1 with rfl | rfl | rfl | rfl <;> exact ⟨a, b⟩
          have hw := kW_b (κ 25 0 0)
          have hB := hS.b
          rcases h1 with rfl | rfl | rfl | rfl
          · rw [kAd_20]
            show bLo 20 ≤ (if j = κ 24 0 0 then κ 24 0 0 else κ 20 0 j) ∧ (if j = κ 24 0 0 then κ 24 0 0 else κ 20 0 j) ≤ bHi 20
            have := hB 20 0 j
            split
            · exact hb _ (by omega) (by omega)
            · exact hb _ this.1 this.2
          · by_cases hj : j = 0
            · subst hj; rw [kAd_24]; exact hb _ (by omega) (by omega)
            · have e : kAd κ 0 (fun j => if j = κ 24 0 0 then κ 24 0 0 else κ 20 0 j) (kW (κ 25 0 0)) N 24 0 j = κ 24 0 j := by
                unfold kAd
                rw [k_u_ne (by decide), k_u_ne (by decide), k_u_eq]
                unfold z_up
                rw [if_neg hj, k_r_ne (by decide)]
              rw [e]; exact hS.1 24 0 j
          · by_cases hj : j = 0
            · subst hj; rw [kAd_25]; exact hb _ (by omega) (by omega)
            · have e : kAd κ 0 (fun j => if j = κ 24 0 0 then κ 24 0 0 else κ 20 0 j) (kW (κ 25 0 0)) N 25 0 j = κ 25 0 j := by
                unfold kAd
                rw [k_u_ne (by decide), k_u_eq]
                unfold z_up
                rw [if_neg hj, k_u_ne (by decide), k_r_ne (by decide)]
              rw [e]; exact hS.1 25 0 j
          · by_cases hj : j = 0
            · subst hj; rw [kAd_26]; exact hb _ (by omega) (by omega)
            · have e : kAd κ 0 (fun j => if j = κ 24 0 0 then κ 24 0 0 else κ 20 0 j) (kW (κ 25 0 0)) N 26 0 j = κ 26 0 j := by
                unfold kAd
                rw [k_u_eq]
                unfold z_up
                rw [if_neg hj, k_u_ne (by decide), k_u_ne (by decide), k_r_ne (by decide)]
              rw [e]; exact hS.1 26 0 j
        · rw [kAd_ne (by omega)]; exact hS.1 k 0 j
      · rw [kAd_ni hi]; exact hS.1 k i j
  · rw [e24] at j1
    rw [kNe_20]
    show (if j = κ 24 0 0 then κ 24 0 0 else κ 20 0 j) = j
    by_cases hj : j = κ 24 0 0
    · rw [if_pos hj, hj]
    · rw [if_neg hj]; exact hS.2.1 j j0 (by omega)
  · rw [e24] at e1
    by_cases hj : e = κ 24 0 0
    · rw [hj, kNe_n (by decide)]; rfl
    · rw [kNe_o hj (by decide)]; exact hS.2.2 e e0 (by omega)
def bN (B : Nat → Int → Nat) (a : Nat → Nat) (e1 : Nat) (n : Int) : Nat → Int → Nat := fun t i => if t = 8 then (if i = 0 then e1 else B 8 i) else if 20 ≤ t ∧ t ≤ 24 then (if i = n then a t else B t i) else B t i
theorem cL_Ne {κ : c_K} {g N : Int} (hn : 0 ≤ κ 24 0 0) (hN : 0 < N) (t : Nat) (i : Int) : cL (kNe κ g N) t i ↔ (cL κ t i ∨ (t = 8 ∧ i = 0) ∨ (20 ≤ t ∧ t ≤ 24 ∧ i = κ 24 0 0)) := by
  have e24 : kNe κ g N 24 0 0 = κ 24 0 0 + 1 := kNe_24
  have e26 : ∀ i, kNe κ g N 26 i 0 = if i = 0 then N else κ 26 i 0 := fun i => by
    by_cases hi : i = 0
    · subst hi; rw [kNe_26, if_pos rfl]
    · rw [kNe_r (by decide) hi, if_neg hi]
  unfold cL
  rw [e24, e26]
  by_cases hi : i = 0
  · rw [if_pos hi]; omega
  · rw [if_neg hi]; omega
/-- the heap when one more has come -/
theorem c_newE {D : Nat} {B : Nat → Int → Nat} {κ : c_K} {h h' H1 : z_H} {g : Int} {a : Nat → Nat} (hJ : cJ B κ) (hV : cV κ)
    (hfr : ∀ t, 20 ≤ t → t ≤ 24 → cH D B κ h (a t) = none) (hd : ∀ t u, 20 ≤ t → t ≤ 24 → 20 ≤ u → u ≤ 24 → a t = a u → t = u)
    (hc : ∀ t, 20 ≤ t → t ≤ 24 → ∀ B', B' 21 (κ 24 0 0) = a 21 → B' 22 (κ 24 0 0) = a 22 → B' 23 (κ 24 0 0) = a 23 → B' 24 (κ 24 0 0) = a 24 → ∀ κ' : c_K, (∀ k, 30 ≤ k → k ≤ 40 → κ' k (κ 24 0 0) = kEv (κ 24 0 0) g k) → H1 (a t) = some (cC D B' κ' t (κ 24 0 0)))
    (hO : ∀ x, (∀ t, 20 ≤ t → t ≤ 24 → x ≠ a t) → H1 x = cH D B κ h x)
    (hA : z_add H1 (B 7 0) (if 0 < κ 26 0 0 then B 8 0 else D) (κ 26 0 0).toNat (κ 25 0 0 + 1) (κ 24 0 0) (z_up (fun j => B 20 (κ 20 0 j)) (κ 24 0 0) (a 20)) h') (hl0 : ∀ j, 0 ≤ j → j < κ 24 0 0 → κ 20 0 j = j) : ∃ (e1 : Nat) (N1 : Int) (h2 : z_H), h' = cH D (bN B a e1 (κ 24 0 0)) (kNe κ g N1) h2 ∧ cJ (bN B a e1 (κ 24 0 0)) (kNe κ g N1) ∧ (κ 24 0 0 + 1 ≤ N1 ∧ 0 < N1 ∧ N1 ≤ 45) ∧ cF B κ h (bN B a e1 (κ 24 0 0)) (kNe κ g N1) h2 := by
  obtain ⟨e1, N1, h1, h2, h3, h4, h5⟩ := hA
  have hn := hV.1
  have hlv := cL_Ne (κ := κ) (g := g) hn.1 (show (0 : Int) < (N1 : Int) by omega)
  have h7 : cL κ 7 0 := by omega
  have hat : ∀ t i, cL κ t i → ∀ u, 20 ≤ u → u ≤ 24 → B t i ≠ a u := fun t i hl u u0 u1 q => by
    have := hfr u u0 u1
    rw [← q, cH_at hJ hl] at this
    cases this
  have hHa : ∀ u, 20 ≤ u → u ≤ 24 → H1 (a u) ≠ none := fun u u0 u1 q => by
    rw [hc u u0 u1 (fun t i => a t) rfl rfl rfl rfl (fun k i => kEv (κ 24 0 0) g k) (fun _ _ _ => rfl)] at q
    cases q
  -- what e1 is
  have he1 : (0 < κ 26 0 0 ∧ e1 = B 8 0) ∨ (H1 e1 = none) := by
    rcases h2 with ⟨q1, q2, q3⟩ | q
    · have : 0 < κ 26 0 0 := by omega
      rw [if_pos this] at q1
      exact Or.inl ⟨this, q1⟩
    · exact Or.inr q
  have hea : ∀ u, 20 ≤ u → u ≤ 24 → e1 ≠ a u := fun u u0 u1 q => by
    rcases he1 with ⟨q1, q2⟩ | q1
    · exact hat 8 0 (by omega) u u0 u1 (q2.symm.trans q)
    · rw [q] at q1; exact hHa u u0 u1 q1
  have hap : ∀ t i, cL κ t i → ¬ (t = 8 ∧ i = 0) → B t i ≠ e1 := fun t i hl hnt e => by
    rcases he1 with ⟨q1, q2⟩ | q
    · exact hnt (hJ t i 8 0 hl (by omega) (e.trans q2))
    · rw [← e, hO _ (hat t i hl), cH_at hJ hl] at q
      cases q
  have hBo : ∀ t i, ¬ (t = 8 ∧ i = 0) → ¬ (20 ≤ t ∧ t ≤ 24 ∧ i = κ 24 0 0) → bN B a e1 (κ 24 0 0) t i = B t i := fun t i c1 c2 => by
    unfold bN
    by_cases h8 : t = 8
    · rw [if_pos h8, if_neg (fun q => c1 ⟨h8, q⟩), h8]
    · rw [if_neg h8]
      by_cases h20 : 20 ≤ t ∧ t ≤ 24
      · rw [if_pos h20, if_neg (fun q => c2 ⟨h20.1, h20.2, q⟩)]
      · rw [if_neg h20]
  have hB8 : bN B a e1 (κ 24 0 0) 8 0 = e1 := rfl
  have hBa : ∀ t, 20 ≤ t → t ≤ 24 → bN B a e1 (κ 24 0 0) t (κ 24 0 0) = a t := fun t t0 t1 => by
    unfold bN
    rw [if_neg (by omega), if_pos ⟨t0, t1⟩, if_pos rfl]
  have hln : ∀ t i, 20 ≤ t → t ≤ 24 → i = κ 24 0 0 → ¬ cL κ t i := fun t i _ _ hi => by omega
  have hJ' : cJ (bN B a e1 (κ 24 0 0)) (kNe κ g N1) := by
    intro t i t' i' hl hl' e
    by_cases c1 : t = 8 ∧ i = 0
    · by_cases c2 : t' = 8 ∧ i' = 0
      · exact ⟨c1.1.trans c2.1.symm, c1.2.trans c2.2.symm⟩
      · rw [c1.1, c1.2, hB8] at e
        by_cases d2 : 20 ≤ t' ∧ t' ≤ 24 ∧ i' = κ 24 0 0
        · rw [d2.2.2, hBa t' d2.1 d2.2.1] at e
          exact absurd e (hea t' d2.1 d2.2.1)
        · rw [hBo t' i' c2 d2] at e
          have := (hlv t' i').mp hl'
          exact absurd e.symm (hap t' i' (by omega) c2)
    · by_cases d1 : 20 ≤ t ∧ t ≤ 24 ∧ i = κ 24 0 0
      · by_cases c2 : t' = 8 ∧ i' = 0
        · rw [c2.1, c2.2, hB8, d1.2.2, hBa t d1.1 d1.2.1] at e
          exact absurd e.symm (hea t d1.1 d1.2.1)
        · by_cases d2 : 20 ≤ t' ∧ t' ≤ 24 ∧ i' = κ 24 0 0
          · rw [d1.2.2, d2.2.2, hBa t d1.1 d1.2.1, hBa t' d2.1 d2.2.1] at e
            exact ⟨hd t t' d1.1 d1.2.1 d2.1 d2.2.1 e, d1.2.2.trans d2.2.2.symm⟩
          · rw [hBo t' i' c2 d2, d1.2.2, hBa t d1.1 d1.2.1] at e
            have := (hlv t' i').mp hl'
            exact absurd e.symm (hat t' i' (by omega) t d1.1 d1.2.1)
      · rw [hBo t i c1 d1] at e
        have hl1 : cL κ t i := by have := (hlv t i).mp hl; omega
        by_cases c2 : t' = 8 ∧ i' = 0
        · rw [c2.1, c2.2, hB8] at e
          exact absurd e (hap t i hl1 c1)
        · by_cases d2 : 20 ≤ t' ∧ t' ≤ 24 ∧ i' = κ 24 0 0
          · rw [d2.2.2, hBa t' d2.1 d2.2.1] at e
            exact absurd e (hat t i hl1 t' d2.1 d2.2.1)
          · rw [hBo t' i' c2 d2] at e
            have hl2 : cL κ t' i' := by have := (hlv t' i').mp hl'; omega
            exact hJ _ _ _ _ hl1 hl2 e
  refine ⟨e1, N1, fun x => if x = B 8 0 then cH D B κ h x else h x, ?_, hJ', by omega, ?_, fun t i ht hl => ?_⟩
  · rw [h1]
    refine cH_ext hJ' (fun t i hl => ?_) (fun x hx => ?_)
    · by_cases d1 : 20 ≤ t ∧ t ≤ 24 ∧ i = κ 24 0 0
      · rw [d1.2.2, hBa t d1.1 d1.2.1, z_set_ne (fun q => hat 7 0 h7 t d1.1 d1.2.1 q.symm), z_set_ne (fun q => hea t d1.1 d1.2.1 q.symm)]
        exact hc t d1.1 d1.2.1 _ (hBa 21 (by omega) (by omega)) (hBa 22 (by omega) (by omega)) (hBa 23 (by omega) (by omega)) (hBa 24 (by omega) (by omega)) _ (fun k k0 k1 => kNe_n ⟨k0, k1⟩)
      · by_cases c7 : t = 7 ∧ i = 0
        · rw [c7.1, c7.2, hBo 7 0 (by omega) (by omega), z_set_at]
          refine congrArg some ?_
          show _ = z_ob 9 [z_i (kNe κ g N1 25 0 0), .ref (if 0 < kNe κ g N1 26 0 0 then bN B a e1 (κ 24 0 0) 8 0 else D), z_i (kNe κ g N1 24 0 0)]
          rw [kNe_25, kNe_26, kNe_24, if_pos (by omega), hB8, ← kW_i]
        · by_cases c8 : t = 8 ∧ i = 0
          · rw [c8.1, c8.2, hB8, z_set_ne (hap 7 0 h7 (by omega)).symm, z_set_at]
            refine congrArg some ?_
            show _ = z_qa (kNe κ g N1 26 0 0).toNat (z_lf (fun j => bN B a e1 (κ 24 0 0) 20 (kNe κ g N1 20 0 j)) (kNe κ g N1 24 0 0))
            rw [kNe_26, kNe_24, kNe_20]
            refine (z_qa_congr fun j hj => ?_).trans rfl
            unfold z_lf
            by_cases hjr : 0 ≤ j ∧ j < κ 24 0 0 + 1
            · rw [if_pos hjr, if_pos hjr]
              refine congrArg some ?_
              show (if j = κ 24 0 0 then a 20 else B 20 (κ 20 0 j)) = bN B a e1 (κ 24 0 0) 20 (if j = κ 24 0 0 then κ 24 0 0 else κ 20 0 j)
              by_cases hje : j = κ 24 0 0
              · rw [if_pos hje, if_pos hje, hBa 20 (by omega) (by omega)]
              · rw [if_neg hje, if_neg hje, hl0 j hj (by omega), hBo 20 j (by omega) (by omega)]
            · rw [if_neg hjr, if_neg hjr]
          · have hl1 : cL κ t i := by have := (hlv t i).mp hl; omega
            have n1 : B t i ≠ B 7 0 := fun e => c7 (hJ _ _ _ _ hl1 h7 e)
            rw [hBo t i c8 d1, z_set_ne n1, z_set_ne (hap t i hl1 c8), hO _ (hat t i hl1), cH_at hJ hl1]
            refine congrArg some ?_
            have hk : ∀ k ∈ cR t, kNe κ g N1 k i = κ k i := fun k hk => by
              by_cases hk2 : k = 20 ∨ k = 24 ∨ k = 25 ∨ k = 26
              · have ht : t = 7 ∨ t = 8 := cR_78 hk (by omega)
                exact kNe_r (by omega) (by omega)
              · by_cases hk3 : 30 ≤ k ∧ k ≤ 40
                · have hi : i ≠ κ 24 0 0 := fun q => by
                    have ht : 20 ≤ t ∧ t ≤ 24 := by
                      have hz : ∀ t' : Nat, t' ≤ 24 → ∀ k ∈ cR t', 30 ≤ k → 20 ≤ t' := by decide
                      by_cases ht : t ≤ 24
                      · exact ⟨hz t ht k hk hk3.1, ht⟩
                      · omega
                    exact d1 ⟨ht.1, ht.2, q⟩
                  exact kNe_o hi (by omega)
                · exact congrFun (kNe_ne hk3 (by omega)) i
            rw [cC_congr hl1 hk]
            have hBB : ∀ t i, cL κ t i → ¬ (t = 8 ∧ i = 0) → bN B a e1 (κ 24 0 0) t i = B t i := fun t i hl hc => hBo t i hc (fun q => hln t i q.1 q.2.1 q.2.2 hl)
            -- the refs of a cell that was alive are of what was alive
            rcases hl1 with ⟨hl1, rfl⟩ | ⟨hl1, hl2, hl3⟩ | ⟨rfl, hl2, hl3⟩ | ⟨rfl, hl2, hl3, hl4⟩ | ⟨hl0', hl1, hl2, hl3⟩
            · rcases (show t = 0 ∨ t = 1 ∨ t = 2 ∨ t = 3 ∨ t = 9 ∨ t = 10 ∨ t = 11 ∨ t = 12 ∨ t = 13 by omega) with rfl | rfl | rfl | rfl | rfl | rfl | rfl | rfl | rfl
              · show z_ob 7 _ = z_ob 7 _
                have e20 : bN B a e1 (κ 24 0 0) 20 (-1) = B 20 (-1) := hBo 20 (-1) (by omega) (by omega)
                rw [e20]; rfl
              all_goals rfl
            · rcases hl1 with rfl | rfl | rfl <;> rfl
            · have hi : i ≠ 0 := fun q => c7 ⟨rfl, q⟩
              show z_ob 9 [z_i (κ 25 i 0), .ref (if 0 < κ 26 i 0 then B 8 i else D), z_i (κ 24 i 0)] = z_ob 9 [z_i (κ 25 i 0), .ref (if 0 < κ 26 i 0 then bN B a e1 (κ 24 0 0) 8 i else D), z_i (κ 24 i 0)]
              rw [hBo 8 i (by omega) (by omega)]
            · have hi : i ≠ 0 := fun q => c8 ⟨rfl, q⟩
              show z_qa (κ 26 i 0).toNat (z_lf (fun j => B 20 (κ 20 i j)) (κ 24 i 0)) = z_qa (κ 26 i 0).toNat (z_lf (fun j => bN B a e1 (κ 24 0 0) 20 (κ 20 i j)) (κ 24 i 0))
              refine z_qa_congr fun j hj => ?_
              unfold z_lf
              by_cases hjr : 0 ≤ j ∧ j < κ 24 i 0
              · have := hV.2.2.1 i j hl2 hl3 hjr.1 hjr.2
                rw [if_pos hjr, if_pos hjr]
                show some (B 20 (κ 20 i j)) = some (bN B a e1 (κ 24 0 0) 20 (κ 20 i j))
                rw [hBo 20 (κ 20 i j) (by omega) (by omega)]
              · rw [if_neg hjr, if_neg hjr]
            · rcases (show t = 20 ∨ t = 21 ∨ t = 22 ∨ t = 23 ∨ t = 24 by omega) with rfl | rfl | rfl | rfl | rfl
              · show z_ob 0 _ = z_ob 0 _
                rw [hBo 21 i (by omega) (by omega), hBo 22 i (by omega) (by omega), hBo 23 i (by omega) (by omega), hBo 24 i (by omega) (by omega)]
              all_goals rfl
    · have x7 : x ≠ B 7 0 := fun e => hx 7 0 ((hlv 7 0).mpr (Or.inl h7)) (by rw [hBo 7 0 (by omega) (by omega), e])
      have x8 : x ≠ e1 := fun e => hx 8 0 ((hlv 8 0).mpr (Or.inr (Or.inl ⟨rfl, rfl⟩))) (by rw [hB8, e])
      have xa : ∀ t, 20 ≤ t → t ≤ 24 → x ≠ a t := fun t t0 t1 e => hx t (κ 24 0 0) ((hlv t _).mpr (Or.inr (Or.inr ⟨t0, t1, rfl⟩))) (by rw [hBa t t0 t1, e])
      rw [z_set_ne x7, z_set_ne x8, hO x xa]
      show _ = ite _ _ _
      split
      · rfl
      · rename_i c
        refine cH_no fun t i hl e => ?_
        by_cases c8 : t = 8 ∧ i = 0
        · exact c (by rw [← e, c8.1, c8.2])
        · exact hx t i ((hlv t i).mpr (Or.inl hl)) (by rw [hBo t i c8 (fun q => hln t i q.1 q.2.1 q.2.2 hl), e])
  · intro x c hx hnl
    have hcx : cH D B κ h x = some c := (cH_no hnl).trans hx
    have xa : ∀ t, 20 ≤ t → t ≤ 24 → x ≠ a t := fun t t0 t1 e => by
      have := hfr t t0 t1
      rw [← e, hcx] at this
      cases this
    refine ⟨?_, fun t i hl => ?_⟩
    · show ite _ _ _ = _
      split
      · exact hcx
      · exact hx
    · by_cases c8 : t = 8 ∧ i = 0
      · rw [c8.1, c8.2, hB8]
        intro e
        rcases he1 with ⟨q1, q2⟩ | q
        · exact hnl 8 0 (by omega) (q2.symm.trans e)
        · rw [e, hO x xa, hcx] at q
          cases q
      · by_cases d1 : 20 ≤ t ∧ t ≤ 24 ∧ i = κ 24 0 0
        · rw [d1.2.2, hBa t d1.1 d1.2.1]; exact fun e => xa t d1.1 d1.2.1 e.symm
        · rw [hBo t i c8 d1]
          exact hnl t i (by have := (hlv t i).mp hl; omega)
  · refine ⟨(hlv t i).mpr (Or.inl hl), hBo t i (by omega) (fun q => hln t i q.1 q.2.1 q.2.2 hl)⟩

theorem kSp_ni {κ : c_K} {e N : Int} {k : Nat} {i : Int} (h : k ≠ 37) (hi : i ≠ 1) : kSp κ e N k i = κ k i := by
  unfold kSp kNa
  rw [kNp_ne h, kAd_ni hi]
theorem kSp_ne {κ : c_K} {e N : Int} {k : Nat} (h : k ≠ 20 ∧ k ≠ 24 ∧ k ≠ 25 ∧ k ≠ 26 ∧ k ≠ 37) : kSp κ e N k = κ k := by
  unfold kSp kNa
  rw [kNp_ne h.2.2.2.2, kAd_ne ⟨h.1, h.2.1, h.2.2.1, h.2.2.2.1⟩]
theorem kSp_2 {κ : c_K} {e N : Int} : kSp κ e N 24 2 0 = κ 24 2 0 := by rw [kSp_ni (by decide) (by decide)]
theorem q_come {G : z_G} {D : Nat} {B : Nat → Int → Nat} {κ : c_K} {h : z_H} (hG : z_OK G) (hD : D = z_dc G) (hM : z_MI G) (hJ : cJ B κ) (hB : cB κ) (hV : cV κ) (hS : cS κ) {g : Int} (hrg : -2147483648 ≤ g ∧ g ≤ 2147483647) : z_T G mX7_come [.ref (B 0 0), z_i g] (cH D B κ h) 9 60 600 (fun v' h' => ((0 ≤ g ∧ g ≤ 4) ∧ κ 24 0 0 < 30) ∧ v' = some (z_i (κ 24 0 0)) ∧ ∃ (κ' : c_K) (B' : Nat → Int → Nat) (h2 : z_H), h' = cH D B' κ' h2 ∧ cI B κ h B' κ' h2 ∧ ∃ N N1 N2, κ' = kPp (kSp (kJd (kNe κ g N) (κ 17 0 0) (κ 24 0 0)) (κ 24 0 0) N1) (κ 24 0 0) N2) (fun E h' => h' = cH D B κ h ∧ ((E = "java/lang/IllegalArgumentException" ∧ ¬ (0 ≤ g ∧ g ≤ 4)) ∨ (E = "java/lang/IllegalStateException" ∧ (0 ≤ g ∧ g ≤ 4) ∧ ¬ κ 24 0 0 < 30))) := by
  obtain ⟨hn, hsz, hrw, hcu, htl, hth⟩ := id hV
  have hs0 := hsz 0 (by omega) (by omega)
  have hs1 := hsz 1 (by omega) (by omega)
  have hs2 := hsz 2 (by omega) (by omega)
  have hs3 := hsz 3 (by omega) (by omega)
  refine z_T_of hG pX7_come (Nat.le_of_ble_eq_true rfl) (ls0 := [(0, .ref (B 0 0)), (1, z_i g)]) rfl fun Y hY hg hmc hms hφ hψ => ?_
  subst hg
  have hI0 := cI_r (h := h) hJ hV hS
  refine z_aload hY eX7_come_0 0 rfl ?_
  refine z_iload hY eX7_come_1 1 rfl ?_
  refine z_callV (As := [z_i g]) (rest := []) hY eX7_come_2 (c_checkGroup hG hJ hB hV hS (by omega)) (cH_at (B := B) (t := 0) (i := 0) hI0.1 (by omega)) (by decide) (Nat.le_of_ble_eq_true rfl) (by rw [hmc, hms]; omega) (fun E' h1 q => by obtain ⟨rfl, q⟩ := q; rw [hψ]; refine ⟨rfl, ?_⟩; obtain ⟨rfl, q⟩ := q <;> (first | exact ⟨rfl, by omega⟩ | exact Or.inl ⟨rfl, by omega⟩ | exact Or.inr ⟨rfl, by omega⟩ | exact Or.inr (Or.inl ⟨rfl, by omega⟩) | exact Or.inr (Or.inr ⟨rfl, by omega⟩))) (fun vv1 hh1 q1 => ?_)
  obtain ⟨hq1, rfl, rfl⟩ := q1
  refine z_aload hY eX7_come_5 0 rfl ?_
  refine c_gf hY hI0.1 eX7_come_6 (t := 0) (i := 0) (v := .ref (B 7 0)) (by omega) rfl rfl ?_
  refine z_callVr (As := []) (rest := []) (r := z_i (κ 24 0 0)) hY eX7_come_9 (c_size (B := B) (κ := κ) hG hI0.1 hI0.2.1.2.b hI0.2.1.1 (by omega)) (cH_at (B := B) (t := 7) (i := 0) hI0.1 (by omega)) (by decide) (Nat.le_of_ble_eq_true rfl) (by rw [hmc, hms]; omega) ?_
  refine z_istore hY eX7_come_12 (ls' := [(2, z_i (κ 24 0 0)), (0, .ref (B 0 0)), (1, z_i g)]) rfl ?_
  refine z_iload hY eX7_come_13 0 rfl ?_
  refine z_const hY eX7_come_14 ?_
  refine z_icmplt hY eX7_come_16 (by omega) (fun c16 => ?_) (fun c16 => ?_)
  · have hgg : 0 ≤ g ∧ g ≤ 4 := by omega
    refine z_new hY eX7_come_29 (by rw [hmc, hms]; omega) (fun a0 hn0 => ?_)
    refine z_dup hY eX7_come_32 rfl ?_
    refine z_iload hY eX7_come_33 0 rfl ?_
    refine z_iload hY eX7_come_34 2 rfl ?_
    refine z_callI (As := [z_i (κ 24 0 0), z_i g]) (b := a0) (rest := [.ref a0]) hY eX7_come_35 (k_entrant hG z_set_at) (by decide) (Nat.le_of_ble_eq_true rfl) (by rw [hmc, hms]; omega) (fun _ _ q => q.elim) (fun vv hh q => ?_)
    obtain ⟨rfl, a1, a2, a3, a4, hf1, hf2, hf3, hf4, d21, d31, d32, d41, d42, d43, hh1⟩ := q
    obtain ⟨d10, hc1⟩ := z_set_new hf1
    obtain ⟨d20, hc2⟩ := z_set_new hf2
    obtain ⟨d30, hc3⟩ := z_set_new hf3
    obtain ⟨d40, hc4⟩ := z_set_new hf4
    obtain ⟨H1, hH1⟩ : ∃ H1 : z_H, H1 = hh := ⟨_, rfl⟩
    rw [hh1] at hH1
    refine z_heq (hh1.trans hH1.symm) ?_
    refine z_astore hY eX7_come_38 (ls' := [(3, .ref a0), (2, z_i (κ 24 0 0)), (0, .ref (B 0 0)), (1, z_i g)]) rfl ?_
    have hO : ∀ y, y ≠ a0 → y ≠ a1 → y ≠ a2 → y ≠ a3 → y ≠ a4 → H1 y = cH D B κ h y := fun y y0 y1 y2 y3 y4 => by rw [hH1, z_set_ne y0, z_set_ne y4, z_set_ne y3, z_set_ne y2, z_set_ne y1, z_set_ne y0]
    have hlv : ∀ t i, cL κ t i → H1 (B t i) = some (cC D B κ t i) := fun t i hl => by
      have h9 := cH_at (D := D) (h := h) hJ hl
      rw [hO _ (z_onn h9 hn0) (z_onn h9 hc1) (z_onn h9 hc2) (z_onn h9 hc3) (z_onn h9 hc4)]; exact h9
    have hA0 : H1 a0 = some (z_ob 0 [z_i (κ 24 0 0), z_i g, z_i 1, .ref a1, .ref a2, z_i (-1), z_i 0, .ref a3, .ref a4, z_i (-1), z_i (-1)]) := by rw [hH1]; exact z_set_at
    have hA4 : H1 a4 = some (z_ia 20 (fun j => if 0 ≤ j ∧ j < ((20 : Nat) : Int) then (-1) else (fun _ => 0) j)) := by rw [hH1, z_set_ne d40]; exact z_set_at
    have hA3 : H1 a3 = some (z_ia 10 (fun _ => 0)) := by rw [hH1, z_set_ne d30, z_set_ne d43.symm]; exact z_set_at
    have hA2 : H1 a2 = some (z_ia 4 (fun _ => 0)) := by rw [hH1, z_set_ne d20, z_set_ne d42.symm, z_set_ne d32.symm]; exact z_set_at
    have hA1 : H1 a1 = some (z_ia 4 (fun _ => 0)) := by rw [hH1, z_set_ne d10, z_set_ne d41.symm, z_set_ne d31.symm, z_set_ne d21.symm]; exact z_set_at
    refine z_aload hY eX7_come_39 2 rfl ?_
    refine z_getfield hY eX7_come_40 (hlv 0 0 (by omega)) (v := .ref (B 7 0)) rfl ?_
    refine z_aload hY eX7_come_43 0 rfl ?_
    obtain ⟨mi, hMi⟩ := id hM
    refine z_callV (As := [.ref a0]) (rest := []) hY eX7_come_44 (al_add hG hMi (N := (κ 26 0 0).toNat) (l := fun j => B 20 (κ 20 0 j)) (mo := κ 25 0 0) (s := κ 24 0 0) (by omega) (hlv 7 0 (by omega)) ?_ (fun j j0 j1 => ⟨_, hlv 20 (κ 20 0 j) (by have := hrw 0 j (by omega) (by omega) j0 j1; omega)⟩) hA0) (hlv 7 0 (by omega)) (by decide) (Nat.le_of_ble_eq_true rfl) (by rw [hmc, hms]; omega) (fun _ _ q => q.elim) (fun vv9 hh9 q9 => ?_)
    · by_cases h26 : 0 < κ 26 0 0
      · exact Or.inr ⟨by omega, by rw [if_pos h26]; exact hlv 8 0 (by omega)⟩
      · exact Or.inl ⟨by omega, by rw [if_neg h26]; exact hD, by omega⟩
    obtain ⟨rfl, q9⟩ := q9
    obtain ⟨a, ha⟩ : ∃ a : Nat → Nat, a = fun t => if t = 20 then a0 else if t = 21 then a1 else if t = 22 then a2 else if t = 23 then a3 else a4 := ⟨_, rfl⟩
    have ha20 : a 20 = a0 := by rw [ha]; rfl
    have ha21 : a 21 = a1 := by rw [ha]; rfl
    have ha22 : a 22 = a2 := by rw [ha]; rfl
    have ha23 : a 23 = a3 := by rw [ha]; rfl
    have ha24 : a 24 = a4 := by rw [ha]; rfl
    have h5 : ∀ t, 20 ≤ t → t ≤ 24 → t = 20 ∨ t = 21 ∨ t = 22 ∨ t = 23 ∨ t = 24 := fun t _ _ => by omega
    have hfr : ∀ t, 20 ≤ t → t ≤ 24 → cH D B κ h (a t) = none := by
      intro t t0 t1
      rcases h5 t t0 t1 with rfl | rfl | rfl | rfl | rfl
      · rw [ha20]; exact hn0
      · rw [ha21]; exact hc1
      · rw [ha22]; exact hc2
      · rw [ha23]; exact hc3
      · rw [ha24]; exact hc4
    have hdd : ∀ t u, 20 ≤ t → t ≤ 24 → 20 ≤ u → u ≤ 24 → a t = a u → t = u := by
      intro t u t0 t1 u0 u1 hq
      rcases h5 t t0 t1 with rfl | rfl | rfl | rfl | rfl <;> rcases h5 u u0 u1 with rfl | rfl | rfl | rfl | rfl <;> first | rfl | (simp only [ha20, ha21, ha22, ha23, ha24] at hq; first | exact absurd hq d10 | exact absurd hq d20 | exact absurd hq d30 | exact absurd hq d40 | exact absurd hq d21 | exact absurd hq d31 | exact absurd hq d32 | exact absurd hq d41 | exact absurd hq d42 | exact absurd hq d43 | exact absurd hq.symm d10 | exact absurd hq.symm d20 | exact absurd hq.symm d30 | exact absurd hq.symm d40 | exact absurd hq.symm d21 | exact absurd hq.symm d31 | exact absurd hq.symm d32 | exact absurd hq.symm d41 | exact absurd hq.symm d42 | exact absurd hq.symm d43)
    have hcc : ∀ t, 20 ≤ t → t ≤ 24 → ∀ B2 : Nat → Int → Nat, B2 21 (κ 24 0 0) = a 21 → B2 22 (κ 24 0 0) = a 22 → B2 23 (κ 24 0 0) = a 23 → B2 24 (κ 24 0 0) = a 24 → ∀ κ2 : c_K, (∀ k, 30 ≤ k → k ≤ 40 → κ2 k (κ 24 0 0) = kEv (κ 24 0 0) g k) → H1 (a t) = some (cC D B2 κ2 t (κ 24 0 0)) := by
      intro t t0 t1 B2 b1 b2 b3 b4 κ2 hk2
      rcases h5 t t0 t1 with rfl | rfl | rfl | rfl | rfl
      · rw [ha20, hA0, ← ha21, ← ha22, ← ha23, ← ha24, ← b1, ← b2, ← b3, ← b4]
        show _ = some (z_ob 0 [z_i (κ2 34 (κ 24 0 0) 0), z_i (κ2 35 (κ 24 0 0) 0), z_i (κ2 36 (κ 24 0 0) 0), .ref (B2 21 (κ 24 0 0)), .ref (B2 22 (κ 24 0 0)), z_i (κ2 37 (κ 24 0 0) 0), z_i (κ2 38 (κ 24 0 0) 0), .ref (B2 23 (κ 24 0 0)), .ref (B2 24 (κ 24 0 0)), z_i (κ2 39 (κ 24 0 0) 0), z_i (κ2 40 (κ 24 0 0) 0)])
        rw [hk2 34 (by decide) (by decide), hk2 35 (by decide) (by decide), hk2 36 (by decide) (by decide), hk2 37 (by decide) (by decide), hk2 38 (by decide) (by decide), hk2 39 (by decide) (by decide), hk2 40 (by decide) (by decide)]; rfl
      · rw [ha21, hA1]; show _ = some (z_ia 4 (κ2 30 (κ 24 0 0))); rw [hk2 30 (by decide) (by decide)]; rfl
      · rw [ha22, hA2]; show _ = some (z_ia 4 (κ2 31 (κ 24 0 0))); rw [hk2 31 (by decide) (by decide)]; rfl
      · rw [ha23, hA3]; show _ = some (z_ia 10 (κ2 32 (κ 24 0 0))); rw [hk2 32 (by decide) (by decide)]; rfl
      · rw [ha24, hA4]; show _ = some (z_ia 20 (κ2 33 (κ 24 0 0))); rw [hk2 33 (by decide) (by decide)]; rfl
    obtain ⟨e1, N1, h2, hE, hJ2, hN1, hF2⟩ := c_newE (g := g) (a := a) (D := D) (h := h) (h' := hh9) (H1 := H1) hJ hV hfr hdd hcc (fun y hy => hO y (by rw [← ha20]; exact hy 20 (by omega) (by omega)) (by rw [← ha21]; exact hy 21 (by omega) (by omega)) (by rw [← ha22]; exact hy 22 (by omega) (by omega)) (by rw [← ha23]; exact hy 23 (by omega) (by omega)) (by rw [← ha24]; exact hy 24 (by omega) (by omega))) (by rw [ha20]; exact q9) hS.l0
    subst hE
    have hIn : cI B κ h (bN B a e1 (κ 24 0 0)) (kNe κ g N1) h2 := ⟨hJ2, S_Ne hV hS (by omega) hgg hN1, hF2⟩
    refine z_pop hY eX7_come_47 rfl ?_
    refine z_lq (ls' := [(3, .ref (bN B a e1 (κ 24 0 0) 20 (κ 24 0 0))), (2, z_i (κ 24 0 0)), (0, .ref (B 0 0)), (1, z_i g)]) (by rw [show bN B a e1 (κ 24 0 0) 20 (κ 24 0 0) = a0 from by unfold bN; rw [if_neg (by decide), if_pos (by decide), if_pos rfl, ha20]]) ?_
    refine z_widen (k' := 40) (n' := 400) (by omega) (by omega) ?_
    obtain ⟨κ3, hk3⟩ : ∃ qq, qq = kNe κ g N1 := ⟨_, rfl⟩
    refine z_heq (congrArg (fun q => cH D (bN B a e1 (κ 24 0 0)) q h2) hk3.symm) ?_
    have hI3 : cI B κ h (bN B a e1 (κ 24 0 0)) κ3 h2 := hk3 ▸ hIn
    have hn4 : κ3 24 0 0 = κ 24 0 0 + 1 := by rw [hk3]; exact kNe_24
    have hn5 : κ3 24 1 0 = κ 24 1 0 := by rw [hk3]; rw [kNe_r (by decide) (by decide)]
    have hn6 : κ3 24 2 0 = κ 24 2 0 := by rw [hk3]; rw [kNe_r (by decide) (by decide)]
    have hn7 : κ3 24 3 0 = κ 24 3 0 := by rw [hk3]; rw [kNe_r (by decide) (by decide)]
    have hn8 : κ3 17 0 0 = κ 17 0 0 := by rw [hk3]; rw [kNe_ne (by decide) (by decide)]
    refine z_aload hY eX7_come_48 2 rfl ?_
    have hb9 := hI3.2.1.2.s17 0 0
    refine c_gf hY hI3.1 eX7_come_49 (t := 0) (i := 0) (v := .ref (B 4 (κ3 17 0 0))) ((hI3.2.2.2 _ _ (by decide) (by omega)).1) rfl rfl ?_
    refine z_aload hY eX7_come_52 0 rfl ?_
    refine z_callV (As := [.ref (bN B a e1 (κ 24 0 0) 20 (κ 24 0 0))]) (rest := []) hY eX7_come_53 (t_judge (B := (bN B a e1 (κ 24 0 0))) (κ := κ3) hG hI3.1 hI3.2.1.1 hI3.2.1.2 (by omega) (show -1 ≤ (κ 24 0 0) ∧ (κ 24 0 0) < _ by omega)) (cH_at (B := (bN B a e1 (κ 24 0 0))) (t := 4) (i := (κ3 17 0 0)) hI3.1 ((hI3.2.2.2 _ _ (by decide) (by omega)).1)) (by decide) (Nat.le_of_ble_eq_true rfl) (by rw [hmc, hms]; omega) (fun _ _ q => q.elim) (fun vv10 hh10 q10 => ?_)
    obtain ⟨rfl, rfl⟩ := q10
    obtain ⟨κ11, hk11⟩ : ∃ qq, qq = kJd κ3 (κ3 17 0 0) (κ 24 0 0) := ⟨_, rfl⟩
    refine z_heq (congrArg (fun q => cH D (bN B a e1 (κ 24 0 0)) q h2) hk11.symm) ?_
    have hI11 : cI B κ h (bN B a e1 (κ 24 0 0)) κ11 h2 := hk11 ▸ cI_t hI3 (L_Jd _ _) (S_Jd hI3.2.1.1 hI3.2.1.2 _ _)
    have hn12 : κ11 24 0 0 = κ3 24 0 0 := by rw [hk11]; rw [kJd_ne (by decide)]
    have hn13 : κ11 24 1 0 = κ3 24 1 0 := by rw [hk11]; rw [kJd_ne (by decide)]
    have hn14 : κ11 24 2 0 = κ3 24 2 0 := by rw [hk11]; rw [kJd_ne (by decide)]
    have hn15 : κ11 24 3 0 = κ3 24 3 0 := by rw [hk11]; rw [kJd_ne (by decide)]
    refine z_aload hY eX7_come_56 2 rfl ?_
    refine c_gf hY hI11.1 eX7_come_57 (t := 0) (i := 0) (v := .ref (B 9 0)) ((hI11.2.2.2 _ _ (by decide) (by omega)).1) rfl rfl ?_
    refine z_aload hY eX7_come_60 0 rfl ?_
    refine z_callV (As := [.ref (bN B a e1 (κ 24 0 0) 20 (κ 24 0 0))]) (rest := []) hY eX7_come_61 (m_sput (B1 := (bN B a e1 (κ 24 0 0))) (κ1 := κ11) (h1 := h2) hG hD hM hI11 (e := (κ 24 0 0)) (by omega) (by omega)) (cH_at (B := (bN B a e1 (κ 24 0 0))) (t := 9) (i := 0) hI11.1 ((hI11.2.2.2 _ _ (by decide) (by omega)).1)) (by decide) (Nat.le_of_ble_eq_true rfl) (by rw [hmc, hms]; omega) (fun _ _ q => q.elim) (fun vv16 hh16 q16 => ?_)
    obtain ⟨rfl, N16, a16, g16, rfl, hN16, hI16⟩ := q16
    obtain ⟨κ17, hk17⟩ : ∃ qq, qq = kSp κ11 (κ 24 0 0) N16 := ⟨_, rfl⟩
    refine z_heq (congrArg (fun q => cH D (bU (bN B a e1 (κ 24 0 0)) 1 a16) q g16) hk17.symm) ?_
    have hI17 : cI B κ h (bU (bN B a e1 (κ 24 0 0)) 1 a16) κ17 g16 := hk17 ▸ hI16
    have hn18 : κ17 24 0 0 = κ11 24 0 0 := by rw [hk17]; exact kSp_n
    have hn19 : κ17 24 2 0 = κ11 24 2 0 := by rw [hk17]; exact kSp_2
    refine z_aload hY eX7_come_64 2 rfl ?_
    refine c_gf hY hI17.1 eX7_come_65 (t := 0) (i := 0) (v := .ref (B 10 0)) ((hI17.2.2.2 _ _ (by decide) (by omega)).1) rfl rfl ?_
    refine z_aload hY eX7_come_68 0 rfl ?_
    refine z_callV (As := [.ref (bN B a e1 (κ 24 0 0) 20 (κ 24 0 0))]) (rest := []) hY eX7_come_69 (m_pput (B1 := (bU (bN B a e1 (κ 24 0 0)) 1 a16)) (κ1 := κ17) (h1 := g16) hG hD hM hI17 (e := (κ 24 0 0)) (by omega) (by omega)) (cH_at (B := (bU (bN B a e1 (κ 24 0 0)) 1 a16)) (t := 10) (i := 0) hI17.1 ((hI17.2.2.2 _ _ (by decide) (by omega)).1)) (by decide) (Nat.le_of_ble_eq_true rfl) (by rw [hmc, hms]; omega) (fun _ _ q => q.elim) (fun vv20 hh20 q20 => ?_)
    obtain ⟨rfl, N20, a20, g20, rfl, hN20, hI20⟩ := q20
    obtain ⟨κ21, hk21⟩ : ∃ qq, qq = kPp κ17 (κ 24 0 0) N20 := ⟨_, rfl⟩
    refine z_heq (congrArg (fun q => cH D (bU (bU (bN B a e1 (κ 24 0 0)) 1 a16) 2 a20) q g20) hk21.symm) ?_
    have hI21 : cI B κ h (bU (bU (bN B a e1 (κ 24 0 0)) 1 a16) 2 a20) κ21 g20 := hk21 ▸ hI20
    have hn22 : κ21 24 0 0 = κ17 24 0 0 := by rw [hk21]; exact kPp_n
    refine z_iload hY eX7_come_72 1 rfl ?_
    exact z_ireturn hY eX7_come_73 rfl (by rw [hφ]; subst_vars; exact ⟨by omega, rfl, _, _, _, rfl, hI21, N1, N16, N20, by rw [kNe_ne (k := 17) (by decide) (by decide)]⟩) (by rw [hmc, hms]; omega)
  · exact z_thr hY xX7_come_19 (by rw [hmc, hms]; omega) (by rw [hψ]; refine ⟨rfl, ?_⟩; first | exact ⟨rfl, by omega⟩ | exact Or.inl ⟨rfl, by omega⟩ | exact Or.inr ⟨rfl, by omega⟩ | exact Or.inr (Or.inl ⟨rfl, by omega⟩) | exact Or.inr (Or.inr ⟨rfl, by omega⟩))
end D8
