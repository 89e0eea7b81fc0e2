/-! The class's lists when they change (laid by wip/whole/gen/gm29.py). -/
section C7
def kW (x : Int) : Int := (Int32.ofInt (x + 1)).toInt
theorem kW_i (x : Int) : z_i (x + 1) = z_i (kW x) := z_wrap _
theorem kW_b (x : Int) : -2147483648 ≤ kW x ∧ kW x ≤ 2147483647 := z_rg _
def bU (B : Nat → Int → Nat) (r : Int) (e : Nat) : Nat → Int → Nat := fun t i => if t = 8 then (if i = r then e else B 8 i) else B t i
theorem bU_ne {B : Nat → Int → Nat} {r : Int} {e t : Nat} {i : Int} (h : ¬ (t = 8 ∧ i = r)) : bU B r e t i = B t i := by
  unfold bU
  by_cases ht : t = 8
  · rw [if_pos ht, if_neg (fun q => h ⟨ht, q⟩), ht]
  · rw [if_neg ht]
theorem bU_eq {B : Nat → Int → Nat} {r : Int} {e : Nat} : bU B r e 8 r = e := by
  unfold bU
  rw [if_pos rfl, if_pos rfl]
/-- a row that has got one more: its content, its size, its count of changes, its room -/
def kAd (κ : c_K) (r : Int) (f : Int → Int) (mo N : Int) : c_K := k_u (k_u (k_u (k_r κ 20 r f) 24 r 0 (κ 24 r 0 + 1)) 25 r 0 mo) 26 r 0 N
theorem kAd_ne {κ : c_K} {r mo N : Int} {f : Int → Int} {k : Nat} (h : k ≠ 20 ∧ k ≠ 24 ∧ k ≠ 25 ∧ k ≠ 26) : kAd κ r f mo N k = κ k := by
  unfold kAd
  rw [k_u_ne h.2.2.2, k_u_ne h.2.2.1, k_u_ne h.2.1, k_r_ne h.1]
theorem kAd_ni {κ : c_K} {r mo N i : Int} {f : Int → Int} {k : Nat} (h : i ≠ r) : kAd κ r f mo N k i = κ k i := by
  by_cases hk : k ≠ 20 ∧ k ≠ 24 ∧ k ≠ 25 ∧ k ≠ 26
  · rw [kAd_ne hk]
  · unfold kAd
    funext j
    unfold k_u k_r
    (repeat' split) <;> first | rfl | (exfalso; omega)
theorem kAd_24 {κ : c_K} {r mo N : Int} {f : Int → Int} : kAd κ r f mo N 24 r 0 = κ 24 r 0 + 1 := by
  unfold kAd
  rw [k_u_ne (by decide), k_u_ne (by decide)]
  exact k_u_at
theorem kAd_25 {κ : c_K} {r mo N : Int} {f : Int → Int} : kAd κ r f mo N 25 r 0 = mo := by
  unfold kAd
  rw [k_u_ne (by decide)]
  exact k_u_at
theorem kAd_26 {κ : c_K} {r mo N : Int} {f : Int → Int} : kAd κ r f mo N 26 r 0 = N := k_u_at
theorem kAd_20 {κ : c_K} {r mo N : Int} {f : Int → Int} : kAd κ r f mo N 20 r = f := by
  unfold kAd
  rw [k_u_ne (by decide), k_u_ne (by decide), k_u_ne (by decide)]
  exact k_r_eq
theorem cL_Ad {κ : c_K} {r mo N : Int} {f : Int → Int} (hr : 1 ≤ r ∧ r ≤ 3) (hN : 0 < N) (t : Nat) (i : Int) : cL (kAd κ r f mo N) t i ↔ (cL κ t i ∨ (t = 8 ∧ i = r)) := by
  have e24 : kAd κ r f mo N 24 0 0 = κ 24 0 0 := by rw [kAd_ni (by omega)]
  by_cases hi : i = r
  · subst hi
    have e26 : kAd κ i f mo N 26 i 0 = N := kAd_26
    unfold cL
    rw [e24, e26]
    omega
  · have e26 : kAd κ r f mo N 26 i 0 = κ 26 i 0 := by rw [kAd_ni hi]
    unfold cL
    rw [e24, e26]
    omega
theorem cR_78 {t k : Nat} (h : k ∈ cR t) (hk : k = 20 ∨ k = 24 ∨ k = 25 ∨ k = 26) : t = 7 ∨ t = 8 := by
  have h1 : ∀ t, t < 25 → ∀ k ∈ cR t, (k = 20 ∨ k = 24 ∨ k = 25 ∨ k = 26) → t = 7 ∨ t = 8 := by decide
  by_cases ht : t < 25
  · exact h1 t ht k h hk
  · exfalso
    obtain ⟨q, rfl⟩ : ∃ q, t = q + 25 := ⟨t - 25, by omega⟩
    exact absurd h (by show k ∉ ([] : List Nat); exact List.not_mem_nil)
theorem cC_bU {D : Nat} {B : Nat → Int → Nat} {κ : c_K} {r i : Int} {e t : Nat} (h : ¬ (t = 7 ∧ i = r)) : cC D (bU B r e) κ t i = cC D B κ t i := by
  by_cases ht : t = 7
  · subst ht
    show z_ob 9 [_, .ref (if _ then bU B r e 8 i else D), _] = z_ob 9 [_, .ref (if _ then B 8 i else D), _]
    rw [bU_ne (fun q => h ⟨rfl, q.2⟩)]
  · unfold cC
    split <;> first | rfl | (exact absurd rfl ht)
/-- what a change of the class's heap keeps: addresses other than the rows', and what is not the class's -/
def cFr (D : Nat) (B : Nat → Int → Nat) (κ : c_K) (h : z_H) (B' : Nat → Int → Nat) (κ' : c_K) (h' : z_H) : Prop := (∀ x, (∀ t i, cL κ t i → B t i ≠ x) → h' x = h x) ∧ (∀ t i, t ≠ 8 → cL κ t i → B' t i = B t i) ∧ (∀ t i, cL κ' t i → (cL κ t i ∧ B' t i = B t i) ∨ cH D B κ h (B' t i) = none)
theorem cFr_refl {D : Nat} {B : Nat → Int → Nat} {κ κ' : c_K} {h : z_H} (hLL : ∀ t i, cL κ' t i ↔ cL κ t i) : cFr D B κ h B κ' h := ⟨fun _ _ => rfl, fun _ _ _ _ => rfl, fun t i hl => Or.inl ⟨(hLL t i).mp hl, rfl⟩⟩
theorem c_addE {D : Nat} {B : Nat → Int → Nat} {κ : c_K} {h h' : z_H} {r mo : Int} {f : Int → Int} (hr : 1 ≤ r ∧ r ≤ 3) (hJ : cJ B κ) (hA : z_add (cH D B κ h) (B 7 r) (if 0 < κ 26 r 0 then B 8 r else D) (κ 26 r 0).toNat mo (κ 24 r 0) (fun j => B 20 (f j)) h') : ∃ (e1 : Nat) (N1 : Int) (h2 : z_H), h' = cH D (bU B r e1) (kAd κ r f (Int32.ofInt mo).toInt N1) h2 ∧ cJ (bU B r e1) (kAd κ r f (Int32.ofInt mo).toInt N1) ∧ (κ 24 r 0 + 1 ≤ N1 ∧ 0 < N1 ∧ N1 ≤ 45) ∧ cFr D B κ h (bU B r e1) (kAd κ r f (Int32.ofInt mo).toInt N1) h2 := by
  obtain ⟨e1, N1, h1, h2, h3, h4, h5⟩ := hA
  have h7 : cL κ 7 r := by omega
  have hlv := fun t i => cL_Ad (κ := κ) (mo := (Int32.ofInt mo).toInt) (f := f) hr (show (0 : Int) < (N1 : Int) by omega) t i
  -- what e1 is
  have he1 : (0 < κ 26 r 0 ∧ e1 = B 8 r) ∨ cH D B κ h e1 = none := by
    rcases h2 with ⟨q1, q2, q3⟩ | q
    · have : 0 < κ 26 r 0 := by omega
      rw [if_pos this] at q1
      exact Or.inl ⟨this, q1⟩
    · exact Or.inr q
  have hap : ∀ t i, cL κ t i → ¬ (t = 8 ∧ i = r) → B t i ≠ e1 := by
    intro t i hl hn e
    rcases he1 with ⟨q1, q2⟩ | q
    · exact hn (hJ t i 8 r hl (by omega) (e.trans q2))
    · rw [← e, cH_at hJ hl] at q
      cases q
  have hJ' : cJ (bU B r e1) (kAd κ r f (Int32.ofInt mo).toInt N1) := by
    intro t i t' i' hl hl' e
    by_cases c1 : t = 8 ∧ i = r
    · by_cases c2 : t' = 8 ∧ i' = r
      · exact ⟨c1.1.trans c2.1.symm, c1.2.trans c2.2.symm⟩
      · have hl2 : cL κ t' i' := ((hlv t' i').mp hl').resolve_right c2
        rw [c1.1, c1.2, bU_eq, bU_ne c2] at e
        exact absurd e.symm (hap t' i' hl2 c2)
    · have hl1 : cL κ t i := ((hlv t i).mp hl).resolve_right c1
      by_cases c2 : t' = 8 ∧ i' = r
      · rw [c2.1, c2.2, bU_eq, bU_ne c1] at e
        exact absurd e (hap t i hl1 c1)
      · have hl2 : cL κ t' i' := ((hlv t' i').mp hl').resolve_right c2
        rw [bU_ne c1, bU_ne c2] at e
        exact hJ _ _ _ _ hl1 hl2 e
  have hH2 : ∀ x, (∀ t i, cL κ t i → B t i ≠ x) → (fun x => if x = B 8 r then cH D B κ h x else h x) x = h x := by
    intro x hx
    show ite _ _ _ = _
    split
    · exact cH_no hx
    · rfl
  refine ⟨e1, N1, fun x => if x = B 8 r then cH D B κ h x else h x, ?_, hJ', by omega, hH2, fun t i ht hl => bU_ne (by omega), fun t i hl => ?_⟩
  · rw [h1]
    refine cH_ext hJ' (fun t i hl => ?_) (fun a ha => ?_)
    · by_cases c7 : t = 7 ∧ i = r
      · rw [c7.1, c7.2, bU_ne (by omega), z_set_at]
        refine congrArg some ?_
        show _ = z_ob 9 [z_i (kAd κ r f (Int32.ofInt mo).toInt N1 25 r 0), .ref (if 0 < kAd κ r f (Int32.ofInt mo).toInt N1 26 r 0 then bU B r e1 8 r else D), z_i (kAd κ r f (Int32.ofInt mo).toInt N1 24 r 0)]
        rw [kAd_25, kAd_26, kAd_24, if_pos (by omega), bU_eq, ← z_wrap]
      · by_cases c8 : t = 8 ∧ i = r
        · rw [c8.1, c8.2, bU_eq, z_set_ne (hap 7 r h7 (by omega)).symm, z_set_at]
          refine congrArg some ?_
          show _ = z_qa (kAd κ r f (Int32.ofInt mo).toInt N1 26 r 0).toNat (z_lf (fun j => bU B r e1 20 (kAd κ r f (Int32.ofInt mo).toInt N1 20 r j)) (kAd κ r f (Int32.ofInt mo).toInt N1 24 r 0))
          rw [kAd_26, kAd_24, kAd_20]
          rfl
        · have hl1 : cL κ t i := ((hlv t i).mp hl).resolve_right c8
          have n1 : B t i ≠ B 7 r := fun e => c7 (hJ _ _ _ _ hl1 h7 e)
          rw [bU_ne c8, z_set_ne n1, z_set_ne (hap t i hl1 c8), cH_at hJ hl1]
          refine congrArg some ?_
          have hB' : cC D (bU B r e1) κ t i = cC D B κ t i := cC_bU c7
          rw [← hB']
          refine (cC_congr hl1 fun k hk => ?_).symm
          by_cases hk2 : k = 20 ∨ k = 24 ∨ k = 25 ∨ k = 26
          · refine kAd_ni fun e => ?_
            have ht : t = 7 ∨ t = 8 := cR_78 hk (by omega)
            rcases ht with ht | ht
            · exact c7 ⟨ht, e⟩
            · exact c8 ⟨ht, e⟩
          · rw [kAd_ne (by omega)]
    · have a7 : a ≠ B 7 r := fun e => ha 7 r ((hlv 7 r).mpr (Or.inl h7)) (by rw [bU_ne (by omega), e])
      have a8 : a ≠ e1 := fun e => ha 8 r ((hlv 8 r).mpr (Or.inr ⟨rfl, rfl⟩)) (by rw [bU_eq, e])
      rw [z_set_ne a7, z_set_ne a8]
      show _ = ite _ _ _
      split
      · rfl
      · rename_i c
        refine cH_no fun t i hl e => ?_
        by_cases c8 : t = 8 ∧ i = r
        · exact c (by rw [← e, c8.1, c8.2])
        · exact ha t i ((hlv t i).mpr (Or.inl hl)) (by rw [bU_ne c8, e])
  · by_cases c8 : t = 8 ∧ i = r
    · rw [c8.1, c8.2, bU_eq]
      rcases he1 with ⟨q1, q2⟩ | q
      · exact Or.inl ⟨by omega, q2⟩
      · exact Or.inr q
    · exact Or.inl ⟨((hlv t i).mp hl).resolve_right c8, bU_ne c8⟩
end C7
