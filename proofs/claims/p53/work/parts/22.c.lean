/-! THE CLASS: its objects by tags (kind, number); its state is a function of key, number and index. -/
section CC
abbrev c_K : Type := Nat → Int → Int → Int
def k_u (κ : c_K) (k : Nat) (i j v : Int) : c_K := fun k' i' j' => if k' = k then (if i' = i then (if j' = j then v else κ k' i' j') else κ k' i' j') else κ k' i' j'
def k_r (κ : c_K) (k : Nat) (i : Int) (f : Int → Int) : c_K := fun k' i' => if k' = k then (if i' = i then f else κ k' i') else κ k' i'
theorem k_u_ne {κ : c_K} {k k' : Nat} {i j v : Int} (h : k' ≠ k) : k_u κ k i j v k' = κ k' := by
  funext i' j'
  exact if_neg h
theorem k_u_ni {κ : c_K} {k : Nat} {i i' j v : Int} (h : i' ≠ i) : k_u κ k i j v k i' = κ k i' := by
  funext j'
  unfold k_u
  rw [if_pos rfl, if_neg h]
theorem k_u_eq {κ : c_K} {k : Nat} {i j v : Int} : k_u κ k i j v k i = z_up (κ k i) j v := by
  funext j'
  unfold k_u z_up
  rw [if_pos rfl, if_pos rfl]
theorem k_u_at {κ : c_K} {k : Nat} {i j v : Int} : k_u κ k i j v k i j = v := by rw [k_u_eq]; exact if_pos rfl
theorem k_r_ne {κ : c_K} {k k' : Nat} {i : Int} {f : Int → Int} (h : k' ≠ k) : k_r κ k i f k' = κ k' := by
  funext i'
  exact if_neg h
theorem k_r_ni {κ : c_K} {k : Nat} {i i' : Int} {f : Int → Int} (h : i' ≠ i) : k_r κ k i f k i' = κ k i' := by
  unfold k_r
  rw [if_pos rfl, if_neg h]
theorem k_r_eq {κ : c_K} {k : Nat} {i : Int} {f : Int → Int} : k_r κ k i f k i = f := by
  unfold k_r
  rw [if_pos rfl, if_pos rfl]
/-- what is alive: hall 0, tape 1 2, reader 3, orders 4 5 6, lists 7 8, standing 9, points 10, ladder 11, latest 12, slots 13, entrants 20-24 (-1 the trial) -/
abbrev cL (κ : c_K) (t : Nat) (i : Int) : Prop := ((t ≤ 3 ∨ (9 ≤ t ∧ t ≤ 13)) ∧ i = 0) ∨ ((t = 4 ∨ t = 5 ∨ t = 6) ∧ 0 ≤ i ∧ i ≤ 1) ∨ (t = 7 ∧ 0 ≤ i ∧ i ≤ 3) ∨ (t = 8 ∧ 0 ≤ i ∧ i ≤ 3 ∧ 0 < κ 26 i 0) ∨ (20 ≤ t ∧ t ≤ 24 ∧ -1 ≤ i ∧ i < κ 24 0 0)
def cC (D : Nat) (B : Nat → Int → Nat) (κ : c_K) (t : Nat) (i : Int) : va_E := match t with
  | 0 => z_ob 7 [.ref (B 1 0), .ref (B 3 0), .ref (B 4 (κ 17 0 0)), .ref (B 4 (1 - κ 17 0 0)), z_i (κ 0 0 0), .ref (B 7 0), .ref (B 9 0), .ref (B 10 0), .ref (B 11 0), z_i (κ 1 0 0), .ref (B 20 (-1)), .ref (B 12 0), .ref (B 13 0)]
  | 1 => z_ob 6 [.ref (B 2 0), z_i (κ 5 0 0)]
  | 2 => z_ia 100 (κ 4 0)
  | 3 => z_ob 3 [.ref (B 1 0), z_i (κ 6 0 0), z_i (κ 7 0 0), z_i (κ 8 0 0), z_i (κ 9 0 0), z_i (κ 10 0 0)]
  | 4 => z_ob 2 [.ref (B 5 i), .ref (B 6 i), z_i (κ 16 i 0)]
  | 5 => z_ia 16 (κ 12 i)
  | 6 => z_ia 4 (κ 14 i)
  | 7 => z_ob 9 [z_i (κ 25 i 0), .ref (if 0 < κ 26 i 0 then B 8 i else D), z_i (κ 24 i 0)]
  | 8 => z_qa (κ 26 i 0).toNat (z_lf (fun j => B 20 (κ 20 i j)) (κ 24 i 0))
  | 9 => z_ob 5 [.ref (B 7 1)]
  | 10 => z_ob 4 [.ref (B 7 2)]
  | 11 => z_ob 1 [.ref (B 7 3), z_i (κ 18 0 0), z_i (κ 19 0 0)]
  | 12 => z_ia 10 (κ 2 0)
  | 13 => z_ia 30 (κ 3 0)
  | 20 => z_ob 0 [z_i (κ 34 i 0), z_i (κ 35 i 0), z_i (κ 36 i 0), .ref (B 21 i), .ref (B 22 i), z_i (κ 37 i 0), z_i (κ 38 i 0), .ref (B 23 i), .ref (B 24 i), z_i (κ 39 i 0), z_i (κ 40 i 0)]
  | 21 => z_ia 4 (κ 30 i)
  | 22 => z_ia 4 (κ 31 i)
  | 23 => z_ia 10 (κ 32 i)
  | 24 => z_ia 20 (κ 33 i)
  | _ => z_ob 0 []
/-- the keys that a tag's cell reads -/
def cR (t : Nat) : List Nat := match t with
  | 0 => [0, 1, 17]
  | 1 => [5]
  | 2 => [4]
  | 3 => [6, 7, 8, 9, 10]
  | 4 => [16]
  | 5 => [12]
  | 6 => [14]
  | 7 => [24, 25, 26]
  | 8 => [20, 24, 26]
  | 11 => [18, 19]
  | 12 => [2]
  | 13 => [3]
  | 20 => [34, 35, 36, 37, 38, 39, 40]
  | 21 => [30]
  | 22 => [31]
  | 23 => [32]
  | 24 => [33]
  | _ => []
theorem cC_congr {D : Nat} {B : Nat → Int → Nat} {κ κ' : c_K} {t : Nat} {i : Int} (hL : cL κ t i) (h : ∀ k ∈ cR t, κ' k i = κ k i) : cC D B κ' t i = cC D B κ t i := by
  have h0 : (t ≤ 3 ∨ (9 ≤ t ∧ t ≤ 13)) → i = 0 := by omega
  have ht : t = 0 ∨ t = 1 ∨ t = 2 ∨ t = 3 ∨ t = 4 ∨ t = 5 ∨ t = 6 ∨ t = 7 ∨ t = 8 ∨ t = 9 ∨ t = 10 ∨ t = 11 ∨ t = 12 ∨ t = 13 ∨ t = 20 ∨ t = 21 ∨ t = 22 ∨ t = 23 ∨ t = 24 := by omega
  rcases ht with rfl | rfl | rfl | rfl | rfl | rfl | rfl | rfl | rfl | rfl | rfl | rfl | rfl | rfl | rfl | rfl | rfl | rfl | rfl
  · have := h0 (by omega); subst this
    simp only [cC, h 0 (by decide), h 1 (by decide), h 17 (by decide)]
  · have := h0 (by omega); subst this
    simp only [cC, h 5 (by decide)]
  · have := h0 (by omega); subst this
    simp only [cC, h 4 (by decide)]
  · have := h0 (by omega); subst this
    simp only [cC, h 6 (by decide), h 7 (by decide), h 8 (by decide), h 9 (by decide), h 10 (by decide)]
  · simp only [cC, h 16 (by decide)]
  · simp only [cC, h 12 (by decide)]
  · simp only [cC, h 14 (by decide)]
  · simp only [cC, h 24 (by decide), h 25 (by decide), h 26 (by decide)]
  · simp only [cC, h 20 (by decide), h 24 (by decide), h 26 (by decide)]
  · rfl
  · rfl
  · have := h0 (by omega); subst this
    simp only [cC, h 18 (by decide), h 19 (by decide)]
  · have := h0 (by omega); subst this
    simp only [cC, h 2 (by decide)]
  · have := h0 (by omega); subst this
    simp only [cC, h 3 (by decide)]
  · simp only [cC, h 34 (by decide), h 35 (by decide), h 36 (by decide), h 37 (by decide), h 38 (by decide), h 39 (by decide), h 40 (by decide)]
  · simp only [cC, h 30 (by decide)]
  · simp only [cC, h 31 (by decide)]
  · simp only [cC, h 32 (by decide)]
  · simp only [cC, h 33 (by decide)]
noncomputable def cH (D : Nat) (B : Nat → Int → Nat) (κ : c_K) (h : z_H) : z_H := fun a => @dite (Option va_E) (∃ q : Nat × Int, cL κ q.1 q.2 ∧ B q.1 q.2 = a) (Classical.propDecidable _) (fun hx => some (cC D B κ hx.choose.1 hx.choose.2)) (fun _ => h a)
def cJ (B : Nat → Int → Nat) (κ : c_K) : Prop := ∀ t i t' i', cL κ t i → cL κ t' i' → B t i = B t' i' → t = t' ∧ i = i'
theorem cH_at {D : Nat} {B : Nat → Int → Nat} {κ : c_K} {h : z_H} {t : Nat} {i : Int} (hJ : cJ B κ) (hL : cL κ t i) : cH D B κ h (B t i) = some (cC D B κ t i) := by
  have hx : ∃ q : Nat × Int, cL κ q.1 q.2 ∧ B q.1 q.2 = B t i := ⟨(t, i), hL, rfl⟩
  unfold cH
  rw [dif_pos hx]
  obtain ⟨h1, h2⟩ := hJ _ _ _ _ hx.choose_spec.1 hL hx.choose_spec.2
  rw [h1, h2]
theorem cH_no {D : Nat} {B : Nat → Int → Nat} {κ : c_K} {h : z_H} {a : Nat} (hn : ∀ t i, cL κ t i → B t i ≠ a) : cH D B κ h a = h a := by
  unfold cH
  exact dif_neg (fun ⟨q, h1, h2⟩ => hn _ _ h1 h2)
/-- heaps that agree on what is alive, and elsewhere -/
theorem cH_ext {D : Nat} {B : Nat → Int → Nat} {κ : c_K} {h g : z_H} (hJ : cJ B κ) (h1 : ∀ t i, cL κ t i → g (B t i) = some (cC D B κ t i)) (h2 : ∀ a, (∀ t i, cL κ t i → B t i ≠ a) → g a = h a) : g = cH D B κ h := by
  funext a
  by_cases hx : ∃ q : Nat × Int, cL κ q.1 q.2 ∧ B q.1 q.2 = a
  · obtain ⟨q, q1, q2⟩ := hx
    subst q2
    rw [cH_at hJ q1, h1 _ _ q1]
  · have hn : ∀ t i, cL κ t i → B t i ≠ a := fun t i hl e => hx ⟨(t, i), hl, e⟩
    rw [cH_no hn, h2 a hn]
theorem cH_set {D : Nat} {B : Nat → Int → Nat} {κ κ' : c_K} {h : z_H} {t : Nat} {i : Int} {c : va_E} (hJ : cJ B κ) (hL : cL κ t i) (hLL : ∀ t i, cL κ' t i ↔ cL κ t i) (hC : ∀ t' i', cL κ t' i' → ¬ (t' = t ∧ i' = i) → cC D B κ' t' i' = cC D B κ t' i') (he : cC D B κ' t i = c) : z_set (cH D B κ h) (B t i) c = cH D B κ' h := by
  have hJ' : cJ B κ' := fun t i t' i' h1 h2 h3 => hJ t i t' i' ((hLL _ _).mp h1) ((hLL _ _).mp h2) h3
  refine cH_ext hJ' (fun t' i' hl => ?_) (fun a ha => ?_)
  · have hl' := (hLL _ _).mp hl
    by_cases e : t' = t ∧ i' = i
    · rw [e.1, e.2, he]
      exact z_set_at
    · rw [z_set_ne (fun q => e (hJ _ _ _ _ hl' hL q)), cH_at hJ hl', hC t' i' hl' e]
  · rw [z_set_ne (fun e => ha t i ((hLL _ _).mpr hL) e.symm), cH_no (fun t i hl => ha t i ((hLL _ _).mpr hl))]
/-- the tag that a key belongs to -/
def cG (k : Nat) : Nat := if k = 0 ∨ k = 1 ∨ k = 17 then 0 else if k = 5 then 1 else if k = 4 then 2 else if 6 ≤ k ∧ k ≤ 10 then 3 else if k = 16 then 4 else if k = 12 then 5 else if k = 14 then 6 else if k = 25 then 7 else if k = 20 then 8 else if k = 18 ∨ k = 19 then 11 else if k = 2 then 12 else if k = 3 then 13 else if 34 ≤ k then 20 else if k = 30 then 21 else if k = 31 then 22 else if k = 32 then 23 else 24
theorem cG_of {t k : Nat} (h : k ∈ cR t) (hk : k ≠ 24 ∧ k ≠ 26) : cG k = t := by
  have h1 : ∀ t, t < 25 → ∀ k ∈ cR t, (k ≠ 24 ∧ k ≠ 26) → cG k = t := by decide
  by_cases ht : t < 25
  · exact h1 t ht k h hk
  · exfalso
    unfold cR at h
    split at h <;> first | omega | (cases h)
theorem cL_other {κ κ' : c_K} (h24 : κ' 24 0 0 = κ 24 0 0) (h26 : ∀ i, κ' 26 i 0 = κ 26 i 0) (t : Nat) (i : Int) : cL κ' t i ↔ cL κ t i := by
  unfold cL
  rw [h24, h26]
theorem cJ_of {B : Nat → Int → Nat} {κ κ' : c_K} (hJ : cJ B κ) (hLL : ∀ t i, cL κ' t i ↔ cL κ t i) : cJ B κ' := fun t i t' i' h1 h2 h3 => hJ t i t' i' ((hLL _ _).mp h1) ((hLL _ _).mp h2) h3
theorem cL_u {κ : c_K} {k : Nat} {i j v : Int} (hk : k ≠ 24 ∧ k ≠ 26) (t : Nat) (q : Int) : cL (k_u κ k i j v) t q ↔ cL κ t q := cL_other (by rw [k_u_ne (Ne.symm hk.1)]) (fun i => by rw [k_u_ne (Ne.symm hk.2)]) t q
theorem cL_r {κ : c_K} {k : Nat} {i : Int} {f : Int → Int} (hk : k ≠ 24 ∧ k ≠ 26) (t : Nat) (q : Int) : cL (k_r κ k i f) t q ↔ cL κ t q := cL_other (by rw [k_r_ne (Ne.symm hk.1)]) (fun i => by rw [k_r_ne (Ne.symm hk.2)]) t q
theorem cJ_u {B : Nat → Int → Nat} {κ : c_K} {k : Nat} {i j v : Int} (hk : k ≠ 24 ∧ k ≠ 26) (hJ : cJ B κ) : cJ B (k_u κ k i j v) := cJ_of hJ (cL_u hk)
theorem cJ_r {B : Nat → Int → Nat} {κ : c_K} {k : Nat} {i : Int} {f : Int → Int} (hk : k ≠ 24 ∧ k ≠ 26) (hJ : cJ B κ) : cJ B (k_r κ k i f) := cJ_of hJ (cL_r hk)
theorem cH_u {D : Nat} {B : Nat → Int → Nat} {κ : c_K} {h : z_H} {k t : Nat} {i j v : Int} {c : va_E} (hJ : cJ B κ) (hk : k ≠ 24 ∧ k ≠ 26) (ht : cG k = t) (hL : cL κ t i) (he : cC D B (k_u κ k i j v) t i = c) : z_set (cH D B κ h) (B t i) c = cH D B (k_u κ k i j v) h := by
  refine cH_set hJ hL (cL_u hk) (fun t' i' hl hne => cC_congr hl fun k' hk' => ?_) he
  by_cases e : k' = k
  · subst e
    refine k_u_ni (fun e2 => hne ⟨?_, e2⟩)
    exact (cG_of hk' hk).symm.trans ht
  · rw [k_u_ne e]
variable {Y : z_Y} {d : Nat} {M : z_M} {pc pc' : Nat} {ls ls' : List (Nat × Value)} {st st' : List Value} {h : z_H} {k n : Nat} {D : Nat} {B : Nat → Int → Nat} {κ : c_K}
theorem c_gf {t ix ci kf : Nat} {i : Int} {t0 : FieldType} {fin : Bool} {fs : List Value} {v : Value} (hY : z_ok Y d M) (hJ : cJ B κ) (dd : z_at M pc (.getfield ix) 3 pc' ∧ z_fd M.1.cls ix ci kf t0 fin) (hL : cL κ t i) (hC : cC D B κ t i = z_ob ci fs) (hv : fs[kf]? = some v) (kk : z_W Y pc' ls (v :: st) (cH D B κ h) k n) : z_W Y pc ls (.ref (B t i) :: st) (cH D B κ h) k n :=
  z_getfield hY dd (by rw [cH_at hJ hL, hC]) hv kk
theorem c_gfN {t ix ci kf : Nat} {i : Int} {fs : List Value} {v : Value} (hY : z_ok Y d M) (hJ : cJ B κ) (dd : z_at M pc (.getfield ix) 3 pc' ∧ z_fdN M.1.cls ix ci kf) (hL : cL κ t i) (hC : cC D B κ t i = z_ob ci fs) (hv : fs[kf]? = some v) (kk : z_W Y pc' ls (v :: st) (cH D B κ h) k n) : z_W Y pc ls (.ref (B t i) :: st) (cH D B κ h) k n :=
  z_getfieldN hY dd (by rw [cH_at hJ hL, hC]) hv kk
theorem c_pf {t ix ci kf key : Nat} {i x : Int} {fs : List Value} (hY : z_ok Y d M) (hJ : cJ B κ) (dd : z_at M pc (.putfield ix) 3 pc' ∧ z_fd M.1.cls ix ci kf .int false) (hk : key ≠ 24 ∧ key ≠ 26) (ht : cG key = t) (hL : cL κ t i) (hC : cC D B κ t i = z_ob ci fs) (hl : kf < fs.length) (he : cC D B (k_u κ key i 0 x) t i = z_ob ci (fs.set kf (z_i x))) (kk : z_W Y pc' ls st (cH D B (k_u κ key i 0 x) h) k n) : z_W Y pc ls (z_i x :: .ref (B t i) :: st) (cH D B κ h) k n :=
  z_putfield hY dd (by rw [cH_at hJ hL, hC]) rfl rfl hl (z_heq (cH_u hJ hk ht hL he) kk)
theorem z_fitB {x : Int} (h : x = 0 ∨ x = 1) : fits .boolean (z_i x) = true := by rcases h with rfl | rfl <;> decide +kernel
theorem c_pfZ {t ix ci kf key : Nat} {i x : Int} {fs : List Value} (hY : z_ok Y d M) (hJ : cJ B κ) (dd : z_at M pc (.putfield ix) 3 pc' ∧ z_fd M.1.cls ix ci kf .boolean false) (hx : x = 0 ∨ x = 1) (hk : key ≠ 24 ∧ key ≠ 26) (ht : cG key = t) (hL : cL κ t i) (hC : cC D B κ t i = z_ob ci fs) (hl : kf < fs.length) (he : cC D B (k_u κ key i 0 x) t i = z_ob ci (fs.set kf (z_i x))) (kk : z_W Y pc' ls st (cH D B (k_u κ key i 0 x) h) k n) : z_W Y pc ls (z_i x :: .ref (B t i) :: st) (cH D B κ h) k n :=
  z_putfield hY dd (by rw [cH_at hJ hL, hC]) (z_narB hx) (z_fitB hx) hl (z_heq (cH_u hJ hk ht hL he) kk)
theorem c_ial {t N key : Nat} {i j x : Int} (hY : z_ok Y d M) (hJ : cJ B κ) (dd : z_at M pc .iaload 1 pc') (hL : cL κ t i) (hC : cC D B κ t i = z_ia N (κ key i)) (hi : 0 ≤ j ∧ j < N ∧ N ≤ 2147483647) (hx : κ key i j = x) (kk : z_W Y pc' ls (z_i x :: st) (cH D B κ h) k n) : z_W Y pc ls (z_i j :: .ref (B t i) :: st) (cH D B κ h) k n := by
  refine z_iaload hY dd (by rw [cH_at hJ hL, hC]) hi ?_
  rw [hx]
  exact kk
theorem c_ias {t N key : Nat} {i j x : Int} (hY : z_ok Y d M) (hJ : cJ B κ) (dd : z_at M pc .iastore 1 pc') (hk : key ≠ 24 ∧ key ≠ 26) (ht : cG key = t) (hL : cL κ t i) (hC : ∀ κ : c_K, cC D B κ t i = z_ia N (κ key i)) (hi : 0 ≤ j ∧ j < N ∧ N ≤ 2147483647) (kk : z_W Y pc' ls st (cH D B (k_u κ key i j x) h) k n) : z_W Y pc ls (z_i x :: z_i j :: .ref (B t i) :: st) (cH D B κ h) k n := by
  refine z_iastore hY dd (by rw [cH_at hJ hL, hC]) hi (z_heq (cH_u hJ hk ht hL ?_) kk)
  rw [hC, k_u_eq]
theorem c_alen {t N key : Nat} {i : Int} (hY : z_ok Y d M) (hJ : cJ B κ) (dd : z_at M pc .arraylength 1 pc') (hL : cL κ t i) (hC : cC D B κ t i = z_ia N (κ key i)) (kk : z_W Y pc' ls (z_i N :: st) (cH D B κ h) k n) : z_W Y pc ls (.ref (B t i) :: st) (cH D B κ h) k n := by
  refine z_arrlen hY dd (t := 0) (N := N) (by rw [cH_at hJ hL, hC]; rfl) (by decide) kk
end CC
