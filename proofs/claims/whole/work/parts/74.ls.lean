/-! THE LAW's STATE: the hall's heap over the model's and the two rows; what a pair of calls is to give. -/
section LSS
def lsR (v : Int) : Prop := -2147483648 ≤ v ∧ v ≤ 2147483647
def lSb (G : z_G) (q : Nat) (A : Nat → Nat) (o1 o2 : Nat) (κ : c_K) (σ : z_S) (f : Int → Int) (g : Int → UInt64) (B : Nat → Int → Nat) (h : z_H) : Prop :=
  B 0 0 = q ∧ (cJ B κ ∧ cV κ ∧ cS κ) ∧ mI A ∧ (∀ k ∈ mK, h (A k) = some (mC A σ k)) ∧ h o1 = some (z_la 1 f) ∧ h o2 = some (z_da 1 g) ∧
  (∀ x, (x = o1 ∨ x = o2 ∨ ∃ k ∈ mK, x = A k) → ∀ t i, cL κ t i → B t i ≠ x) ∧ (∀ k ∈ mK, A k ≠ o1 ∧ A k ≠ o2) ∧ o1 ≠ o2 ∧ lsR (f 0)
def lS (G : z_G) (q : Nat) (A : Nat → Nat) (o1 o2 : Nat) (κ : c_K) (σ : z_S) (f : Int → Int) (g : Int → UInt64) (H : z_H) : Prop := ∃ (B : Nat → Int → Nat) (h : z_H), H = cH (z_dc G) B κ h ∧ lSb G q A o1 o2 κ σ f g B h
variable {G : z_G} {q : Nat} {A : Nat → Nat} {o1 o2 : Nat} {κ κ' : c_K} {σ ρ : z_S} {f f' : Int → Int} {g g' : Int → UInt64} {H : z_H} {B B' : Nat → Int → Nat} {h h' : z_H}
theorem mHs_s {A : Nat → Nat} {σ : z_S} {h : z_H} : ∀ ks : List Nat, (∀ k ∈ ks, h (A k) = some (mC A σ k)) → mHs A σ ks h = h := by
  intro ks
  induction ks with
  | nil => intro _; rfl
  | cons k ks ih =>
    intro hk
    show z_set (mHs A σ ks h) (A k) (mC A σ k) = h
    rw [ih (fun j hj => hk j (List.mem_cons_of_mem _ hj))]
    exact z_set_s (hk k List.mem_cons_self)
theorem mHs_c {A : Nat → Nat} {σ : z_S} {h1 h2 : z_H} {a : Nat} (e : h1 a = h2 a) : ∀ ks : List Nat, mHs A σ ks h1 a = mHs A σ ks h2 a := by
  intro ks
  induction ks with
  | nil => exact e
  | cons k ks ih =>
    show z_set _ _ _ a = z_set _ _ _ a
    unfold z_set
    rw [ih]
theorem lSb.zx (h0 : lSb G q A o1 o2 κ σ f g B h) {x : Nat} (hx : x = o1 ∨ x = o2 ∨ ∃ k ∈ mK, x = A k) {D : Nat} : cH D B κ h x = h x := cH_no (h0.2.2.2.2.2.2.1 x hx)
theorem lS.zq1 (h0 : lS G q A o1 o2 κ σ f g H) : ∃ fs, H q = some (z_ob 7 fs) := by
  obtain ⟨B, h, rfl, h1⟩ := h0
  have e := cH_at (D := z_dc G) (h := h) (t := 0) (i := 0) h1.2.1.1 (Or.inl ⟨Or.inl (by omega), rfl⟩)
  rw [h1.1] at e
  exact ⟨_, e⟩
theorem lS.zo1 (h0 : lS G q A o1 o2 κ σ f g H) : H o1 = some (z_la 1 f) := by
  obtain ⟨B, h, rfl, h1⟩ := h0
  rw [h1.zx (Or.inl rfl)]
  exact h1.2.2.2.2.1
theorem lS.zo2 (h0 : lS G q A o1 o2 κ σ f g H) : H o2 = some (z_da 1 g) := by
  obtain ⟨B, h, rfl, h1⟩ := h0
  rw [h1.zx (Or.inr (Or.inl rfl))]
  exact h1.2.2.2.2.2.1
theorem lS.zmk (h0 : lS G q A o1 o2 κ σ f g H) {k : Nat} (hk : k ∈ mK) : H (A k) = some (mC A σ k) := by
  obtain ⟨B, h, rfl, h1⟩ := h0
  rw [h1.zx (Or.inr (Or.inr ⟨k, hk, rfl⟩))]
  exact h1.2.2.2.1 k hk
theorem lS.za40 (h0 : lS G q A o1 o2 κ σ f g H) : H (A 40) = some (z_ob 8 (mF A σ)) := h0.zmk (k := 40) (by decide)
theorem lS.zm (h0 : lS G q A o1 o2 κ σ f g H) : mH A σ H = H := mHs_s mK (fun _ hk => h0.zmk hk)
theorem lS.zf (h0 : lS G q A o1 o2 κ σ f g H) : lsR (f 0) := by
  obtain ⟨B, h, rfl, h1⟩ := h0
  exact h1.2.2.2.2.2.2.2.2.2
theorem lS.zmi (h0 : lS G q A o1 o2 κ σ f g H) : mI A := by
  obtain ⟨B, h, rfl, h1⟩ := h0
  exact h1.2.2.1
/-- the model is at another state -/
theorem lS.zw (h0 : lS G q A o1 o2 κ σ f g H) (ρ : z_S) : lS G q A o1 o2 κ ρ f g (mH A ρ H) := by
  obtain ⟨B, h, rfl, h1⟩ := h0
  obtain ⟨b1, b2, b3, b4, b5, b6, b7, b8, b9⟩ := h1
  refine ⟨B, mH A ρ h, ?_, b1, b2, b3, fun k hk => mH_at b3 hk, ?_, ?_, b7, b8, b9⟩
  · refine cH_ext b2.1 (fun t i hl => ?_) (fun a ha => ?_)
    · rw [show mH A ρ (cH (z_dc G) B κ h) (B t i) = cH (z_dc G) B κ h (B t i) from mH_ne (σ := ρ) mK (fun j hj => b7 _ (Or.inr (Or.inr ⟨j, hj, rfl⟩)) t i hl)]
      exact cH_at b2.1 hl
    · exact mHs_c (cH_no ha) mK
  · rw [show mH A ρ h o1 = h o1 from mH_ne (σ := ρ) mK (fun j hj e => (b8 j hj).1 e.symm)]
    exact b5
  · rw [show mH A ρ h o2 = h o2 from mH_ne (σ := ρ) mK (fun j hj e => (b8 j hj).2 e.symm)]
    exact b6
theorem cH_out {D : Nat} {x : Nat} {c : va_E} (hJ : cJ B κ) (hx : ∀ t i, cL κ t i → B t i ≠ x) : z_set (cH D B κ h) x c = cH D B κ (z_set h x c) := by
  refine cH_ext hJ (fun t i hl => ?_) (fun a ha => ?_)
  · rw [z_set_ne (hx t i hl)]
    exact cH_at hJ hl
  · unfold z_set
    split
    · rfl
    · exact cH_no ha
/-- a row is written -/
theorem lS.zp1 (h0 : lS G q A o1 o2 κ σ f g H) (f' : Int → Int) (hf : lsR (f' 0)) : lS G q A o1 o2 κ σ f' g (z_set H o1 (z_la 1 f')) := by
  obtain ⟨B, h, rfl, h1⟩ := h0
  obtain ⟨b1, b2, b3, b4, b5, b6, b7, b8, b9⟩ := h1
  refine ⟨B, z_set h o1 (z_la 1 f'), cH_out b2.1 (b7 _ (Or.inl rfl)), b1, b2, b3, fun k hk => ?_, z_set_at, ?_, b7, b8, b9.1, hf⟩
  · rw [z_set_ne (b8 k hk).1]
    exact b4 k hk
  · rw [z_set_ne (Ne.symm b9.1)]
    exact b6
theorem lS.zp2 (h0 : lS G q A o1 o2 κ σ f g H) (g' : Int → UInt64) : lS G q A o1 o2 κ σ f g' (z_set H o2 (z_da 1 g')) := by
  obtain ⟨B, h, rfl, h1⟩ := h0
  obtain ⟨b1, b2, b3, b4, b5, b6, b7, b8, b9⟩ := h1
  refine ⟨B, z_set h o2 (z_da 1 g'), cH_out b2.1 (b7 _ (Or.inr (Or.inl rfl))), b1, b2, b3, fun k hk => ?_, ?_, z_set_at, b7, b8, b9⟩
  · rw [z_set_ne (b8 k hk).2]
    exact b4 k hk
  · rw [z_set_ne b9.1]
    exact b5
/-- the hall has done something -/
theorem lSb.zc (h1 : lSb G q A o1 o2 κ σ f g B h) (hI : cI B κ h B' κ' h') : lS G q A o1 o2 κ' σ f g (cH (z_dc G) B' κ' h') := by
  obtain ⟨b1, b2, b3, b4, b5, b6, b7, b8, b9⟩ := h1
  obtain ⟨i1, i2, i3, i4⟩ := hI
  have n1 : ∀ x, (x = o1 ∨ x = o2 ∨ ∃ k ∈ mK, x = A k) → ∃ c, h x = some c := by
    rintro x (rfl | rfl | ⟨k, hk, rfl⟩)
    · exact ⟨_, b5⟩
    · exact ⟨_, b6⟩
    · exact ⟨_, b4 k hk⟩
  have n2 : ∀ x c, (x = o1 ∨ x = o2 ∨ ∃ k ∈ mK, x = A k) → h x = some c → h' x = some c := fun x c hx hc => (i3 x c hc (b7 x hx)).1
  refine ⟨B', h', rfl, ?_, ⟨i1, i2.1, i2.2⟩, b3, fun k hk => n2 _ _ (Or.inr (Or.inr ⟨k, hk, rfl⟩)) (b4 k hk), n2 _ _ (Or.inl rfl) b5, n2 _ _ (Or.inr (Or.inl rfl)) b6, fun x hx => ?_, b8, b9⟩
  · rw [(i4 0 0 (by omega) (Or.inl ⟨Or.inl (by omega), rfl⟩)).2]
    exact b1
  · obtain ⟨c, hc⟩ := n1 x hx
    exact (i3 x c hc (b7 x hx)).2
/-- the hall has answered, and is as it was but for what cannot be told from without -/
theorem lSb.ze (h1 : lSb G q A o1 o2 κ σ f g B h) (hLL : ∀ t i, cL κ' t i ↔ cL κ t i) (hv : cV κ' ∧ cS κ') : lS G q A o1 o2 κ' σ f g (cH (z_dc G) B κ' h) := h1.zc (cI_t (cI_r h1.2.1.1 h1.2.1.2.1 h1.2.1.2.2) hLL hv)
theorem lSb.zi (h1 : lSb G q A o1 o2 κ σ f g B h) : lS G q A o1 o2 κ σ f g (cH (z_dc G) B κ h) := ⟨B, h, rfl, h1⟩
theorem lS.zth (h0 : lS G q A o1 o2 κ σ f g H) (hG : z_OK G) (hB : mB σ) : z_Tr G mX8_thrown [.ref (A 40)] H 0 (z_i (σ 0 0)) := by
  have e := m_thrown (h := H) hG h0.zmi hB
  rw [h0.zm] at e
  exact e
/-- a call that may throw, and the model's -/
def vW (G : z_G) (q : Nat) (A : Nat → Nat) (o1 o2 : Nat) (J : c_K → z_S → Prop) (κ : c_K) (σ : z_S) (W : z_M) (hh : List (Nat × Nat × Nat × Nat)) (M : z_M) (xs : List Value) : Prop := ∀ (f : Int → Int) (g : Int → UInt64) (H : z_H), lS G q A o1 o2 κ σ f g H →
  ∃ d1 mc ms d2 : Nat, d1 ≤ 20 ∧ d2 ≤ 20 ∧ mc ≤ 60 ∧ ms ≤ 3000 ∧ z_TH G W hh (.ref q :: (xs ++ [.ref o1])) H d1 mc ms (fun v h1 => ∃ (κ' : c_K) (f' : Int → Int) (c : Int), v = some (z_i c) ∧ lS G q A o1 o2 κ' σ f' g h1 ∧ lsR (f' 0) ∧ lsR c ∧
    z_T G M (.ref (A 40) :: xs) h1 d2 0 0 (fun v h2 => ∃ (r : Int) (ρ : z_S), v = some (z_i r) ∧ lsR r ∧ lS G q A o1 o2 κ' ρ f' g h2 ∧ ρ 0 0 = c ∧ (c = 0 → f' 0 = r) ∧ mB ρ ∧ J κ' ρ) z_no)
/-- a call that does not throw, and the model's -/
def vD (G : z_G) (q : Nat) (A : Nat → Nat) (o1 o2 : Nat) (J : c_K → z_S → Prop) (κ : c_K) (σ : z_S) (W M : z_M) (xs : List Value) : Prop := ∀ (f : Int → Int) (g : Int → UInt64) (H : z_H), lS G q A o1 o2 κ σ f g H →
  ∃ d1 mc ms d2 : Nat, d1 ≤ 20 ∧ d2 ≤ 20 ∧ mc ≤ 60 ∧ ms ≤ 3000 ∧ z_T G W (.ref q :: xs) H d1 mc ms (fun v h1 => ∃ (κ' : c_K) (r : Int), v = some (z_i r) ∧ lsR r ∧ lS G q A o1 o2 κ' σ f g h1 ∧
    z_T G M (.ref (A 40) :: xs) h1 d2 0 0 (fun v h2 => ∃ ρ : z_S, v = some (z_i r) ∧ lS G q A o1 o2 κ' ρ f g h2 ∧ J κ' ρ) z_no) z_no
/-- the mean: of doubles -/
def vM (G : z_G) (q : Nat) (A : Nat → Nat) (o1 o2 : Nat) (J : c_K → z_S → Prop) (κ : c_K) (σ : z_S) (W M : z_M) : Prop := ∀ (f : Int → Int) (g : Int → UInt64) (H : z_H), lS G q A o1 o2 κ σ f g H →
  ∃ d1 mc ms d2 : Nat, d1 ≤ 20 ∧ d2 ≤ 20 ∧ mc ≤ 60 ∧ ms ≤ 3000 ∧ z_T G W [.ref q] H d1 mc ms (fun v h1 => ∃ (κ' : c_K) (r : UInt64), v = some (.double r) ∧ lS G q A o1 o2 κ' σ f g h1 ∧
    z_T G M [.ref (A 40)] h1 d2 0 0 (fun v h2 => ∃ ρ : z_S, v = some (.double r) ∧ lS G q A o1 o2 κ' ρ f g h2 ∧ J κ' ρ) z_no) z_no
/-- how many it beats: a float -/
def vB (G : z_G) (q : Nat) (A : Nat → Nat) (o1 o2 : Nat) (J : c_K → z_S → Prop) (κ : c_K) (σ : z_S) (W : z_M) (hh : List (Nat × Nat × Nat × Nat)) (M : z_M) (e : Int) : Prop := ∀ (f : Int → Int) (g : Int → UInt64) (H : z_H), lS G q A o1 o2 κ σ f g H →
  ∃ d1 mc ms d2 : Nat, d1 ≤ 20 ∧ d2 ≤ 20 ∧ mc ≤ 60 ∧ ms ≤ 3000 ∧ z_TH G W hh [.ref q, z_i e, .ref o2] H d1 mc ms (fun v h1 => ∃ (κ' : c_K) (g' : Int → UInt64) (c : Int), v = some (z_i c) ∧ lS G q A o1 o2 κ' σ f g' h1 ∧ lsR c ∧
    z_T G M [.ref (A 40), z_i e] h1 d2 0 0 (fun v h2 => ∃ (r : UInt32) (ρ : z_S), v = some (.float r) ∧ lS G q A o1 o2 κ' ρ f g' h2 ∧ ρ 0 0 = c ∧ (c = 0 → vf_n64 (FP.f2d r) ∧ g' 0 = FP.f2d r ∧ (Op.cmpValue (FP.dcmp (FP.f2d r) (FP.f2d r)) .l).toInt = 0) ∧ mB ρ ∧ J κ' ρ) z_no)
end LSS
