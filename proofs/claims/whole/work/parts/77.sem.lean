/-! A PAIR OF CALLS: what it gives, from what each of the two does. -/
section SEM
theorem z_TH_mono {G : z_G} {M : z_M} {hh : List (Nat × Nat × Nat × Nat)} {As : List Value} {H : z_H} {d mc ms : Nat} {φ φ1 : Option Value → z_H → Prop} (ht : z_TH G M hh As H d mc ms φ1) (h1 : ∀ v h', φ1 v h' → φ v h') : z_TH G M hh As H d mc ms φ := by
  intro p e ha hc hk s m args below hf hs hP hK
  obtain ⟨t, o, a1, a2, a3, a4⟩ := ht p e ha hc hk s m args below hf hs hP hK
  refine ⟨t, o, a1, a2, a3, ?_⟩
  rcases a4 with ⟨⟨v, h', b1, b2, b3⟩, b4⟩ | ⟨q, b1, E, ce, L, ⟨h', b2, b3⟩, b4⟩
  · exact Or.inl ⟨⟨v, h', b1, h1 v h' b2, b3⟩, b4⟩
  · exact b2.elim
def zn (x : Int) : Int := (Int32.ofInt x).toInt
theorem zn_r (x : Int) : lsR (zn x) := z_rg _
theorem zn_i (x : Int) : z_i x = z_i (zn x) := by unfold z_i zn; rw [Int32.ofInt_toInt]
theorem zi_inj {a b : Int} (ha : lsR a) (hb : lsR b) (h : (some (z_i a) : Option Value) = some (z_i b)) : a = b := by
  have h1 := Option.some.inj h
  unfold z_i at h1
  injection h1 with h2
  have h3 := congrArg Int32.toInt h2
  rw [z_toInt ha, z_toInt hb] at h3
  exact h3
theorem u_cd_r (E1 E : String) : lsR (u_cd E1 E) ∧ u_cd E1 E ≠ 0 := by
  unfold u_cd lsR
  split <;> omega
section
variable {G : z_G} {q : Nat} {A : Nat → Nat} {o1 o2 : Nat} {κ : c_K} {σ : z_S} {J : c_K → z_S → Prop}
theorem vW_of {W0 W M : z_M} {hh : List (Nat × Nat × Nat × Nat)} {xs : List Value} {d1 mc ms d2 : Nat} {E1 : String} {EE : String → Prop} {cOK : c_K → Int → Prop} {cBAD : c_K → String → Prop} {mS : Int → Int → z_S → Prop}
    (hu : ∀ (H : z_H) (fs : List Value) (φ1 : Option Value → z_H → Prop) (ψ1 : String → z_H → Prop), H q = some (z_ob 7 fs) → z_T G W0 (.ref q :: xs) H d1 mc ms φ1 ψ1 → (∀ v h', φ1 v h' → ∃ (r : Int) (f : Int → Int), v = some (z_i r) ∧ (-2147483648 ≤ r ∧ r ≤ 2147483647) ∧ h' o1 = some (z_la 1 f)) → (∀ E h', ψ1 E h' → EE E) → z_TH G W hh (.ref q :: (xs ++ [.ref o1])) H (d1 + 1) mc ms (u_P o1 E1 φ1 ψ1))
    (hd : d1 ≤ 19 ∧ mc ≤ 60 ∧ ms ≤ 3000 ∧ d2 ≤ 20)
    (hw : ∀ (f : Int → Int) (g : Int → UInt64) (B : Nat → Int → Nat) (h : z_H), lSb G q A o1 o2 κ σ f g B h → z_T G W0 (.ref q :: xs) (cH (z_dc G) B κ h) d1 mc ms (fun v h1 => ∃ (κ' : c_K) (x : Int), v = some (z_i x) ∧ lS G q A o1 o2 κ' σ f g h1 ∧ cOK κ' x) (fun E h1 => ∃ κ' : c_K, lS G q A o1 o2 κ' σ f g h1 ∧ cBAD κ' E))
    (hm : mI A → ∀ H : z_H, z_T G M (.ref (A 40) :: xs) (mH A σ H) d2 0 0 (fun v h' => ∃ (c r : Int) (ρ : z_S), v = some (z_i r) ∧ h' = mH A ρ H ∧ mS c r ρ) z_no)
    (hEE : ∀ κ' E, cBAD κ' E → EE E)
    (hok : ∀ κ' x c y ρ, (cV κ' ∧ cS κ') → cOK κ' x → mS c y ρ → y = x ∧ ρ 0 0 = 0 ∧ mB ρ ∧ J κ' ρ)
    (hbad : ∀ κ' E c y ρ, (cV κ' ∧ cS κ') → cBAD κ' E → mS c y ρ → ρ 0 0 = u_cd E1 E ∧ mB ρ ∧ J κ' ρ) : vW G q A o1 o2 J κ σ W hh M xs := by
  intro f g H hS
  have hq := hS.zq1
  obtain ⟨B, h, rfl, hb⟩ := hS
  obtain ⟨fs, hq⟩ := hq
  have hvs : ∀ {κ' : c_K} {f' : Int → Int} {h1 : z_H}, lS G q A o1 o2 κ' σ f' g h1 → cV κ' ∧ cS κ' := fun hS' => by
    obtain ⟨_, _, -, hb'⟩ := hS'
    exact ⟨hb'.2.1.2.1, hb'.2.1.2.2⟩
  have hmod : ∀ {κ' : c_K} {f' : Int → Int} {h1 : z_H} (hS' : lS G q A o1 o2 κ' σ f' g h1), z_T G M (.ref (A 40) :: xs) h1 d2 0 0 (fun v h' => ∃ (c r : Int) (ρ : z_S), v = some (z_i r) ∧ h' = mH A ρ h1 ∧ mS c r ρ) z_no := fun {κ' f' h1} hS' => by
    have e := hm hS'.zmi h1
    rw [hS'.zm] at e
    exact e
  have ht := hu (cH (z_dc G) B κ h) fs _ _ hq ((hw f g B h hb).mono (φ := fun v h1 => ∃ (κ' : c_K) (x : Int), v = some (z_i x) ∧ lS G q A o1 o2 κ' σ f g h1 ∧ cOK κ' x) (ψ := fun E h1 => ∃ κ' : c_K, lS G q A o1 o2 κ' σ f g h1 ∧ cBAD κ' E) (fun _ _ z => z) (fun _ _ z => z)) (fun v h' ⟨κ', x, a, b, _⟩ => ⟨zn x, f, by rw [a, zn_i], zn_r x, b.zo1⟩) (fun E h' ⟨κ', _, b⟩ => hEE κ' E b)
  refine ⟨d1 + 1, mc, ms, d2, by omega, hd.2.2.2, hd.2.1, hd.2.2.1, z_TH_mono ht (fun v h' hP => ?_)⟩
  rcases hP with ⟨r, f', h1, ⟨κ', x, p1, p2, p3⟩, hr, p4, rfl, rfl⟩ | ⟨E, ⟨κ', p2, p3⟩, rfl⟩
  · have hrx : r = zn x := zi_inj hr (zn_r x) (by rw [p1, zn_i])
    have hS2 := p2.zp1 (z_up f' 0 r) (by show lsR (z_up f' 0 r 0); rw [show z_up f' 0 r 0 = r from if_pos rfl]; exact hr)
    refine ⟨κ', z_up f' 0 r, 0, rfl, hS2, hS2.zf, by unfold lsR; omega, (hmod hS2).mono (fun v h2 hv => ?_) (fun _ _ z => z)⟩
    obtain ⟨c, y, ρ, rfl, rfl, hs⟩ := hv
    obtain ⟨rfl, a1, a2, a3⟩ := hok κ' x c y ρ (hvs p2) p3 hs
    exact ⟨r, ρ, by rw [hrx, ← zn_i], hr, hS2.zw ρ, a1, fun _ => if_pos rfl, a2, a3⟩
  · refine ⟨κ', f, u_cd E1 E, rfl, p2, p2.zf, (u_cd_r E1 E).1, (hmod p2).mono (fun v h2 hv => ?_) (fun _ _ z => z)⟩
    obtain ⟨c, y, ρ, rfl, rfl, hs⟩ := hv
    obtain ⟨a1, a2, a3⟩ := hbad κ' E c y ρ (hvs p2) p3 hs
    exact ⟨zn y, ρ, by rw [zn_i], zn_r y, p2.zw ρ, a1, fun q => absurd q (u_cd_r E1 E).2, a2, a3⟩
theorem vD_of {W0 M : z_M} {xs : List Value} {d1 mc ms d2 : Nat} {cOK : c_K → Int → Prop} {mS : Int → Int → z_S → Prop}
    (hd : d1 ≤ 20 ∧ mc ≤ 60 ∧ ms ≤ 3000 ∧ d2 ≤ 20)
    (hw : ∀ (f : Int → Int) (g : Int → UInt64) (B : Nat → Int → Nat) (h : z_H), lSb G q A o1 o2 κ σ f g B h → z_T G W0 (.ref q :: xs) (cH (z_dc G) B κ h) d1 mc ms (fun v h1 => ∃ (κ' : c_K) (x : Int), v = some (z_i x) ∧ lS G q A o1 o2 κ' σ f g h1 ∧ cOK κ' x) z_no)
    (hm : mI A → ∀ H : z_H, z_T G M (.ref (A 40) :: xs) (mH A σ H) d2 0 0 (fun v h' => ∃ (c r : Int) (ρ : z_S), v = some (z_i r) ∧ h' = mH A ρ H ∧ mS c r ρ) z_no)
    (hok : ∀ κ' x c y ρ, (cV κ' ∧ cS κ') → cOK κ' x → mS c y ρ → y = x ∧ J κ' ρ) : vD G q A o1 o2 J κ σ W0 M xs := by
  intro f g H hS
  obtain ⟨B, h, rfl, hb⟩ := hS
  refine ⟨d1, mc, ms, d2, hd.1, hd.2.2.2, hd.2.1, hd.2.2.1, (hw f g B h hb).mono (fun v h1 hv => ?_) (fun _ _ z => z)⟩
  obtain ⟨κ', x, rfl, p2, p3⟩ := hv
  have hvs : cV κ' ∧ cS κ' := by
    obtain ⟨_, _, -, hb'⟩ := p2
    exact ⟨hb'.2.1.2.1, hb'.2.1.2.2⟩
  have e := hm p2.zmi h1
  rw [p2.zm] at e
  refine ⟨κ', zn x, by rw [zn_i], zn_r x, p2, e.mono (fun v h2 hv => ?_) (fun _ _ z => z)⟩
  obtain ⟨c, y, ρ, rfl, rfl, hs⟩ := hv
  obtain ⟨rfl, a3⟩ := hok κ' x c y ρ hvs p3 hs
  exact ⟨ρ, by rw [zn_i], p2.zw ρ, a3⟩
end
/-- the model's numbers -/
def jM (t : Nat) (σ : z_S) : Prop := mB σ ∧ mV σ ∧ m11 σ ∧ (∀ i, -100000 ≤ σ 17 i ∧ σ 17 i ≤ 100000) ∧ (0 ≤ σ 20 0 ∧ σ 20 0 ≤ t) ∧ (∀ i, -3996 ≤ σ 9 i ∧ σ 9 i ≤ 3996) ∧ (0 ≤ σ 5 0 ∧ σ 5 0 ≤ 100) ∧ ∀ e, jIl σ e → 0 ≤ σ 22 e
def jJ (t : Nat) (κ : c_K) (σ : z_S) : Prop := jR κ σ ∧ jM t σ
section
variable {t : Nat} {κ κ' : c_K} {σ ρ : z_S}
theorem jJ.mono (h : jJ t κ σ) : jJ (t + 1) κ σ := by
  obtain ⟨h1, a1, a2, a3, a4, a5, a6⟩ := h
  exact ⟨h1, a1, a2, a3, a4, ⟨a5.1, by have := a5.2; omega⟩, a6⟩
theorem jJ.B (h : jJ t κ σ) : mB σ := h.2.1
theorem jJ.V (h : jJ t κ σ) : mV σ := h.2.2.1
theorem jJ.m11 (h : jJ t κ σ) : m11 σ := h.2.2.2.1
theorem jJ.b17 (h : jJ t κ σ) : ∀ i, -100000 ≤ σ 17 i ∧ σ 17 i ≤ 100000 := h.2.2.2.2.1
theorem jJ.b20 (h : jJ t κ σ) : 0 ≤ σ 20 0 ∧ σ 20 0 ≤ t := h.2.2.2.2.2.1
theorem jJ.D (h : jJ t κ σ) : mD σ := h.1.l.2.2
theorem jJ.E (h : jJ t κ σ) : mE σ := h.1.xmE h.V
/-- what the relation does not look at -/
theorem jR_m (hk : ∀ k, ¬ (k = 0 ∨ k = 4 ∨ k = 5 ∨ k = 6 ∨ k = 7 ∨ k = 9 ∨ k = 11 ∨ k = 13 ∨ k = 24 ∨ k = 31) → ρ k = σ k) (h : jR κ σ) : jR κ ρ := by
  have e : ρ = fun k => if k = 0 ∨ k = 4 ∨ k = 5 ∨ k = 6 ∨ k = 7 ∨ k = 9 ∨ k = 11 ∨ k = 13 ∨ k = 24 ∨ k = 31 then ρ k else σ k := by
    funext k
    by_cases c : k = 0 ∨ k = 4 ∨ k = 5 ∨ k = 6 ∨ k = 7 ∨ k = 9 ∨ k = 11 ∨ k = 13 ∨ k = 24 ∨ k = 31
    · exact (if_pos c).symm
    · exact (hk k c).trans (if_neg c).symm
  exact Eq.subst (motive := fun s => jR κ s) e.symm (show jR κ (fun k => if k = 0 ∨ k = 4 ∨ k = 5 ∨ k = 6 ∨ k = 7 ∨ k = 9 ∨ k = 11 ∨ k = 13 ∨ k = 24 ∨ k = 31 then ρ k else σ k) from h)
theorem jR_u0 (h : jR κ σ) {k : Nat} {i v : Int} (hk : k = 0 ∨ k = 4 ∨ k = 5 ∨ k = 6 ∨ k = 7 ∨ k = 9 ∨ k = 11 ∨ k = 13 ∨ k = 24 ∨ k = 31) : jR κ (z_u σ k i v) := jR_m (fun m hm => z_u_ne (fun e => hm (by rw [e]; exact hk))) h
theorem jM_0 (h : jM t σ) {v : Int} (hv : -1000000 ≤ v ∧ v ≤ 1000000) : jM t (z_u σ 0 0 v) := ⟨mB_u h.1 hv, h.2.1, h.2.2.1, h.2.2.2.1, h.2.2.2.2.1, h.2.2.2.2.2.1, h.2.2.2.2.2.2.1, h.2.2.2.2.2.2.2⟩
theorem jJ_0 (h : jJ t κ σ) {v : Int} (hv : -1000000 ≤ v ∧ v ≤ 1000000) : jJ t κ (z_u σ 0 0 v) := ⟨jR_u0 h.1 (by omega), jM_0 h.2 hv⟩
theorem jJ_x (h : jJ t κ σ) : jJ t κ (z_u σ 0 0 0) := jJ_0 h (by omega)
theorem jJ_c (h : jJ t κ σ) {c : Int} (hc : c = 0 ∨ c = 1 ∨ c = 2) : jJ (t + 1) κ (z_u (z_u σ 0 0 0) 0 0 c) := (jJ_0 (jJ_x h) (by omega)).mono
/-- the class's rows of work, its drafts, its trials -/
theorem jR_k (hV : cV κ) (hk : ∀ (k : Nat) (i : Int), ¬ (k = 2 ∨ k = 3 ∨ (6 ≤ k ∧ k ≤ 10) ∨ k = 25 ∨ k = 26) → 0 ≤ i → ¬ (i = 1 - κ 17 0 0 ∧ (k = 12 ∨ k = 14 ∨ k = 16)) → κ' k i = κ k i) (hv : mV σ) (h : jR κ σ) : jR κ' σ := by
  have h17 := hV.2.2.2.1
  have e17 : κ' 17 0 0 = κ 17 0 0 := by rw [hk 17 0 (by omega) (by omega) (by omega)]
  have ek : ∀ (k : Nat) (i : Int), ¬ (k = 2 ∨ k = 3 ∨ (6 ≤ k ∧ k ≤ 10) ∨ k = 25 ∨ k = 26) → ¬ (k = 12 ∨ k = 14 ∨ k = 16) → 0 ≤ i → κ' k i = κ k i := fun k i a b c => hk k i a c (fun z => b z.2)
  obtain ⟨ht, ha, ho, he, hz, hs, hp, hl, hm, hj⟩ := h
  refine ⟨?_, ?_, ?_, fun e h0 h1 => ?_, hz, ?_, ?_, ?_, hm, hj⟩
  · unfold TR
    rw [ek 5 0 (by omega) (by omega) (by omega), ek 4 0 (by omega) (by omega) (by omega)]
    exact ht
  · unfold jRa
    rw [ek 0 0 (by omega) (by omega) (by omega), ek 1 0 (by omega) (by omega) (by omega), ek 18 0 (by omega) (by omega) (by omega), ek 19 0 (by omega) (by omega) (by omega), ek 24 0 (by omega) (by omega) (by omega)]
    exact ha
  · unfold jRo
    rw [e17, hk 16 (κ 17 0 0) (by omega) (by omega) (by omega), hk 12 (κ 17 0 0) (by omega) (by omega) (by omega), hk 14 (κ 17 0 0) (by omega) (by omega) (by omega)]
    exact ho
  · have q := he e h0 h1
    unfold jRe jRt at q ⊢
    unfold mrt at q ⊢
    rw [ek 30 e (by omega) (by omega) h0, ek 35 e (by omega) (by omega) h0, ek 36 e (by omega) (by omega) h0, ek 33 e (by omega) (by omega) h0, ek 32 e (by omega) (by omega) h0, ek 37 e (by omega) (by omega) h0, ek 38 e (by omega) (by omega) h0, ek 31 e (by omega) (by omega) h0, ek 39 e (by omega) (by omega) h0, ek 40 e (by omega) (by omega) h0]
    exact q
  · unfold jRs
    rw [ek 20 1 (by omega) (by omega) (by omega), ek 24 1 (by omega) (by omega) (by omega)]
    refine ⟨hs.1, fun i h0 h1 => ?_⟩
    rw [ek 37 _ (by omega) (by omega) (hs.1.2.1 i h0 h1).1]
    exact hs.2 i h0 h1
  · unfold jRp
    rw [ek 20 2 (by omega) (by omega) (by omega), ek 24 2 (by omega) (by omega) (by omega)]
    exact hp
  · unfold jRl
    rw [ek 20 3 (by omega) (by omega) (by omega), ek 24 3 (by omega) (by omega) (by omega)]
    exact hl
theorem jJ_k (hV : cV κ) (hk : ∀ (k : Nat) (i : Int), ¬ (k = 2 ∨ k = 3 ∨ (6 ≤ k ∧ k ≤ 10) ∨ k = 25 ∨ k = 26) → 0 ≤ i → ¬ (i = 1 - κ 17 0 0 ∧ (k = 12 ∨ k = 14 ∨ k = 16)) → κ' k i = κ k i) (h : jJ t κ σ) : jJ t κ' σ := ⟨jR_k hV hk h.V h.1, h.2⟩
theorem jJ_Et (hV : cV κ) (hE : kEt κ' κ) (h : jJ t κ σ) : jJ t κ' σ := jJ_k hV (fun k i _ h0 _ => hE.1 k i (Or.inr (by omega))) h
theorem jJ_r2 (hV : cV κ) {k : Nat} {R : Int → Int} (hk : k = 2 ∨ k = 3) (h : jJ t κ σ) : jJ t (k_r κ k 0 R) σ := jJ_k hV (fun m i a _ _ => by rw [k_r_ne (by omega)]) h
end
section
variable {t : Nat} {G : z_G} {q : Nat} {A : Nat → Nat} {o1 o2 : Nat} {κ : c_K} {σ : z_S}
/-- a call that reads -/
theorem vW_R {W0 W M : z_M} {hh : List (Nat × Nat × Nat × Nat)} {xs : List Value} {d1 mc ms d2 : Nat} {E1 : String} {EE : String → Prop} {P : Prop} {X : Int} {Ψ : String → Prop} {S : Int → Int → Prop} (h : jJ t κ σ)
    (hu : ∀ (H : z_H) (fs : List Value) (φ1 : Option Value → z_H → Prop) (ψ1 : String → z_H → Prop), H q = some (z_ob 7 fs) → z_T G W0 (.ref q :: xs) H d1 mc ms φ1 ψ1 → (∀ v h', φ1 v h' → ∃ (r : Int) (f : Int → Int), v = some (z_i r) ∧ (-2147483648 ≤ r ∧ r ≤ 2147483647) ∧ h' o1 = some (z_la 1 f)) → (∀ E h', ψ1 E h' → EE E) → z_TH G W hh (.ref q :: (xs ++ [.ref o1])) H (d1 + 1) mc ms (u_P o1 E1 φ1 ψ1))
    (hd : d1 ≤ 19 ∧ mc ≤ 60 ∧ ms ≤ 3000 ∧ d2 ≤ 20)
    (hw : ∀ (B : Nat → Int → Nat) (h : z_H), cJ B κ → cB κ → cV κ → cS κ → z_T G W0 (.ref (B 0 0) :: xs) (cH (z_dc G) B κ h) d1 mc ms (fun v h' => P ∧ v = some (z_i X) ∧ h' = cH (z_dc G) B κ h) (fun E h' => h' = cH (z_dc G) B κ h ∧ Ψ E))
    (hm : mI A → ∀ H : z_H, z_T G M (.ref (A 40) :: xs) (mH A σ H) d2 0 0 (fun v h' => ∃ c r : Int, v = some (z_i r) ∧ h' = mH A (z_u (z_u σ 0 0 0) 0 0 c) H ∧ S c r) z_no)
    (hEE : ∀ E, Ψ E → EE E)
    (hok : (cV κ ∧ cS κ) → P → ∀ c y, S c y → y = X ∧ c = 0)
    (hbad : (cV κ ∧ cS κ) → ∀ E, Ψ E → ∀ c y, S c y → c = u_cd E1 E) : vW G q A o1 o2 (jJ (t + 1)) κ σ W hh M xs := by
  refine vW_of (cOK := fun κ' x => κ' = κ ∧ x = X ∧ P) (cBAD := fun κ' E => κ' = κ ∧ Ψ E) (mS := fun c r ρ => S c r ∧ ρ = z_u (z_u σ 0 0 0) 0 0 c) hu hd (fun f g B h hb => ?_) (fun hA H => (hm hA H).mono (fun v h' ⟨c, r, a, b, s⟩ => ⟨c, r, _, a, b, s, rfl⟩) (fun _ _ z => z)) (fun κ' E z => hEE E z.2) (fun κ' x c y ρ hv z s => ?_) (fun κ' E c y ρ hv z s => ?_)
  · have e0 := hw B h hb.2.1.1 hb.2.1.2.2.b hb.2.1.2.1 hb.2.1.2.2
    rw [hb.1] at e0
    exact e0.mono (fun v h' ⟨p, a, b⟩ => ⟨κ, X, a, by rw [b]; exact hb.zi, rfl, rfl, p⟩) (fun E h' ⟨b, p⟩ => ⟨κ, by rw [b]; exact hb.zi, rfl, p⟩)
  · obtain ⟨rfl, rfl, p⟩ := z
    obtain ⟨s, rfl⟩ := s
    obtain ⟨a, rfl⟩ := hok hv p c y s
    exact ⟨a, z_u_at, (jJ_c h (Or.inl rfl)).B, jJ_c h (Or.inl rfl)⟩
  · obtain ⟨rfl, p⟩ := z
    obtain ⟨s, rfl⟩ := s
    have a := hbad hv E p c y s
    have a2 : c = 0 ∨ c = 1 ∨ c = 2 := by
      rw [a]; unfold u_cd
      split
      · exact Or.inr (Or.inl rfl)
      · exact Or.inr (Or.inr rfl)
    exact ⟨z_u_at.trans a, (jJ_c h a2).B, jJ_c h a2⟩
theorem vD_R {W0 M : z_M} {xs : List Value} {d1 mc ms d2 : Nat} {X : Int} {S : Int → Int → Prop} (h : jJ t κ σ)
    (hd : d1 ≤ 20 ∧ mc ≤ 60 ∧ ms ≤ 3000 ∧ d2 ≤ 20)
    (hw : ∀ (B : Nat → Int → Nat) (h : z_H), cJ B κ → cB κ → cV κ → cS κ → z_T G W0 (.ref (B 0 0) :: xs) (cH (z_dc G) B κ h) d1 mc ms (fun v h' => v = some (z_i X) ∧ h' = cH (z_dc G) B κ h) z_no)
    (hm : mI A → ∀ H : z_H, z_T G M (.ref (A 40) :: xs) (mH A σ H) d2 0 0 (fun v h' => ∃ c r : Int, v = some (z_i r) ∧ h' = mH A (z_u (z_u σ 0 0 0) 0 0 c) H ∧ S c r) z_no)
    (hok : (cV κ ∧ cS κ) → ∀ c y, S c y → c = 0 ∧ y = X) : vD G q A o1 o2 (jJ (t + 1)) κ σ W0 M xs := by
  refine vD_of (cOK := fun κ' x => κ' = κ ∧ x = X) (mS := fun c r ρ => S c r ∧ ρ = z_u (z_u σ 0 0 0) 0 0 c) hd (fun f g B h hb => ?_) (fun hA H => (hm hA H).mono (fun v h' ⟨c, r, a, b, s⟩ => ⟨c, r, _, a, b, s, rfl⟩) (fun _ _ z => z)) (fun κ' x c y ρ hv z s => ?_)
  · have e0 := hw B h hb.2.1.1 hb.2.1.2.2.b hb.2.1.2.1 hb.2.1.2.2
    rw [hb.1] at e0
    exact e0.mono (fun v h' ⟨a, b⟩ => ⟨κ, X, a, by rw [b]; exact hb.zi, rfl, rfl⟩) (fun _ _ z => z)
  · obtain ⟨rfl, rfl⟩ := z
    obtain ⟨s, rfl⟩ := s
    obtain ⟨rfl, a⟩ := hok hv c y s
    exact ⟨a, jJ_c h (Or.inl rfl)⟩
end
theorem sO1 {m1 : Prop} [Decidable m1] {c r Y : Int} (s : if m1 then c = 0 ∧ r = Y else c = 1) (h1 : m1) : r = Y ∧ c = 0 := by rw [if_pos h1] at s; exact ⟨s.2, s.1⟩
theorem sO2 {m1 m2 : Prop} [Decidable m1] [Decidable m2] {c r Y : Int} (s : if m1 then (if m2 then c = 0 ∧ r = Y else c = 2) else c = 1) (h1 : m1) (h2 : m2) : r = Y ∧ c = 0 := by rw [if_pos h1, if_pos h2] at s; exact ⟨s.2, s.1⟩
theorem sO3 {m1 m2 m3 : Prop} [Decidable m1] [Decidable m2] [Decidable m3] {c r Y : Int} (s : if m1 then (if m2 then (if m3 then c = 0 ∧ r = Y else c = 2) else c = 2) else c = 1) (h1 : m1) (h2 : m2) (h3 : m3) : r = Y ∧ c = 0 := by rw [if_pos h1, if_pos h2, if_pos h3] at s; exact ⟨s.2, s.1⟩
theorem sB1 {m1 Z : Prop} [Decidable m1] {c : Int} (s : if m1 then Z else c = 1) (h1 : ¬ m1) : c = 1 := by rw [if_neg h1] at s; exact s
theorem sB2 {m1 m2 Z : Prop} [Decidable m1] [Decidable m2] {c : Int} (s : if m1 then (if m2 then Z else c = 2) else c = 1) (h1 : m1) (h2 : ¬ m2) : c = 2 := by rw [if_pos h1, if_neg h2] at s; exact s
theorem sB3 {m1 m2 m3 Z : Prop} [Decidable m1] [Decidable m2] [Decidable m3] {c : Int} (s : if m1 then (if m2 then (if m3 then Z else c = 2) else c = 2) else c = 1) (h1 : m1) (h2 : ¬ (m2 ∧ m3)) : c = 2 := by
  rw [if_pos h1] at s
  by_cases c2 : m2
  · rw [if_pos c2, if_neg (fun c3 => h2 ⟨c2, c3⟩)] at s; exact s
  · rw [if_neg c2] at s; exact s
end SEM
