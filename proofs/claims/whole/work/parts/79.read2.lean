/-! PAIRS OF CALLS THAT READ, and write into rows of work. -/
section SRE
variable {t : Nat} {G : z_G} {q : Nat} {A : Nat → Nat} {o1 o2 : Nat} {κ : c_K} {σ : z_S}
theorem vW_K {W0 W M : z_M} {hh : List (Nat × Nat × Nat × Nat)} {xs : List Value} {d1 mc ms d2 : Nat} {E1 : String} {EE : String → Prop} {P : Prop} {X : Int} {Ψ : String → Prop} {S : Int → Int → z_S → Prop} {Kp : c_K → Prop} (_h : jJ t κ σ)
    (hu : ∀ (H : z_H) (fs : List Value) (φ1 : Option Value → z_H → Prop) (ψ1 : String → z_H → Prop), H q = some (z_ob 7 fs) → z_T G W0 (.ref q :: xs) H d1 mc ms φ1 ψ1 → (∀ v h', φ1 v h' → ∃ (r : Int) (f : Int → Int), v = some (z_i r) ∧ (-2147483648 ≤ r ∧ r ≤ 2147483647) ∧ h' o1 = some (z_la 1 f)) → (∀ E h', ψ1 E h' → EE E) → z_TH G W hh (.ref q :: (xs ++ [.ref o1])) H (d1 + 1) mc ms (u_P o1 E1 φ1 ψ1))
    (hd : d1 ≤ 19 ∧ mc ≤ 60 ∧ ms ≤ 3000 ∧ d2 ≤ 20)
    (hw : ∀ (B : Nat → Int → Nat) (h : z_H), cJ B κ → cB κ → cV κ → cS κ → z_T G W0 (.ref (B 0 0) :: xs) (cH (z_dc G) B κ h) d1 mc ms (fun v h' => P ∧ v = some (z_i X) ∧ ∃ κ', Kp κ' ∧ h' = cH (z_dc G) B κ' h) (fun E h' => h' = cH (z_dc G) B κ h ∧ Ψ E))
    (hK : (cV κ ∧ cS κ) → ∀ κ', Kp κ' → (∀ t i, cL κ' t i ↔ cL κ t i) ∧ (cV κ' ∧ cS κ') ∧ ∀ ρ, jJ (t + 1) κ ρ → jJ (t + 1) κ' ρ)
    (hm : mI A → ∀ H : z_H, z_T G M (.ref (A 40) :: xs) (mH A σ H) d2 0 0 (fun v h' => ∃ (c r : Int) (ρ : z_S), v = some (z_i r) ∧ h' = mH A ρ H ∧ S c r ρ) z_no)
    (hEE : ∀ E, Ψ E → EE E)
    (hok : (cV κ ∧ cS κ) → P → ∀ c y ρ, S c y ρ → y = X ∧ ρ 0 0 = 0 ∧ jJ (t + 1) κ ρ)
    (hbad : (cV κ ∧ cS κ) → ∀ E, Ψ E → ∀ c y ρ, S c y ρ → ρ 0 0 = u_cd E1 E ∧ jJ (t + 1) κ ρ) : vW G q A o1 o2 (jJ (t + 1)) κ σ W hh M xs := by
  refine vW_of (cOK := fun κ' x => (cV κ ∧ cS κ) ∧ x = X ∧ P ∧ ∀ ρ, jJ (t + 1) κ ρ → jJ (t + 1) κ' ρ) (cBAD := fun κ' E => (cV κ ∧ cS κ) ∧ κ' = κ ∧ Ψ E) (mS := S) hu hd (fun f g B h hb => ?_) hm (fun κ' E z => hEE E z.2.2) (fun κ' x c y ρ hv z s => ?_) (fun κ' E c y ρ hv z s => ?_)
  · have e0 := hw B h hb.2.1.1 hb.2.1.2.2.b hb.2.1.2.1 hb.2.1.2.2
    rw [hb.1] at e0
    refine e0.mono (fun v h' ⟨p, a, κ', k1, b⟩ => ?_) (fun E h' ⟨b, p⟩ => ⟨κ, by rw [b]; exact hb.zi, hb.2.1.2, rfl, p⟩)
    obtain ⟨l1, l2, l3⟩ := hK hb.2.1.2 κ' k1
    exact ⟨κ', X, a, by rw [b]; exact hb.ze l1 l2, hb.2.1.2, rfl, p, l3⟩
  · obtain ⟨v0, rfl, p, l3⟩ := z
    obtain ⟨a, b, c2⟩ := hok v0 p c y ρ s
    exact ⟨a, b, c2.B, l3 _ c2⟩
  · obtain ⟨v0, rfl, p⟩ := z
    obtain ⟨a, b⟩ := hbad v0 E p c y ρ s
    exact ⟨a, b.B, b⟩
theorem hK_Et : (cV κ ∧ cS κ) → ∀ κ', kEt κ' κ → (∀ t i, cL κ' t i ↔ cL κ t i) ∧ (cV κ' ∧ cS κ') ∧ ∀ ρ, jJ (t + 1) κ ρ → jJ (t + 1) κ' ρ := fun hv _ hE => ⟨kEt_L hE, ⟨kEt_V hE hv.1, hE.2.2.2⟩, fun _ hJ => jJ_Et hv.1 hE hJ⟩
theorem hK_r2 : (cV κ ∧ cS κ) → ∀ κ', (∃ R : Int → Int, (∀ j, -200000 ≤ R j ∧ R j ≤ 200000) ∧ κ' = k_r κ 2 0 R) → (∀ t i, cL κ' t i ↔ cL κ t i) ∧ (cV κ' ∧ cS κ') ∧ ∀ ρ, jJ (t + 1) κ ρ → jJ (t + 1) κ' ρ := fun hv κ' ⟨R, hR, e⟩ => by
  subst e
  exact ⟨cL_r (by decide), ⟨cV_r hv.1 (by decide), cS_r hv.2 (by decide) hR⟩, fun _ hJ => jJ_r2 hv.1 (Or.inl rfl) hJ⟩
theorem hK_r3 : (cV κ ∧ cS κ) → ∀ κ', (∃ R : Int → Int, (∀ j, -1 ≤ R j ∧ R j ≤ 30) ∧ κ' = k_r κ 3 0 R) → (∀ t i, cL κ' t i ↔ cL κ t i) ∧ (cV κ' ∧ cS κ') ∧ ∀ ρ, jJ (t + 1) κ ρ → jJ (t + 1) κ' ρ := fun hv κ' ⟨R, hR, e⟩ => by
  subst e
  exact ⟨cL_r (by decide), ⟨cV_r hv.1 (by decide), cS_r hv.2 (by decide) hR⟩, fun _ hJ => jJ_r2 hv.1 (Or.inr rfl) hJ⟩
theorem mR_to {M : z_M} {xs : List Value} {d2 : Nat} {S : Int → Int → Prop} {H : z_H} (e : z_T G M xs (mH A σ H) d2 0 0 (fun v h' => ∃ c r : Int, v = some (z_i r) ∧ h' = mH A (z_u (z_u σ 0 0 0) 0 0 c) H ∧ S c r) z_no) : z_T G M xs (mH A σ H) d2 0 0 (fun v h' => ∃ (c r : Int) (ρ : z_S), v = some (z_i r) ∧ h' = mH A ρ H ∧ (S c r ∧ ρ = z_u (z_u σ 0 0 0) 0 0 c)) z_no :=
  e.mono (fun _ _ ⟨c, r, a, b, s⟩ => ⟨c, r, _, a, b, s, rfl⟩) (fun _ _ z => z)
theorem rk_to {W0 : z_M} {xs : List Value} {H : z_H} {d mc ms : Nat} {P : Prop} {X : Int} {h : z_H} {B : Nat → Int → Nat} {k : Nat} {Rp : (Int → Int) → Prop} {ψ : String → z_H → Prop} (e : z_T G W0 xs H d mc ms (fun v h' => P ∧ v = some (z_i X) ∧ ∃ R : Int → Int, Rp R ∧ h' = cH (z_dc G) B (k_r κ k 0 R) h) ψ) : z_T G W0 xs H d mc ms (fun v h' => P ∧ v = some (z_i X) ∧ ∃ κ', (∃ R : Int → Int, Rp R ∧ κ' = k_r κ k 0 R) ∧ h' = cH (z_dc G) B κ' h) ψ :=
  e.mono (fun _ _ ⟨p, a, R, r1, r2⟩ => ⟨p, a, _, ⟨R, r1, rfl⟩, r2⟩) (fun _ _ z => z)
theorem s_wouldGain (hG : z_OK G) (hN : z_NC G) (h : jJ t κ σ) : v_18 G q A o1 o2 (jJ (t + 1)) κ σ := by
  have hT : jR κ (z_u σ 0 0 0) := (jJ_x h).1
  have hV := (jJ_x h).V
  have hB := (jJ_x h).B
  intro e re k rk m rm
  refine vW_K h (fun _ _ _ _ hb ht hφ hψ => u_wouldGain hG hN hb ht hφ hψ) (by decide) (fun B h a b c d => q_wouldGain hG a b c d re rk rm) hK_Et (fun hA H => mR_to (p_wouldGain rfl hG hA hB hV ⟨re.1, re.2, rk.1, rk.2, rm.1, rm.2⟩)) (fun E z => z.elim (fun a => Or.inl a.1) (fun a => Or.inr a.1)) (fun hv p c y ρ s => ?_) (fun hv E z c y ρ s => ?_)
  · obtain ⟨s, rfl⟩ := s
    have g1 := (hT.xpr e).mp p.1
    have e30 : κ 30 e k = z_u σ 0 0 0 14 (4 * e + k) := (hT.e (pr_b g1)).1 k p.2.1.1 (by omega)
    have g3 := p.2.2
    rw [e30] at g3
    have a := sO3 s g1 p.2.1 g3
    rw [hT.aPw hV hv.2 g1 p.2.1, e30, ← (hT.xpl hV g1).1]
    refine ⟨a.1, ?_⟩
    obtain ⟨a1, rfl⟩ := a
    exact ⟨z_u_at, jJ_c h (Or.inl rfl)⟩
  · obtain ⟨s, rfl⟩ := s
    rcases z with ⟨rfl, p⟩ | ⟨rfl, p1, p2⟩
    · rw [u_cd1]
      obtain rfl := sB1 s (fun m => p ((hT.xpr e).mpr m))
      exact ⟨z_u_at, jJ_c h (Or.inr (Or.inl rfl))⟩
    · rw [u_cd2 (by decide)]
      have g1 := (hT.xpr e).mp p1
      obtain rfl := sB3 s g1 (fun m => p2 ⟨m.1, by
        have e30 : κ 30 e k = z_u σ 0 0 0 14 (4 * e + k) := (hT.e (pr_b g1)).1 k m.1.1 (by omega)
        rw [e30]
        exact m.2⟩)
      exact ⟨z_u_at, jJ_c h (Or.inr (Or.inr rfl))⟩
theorem s_needed (hG : z_OK G) (hN : z_NC G) (h : jJ t κ σ) : v_19 G q A o1 o2 (jJ (t + 1)) κ σ := by
  have hT : jR κ (z_u σ 0 0 0) := (jJ_x h).1
  have hV := (jJ_x h).V
  have hB := (jJ_x h).B
  intro e re k rk
  refine vW_K h (fun _ _ _ _ hb ht hφ hψ => u_needed hG hN hb ht hφ hψ) (by decide) (fun B h a b c d => q_needed hG a b c d re rk) hK_Et (fun hA H => mR_to (p_needed rfl hG hA hB hV ⟨re.1, re.2, rk.1, rk.2⟩)) (fun E z => z.elim (fun a => Or.inl a.1) (fun a => Or.inr a.1)) (fun hv p c y ρ s => ?_) (fun hv E z c y ρ s => ?_)
  · obtain ⟨s, rfl⟩ := s
    have g1 := (hT.xpr e).mp p.1
    have a := sO2 s g1 p.2
    refine ⟨a.1.trans (hT.aNeeded hV hv.2 g1).symm, ?_⟩
    obtain ⟨a1, rfl⟩ := a
    exact ⟨z_u_at, jJ_c h (Or.inl rfl)⟩
  · obtain ⟨s, rfl⟩ := s
    rcases z with ⟨rfl, p⟩ | ⟨rfl, p1, p2⟩
    · rw [u_cd1]
      obtain rfl := sB1 s (fun m => p ((hT.xpr e).mpr m))
      exact ⟨z_u_at, jJ_c h (Or.inr (Or.inl rfl))⟩
    · rw [u_cd2 (by decide)]
      obtain rfl := sB2 s ((hT.xpr e).mp p1) p2
      exact ⟨z_u_at, jJ_c h (Or.inr (Or.inr rfl))⟩
theorem s_inversions (hG : z_OK G) (hN : z_NC G) (h : jJ t κ σ) : v_45 G q A o1 o2 (jJ (t + 1)) κ σ := by
  have hT : jR κ (z_u σ 0 0 0) := (jJ_x h).1
  have hV := (jJ_x h).V
  have hB := (jJ_x h).B
  intro r rr o ro
  have G1 : ((r = -1 ∨ (0 ≤ r ∧ r < κ 1 0 0 ∧ κ 1 0 0 - 20 ≤ r)) ∧ (o = -1 ∨ (0 ≤ o ∧ o < κ 1 0 0 ∧ κ 1 0 0 - 20 ≤ o))) ↔ ((r = -1 ∨ kp (z_u σ 0 0 0) r) ∧ (o = -1 ∨ kp (z_u σ 0 0 0) o)) := by have a := hT.a.2.1; constructor <;> intro b <;> omega
  refine vW_K h (fun _ _ _ _ hb ht hφ hψ => u_inversions hG hN hb ht hφ hψ) (by decide) (fun B h a b c d => rk_to (q_inversions hG a b c d rr ro)) hK_r3 (fun hA H => mR_to (p_inversions rfl hG hA hB hV ⟨rr.1, rr.2, ro.1, ro.2⟩)) (fun E z => z.1) (fun hv p c y ρ s => ?_) (fun hv E z c y ρ s => ?_)
  · obtain ⟨s, rfl⟩ := s
    have g1 := G1.mp p
    have a := sO1 s g1
    refine ⟨a.1.trans (hT.aInv hV g1.1 g1.2).2.symm, ?_⟩
    obtain ⟨a1, rfl⟩ := a
    exact ⟨z_u_at, jJ_c h (Or.inl rfl)⟩
  · obtain ⟨s, rfl⟩ := s
    obtain ⟨rfl, p⟩ := z
    rw [u_cd1]
    obtain rfl := sB1 s (fun m => p (G1.mpr m))
    exact ⟨z_u_at, jJ_c h (Or.inr (Or.inl rfl))⟩
theorem s_swaps (hG : z_OK G) (hN : z_NC G) (h : jJ t κ σ) : v_46 G q A o1 o2 (jJ (t + 1)) κ σ := by
  have hT : jR κ (z_u σ 0 0 0) := (jJ_x h).1
  have hV := (jJ_x h).V
  have hB := (jJ_x h).B
  intro r rr o ro
  have G1 : ((r = -1 ∨ (0 ≤ r ∧ r < κ 1 0 0 ∧ κ 1 0 0 - 20 ≤ r)) ∧ (o = -1 ∨ (0 ≤ o ∧ o < κ 1 0 0 ∧ κ 1 0 0 - 20 ≤ o))) ↔ ((r = -1 ∨ kp (z_u σ 0 0 0) r) ∧ (o = -1 ∨ kp (z_u σ 0 0 0) o)) := by have a := hT.a.2.1; constructor <;> intro b <;> omega
  refine vW_K h (fun _ _ _ _ hb ht hφ hψ => u_swaps hG hN hb ht hφ hψ) (by decide) (fun B h a b c d => rk_to (q_swaps hG a b c d rr ro)) hK_r3 (fun hA H => mR_to (p_swaps rfl hG hA hB hV ⟨rr.1, rr.2, ro.1, ro.2⟩)) (fun E z => z.1) (fun hv p c y ρ s => ?_) (fun hv E z c y ρ s => ?_)
  · obtain ⟨s, rfl⟩ := s
    have g1 := G1.mp p
    have a := sO1 s g1
    refine ⟨a.1.trans (hT.aSwaps hV g1.1 g1.2).symm, ?_⟩
    obtain ⟨a1, rfl⟩ := a
    exact ⟨z_u_at, jJ_c h (Or.inl rfl)⟩
  · obtain ⟨s, rfl⟩ := s
    obtain ⟨rfl, p⟩ := z
    rw [u_cd1]
    obtain rfl := sB1 s (fun m => p (G1.mpr m))
    exact ⟨z_u_at, jJ_c h (Or.inr (Or.inl rfl))⟩
theorem jJ_31 (h : jJ t κ σ) {R : Int → Int} (hR : ∀ i, -1000000 ≤ R i ∧ R i ≤ 1000000) : jJ t κ (z_ur σ 31 R) :=
  ⟨jR_m (fun m hm => z_ur_ne (fun e => hm (by omega))) h.1, mB_ur h.B hR, h.2.2.1, h.2.2.2.1, h.2.2.2.2.1, h.2.2.2.2.2.1, h.2.2.2.2.2.2.1, h.2.2.2.2.2.2.2.1, h.2.2.2.2.2.2.2.2⟩
theorem s_form (hG : z_OK G) (hN : z_NC G) (h : jJ t κ σ) : v_37 G q A o1 o2 (jJ (t + 1)) κ σ := by
  have hT : jR κ (z_u σ 0 0 0) := (jJ_x h).1
  have hV := (jJ_x h).V
  have hB := (jJ_x h).B
  intro e re k rk n rn
  refine vW_K h (fun _ _ _ _ hb ht hφ hψ => u_form hG hN hb ht hφ hψ) (by decide) (fun B h a b c d => rk_to (q_form hG a b c d re rk rn)) hK_r2 (fun hA H => p_form rfl hG hA hB hV ⟨re.1, re.2, rk.1, rk.2, rn.1, rn.2⟩) (fun E z => z.elim (fun a => Or.inl a.1) (fun a => Or.inr a.1)) (fun hv p c y ρ s => ?_) (fun hv E z c y ρ s => ?_)
  · have g1 := (hT.xpr e).mp p.1
    unfold S_form at s
    rw [if_pos g1, if_pos p.2] at s
    obtain ⟨-, rfl, rfl⟩ := s
    exact ⟨(hT.aForm g1 p.2).symm, (by rw [z_ur_ne (by decide)]; exact z_u_at), (jJ_31 (jJ_x h) (yRw_b hB (fun i => hB 31 i) _)).mono⟩
  · rcases z with ⟨rfl, p⟩ | ⟨rfl, p1, p2⟩
    · rw [u_cd1]
      unfold S_form at s
      rw [if_neg (fun m => p ((hT.xpr e).mpr m))] at s
      obtain ⟨-, rfl⟩ := s
      exact ⟨z_u_at, jJ_c h (Or.inr (Or.inl rfl))⟩
    · rw [u_cd2 (by decide)]
      unfold S_form at s
      rw [if_pos ((hT.xpr e).mp p1), if_neg p2] at s
      obtain ⟨-, rfl⟩ := s
      exact ⟨z_u_at, jJ_c h (Or.inr (Or.inr rfl))⟩
theorem s_inForm (hG : z_OK G) (hN : z_NC G) (h : jJ t κ σ) : v_38 G q A o1 o2 (jJ (t + 1)) κ σ := by
  have hT : jR κ (z_u σ 0 0 0) := (jJ_x h).1
  have hV := (jJ_x h).V
  have hB := (jJ_x h).B
  have hE := (jJ_x h).E
  intro k rk n rn
  have G2 : (0 < κ 24 1 0) ↔ (0 < my (z_u σ 0 0 0)) := by rw [hT.xn1 hV]
  refine vW_K h (fun _ _ _ _ hb ht hφ hψ => u_inForm hG hN hb ht hφ hψ) (by decide) (fun B h a b c d => rk_to (q_inForm hG a b c d rk rn)) hK_r2 (fun hA H => p_inForm rfl hG hA hB hV ⟨rk.1, rk.2, rn.1, rn.2⟩ hE) (fun E z => z.elim (fun a => Or.inl a.1) (fun a => Or.inr a.1)) (fun hv p c y ρ s => ?_) (fun hv E z c y ρ s => ?_)
  · unfold S_inForm at s
    rw [if_pos p.1, if_pos (G2.mp p.2)] at s
    obtain ⟨-, rfl, R, rfl, hR⟩ := s
    exact ⟨(hT.aInForm hV hv.2 (fun e he => hT.aForm he p.1)).symm, (by rw [z_ur_ne (by decide)]; exact z_u_at), (jJ_31 (jJ_x h) hR).mono⟩
  · rcases z with ⟨rfl, p⟩ | ⟨rfl, p1, p2⟩
    · rw [u_cd1]
      unfold S_inForm at s
      rw [if_neg p] at s
      obtain ⟨-, rfl⟩ := s
      exact ⟨z_u_at, jJ_c h (Or.inr (Or.inl rfl))⟩
    · rw [u_cd2 (by decide)]
      unfold S_inForm at s
      rw [if_pos p1, if_neg (fun m => p2 (G2.mpr m))] at s
      obtain ⟨-, rfl⟩ := s
      exact ⟨z_u_at, jJ_c h (Or.inr (Or.inr rfl))⟩
theorem s_errors (hG : z_OK G) (h : jJ t κ σ) : v_49 G q A o1 o2 (jJ (t + 1)) κ σ := by
  have hT : jR κ (z_u σ 0 0 0) := (jJ_x h).1
  have hV := (jJ_x h).V
  have hB := (jJ_x h).B
  refine vD_of (cOK := fun κ' x => jJ (t + 1) κ' (z_u (z_u σ 0 0 0) 0 0 0) ∧ x = 0) (mS := fun c r ρ => S_errors (z_u σ 0 0 0) c r ∧ ρ = z_u (z_u σ 0 0 0) 0 0 c) (d1 := 6) (mc := 0) (ms := 0) (d2 := 1) (by decide) (fun f g B h0 hb => ?_) (fun hA H => mR_to (p_errors rfl hG hA hB hV)) (fun κ' x c y ρ hv z s => ?_)
  · have e0 := q_errors (h := h0) (D := z_dc G) hG hb.2.1.1 hb.2.1.2.2.b hb.2.1.2.1 hb.2.1.2.2
    rw [hb.1] at e0
    refine e0.mono (fun v h' ⟨κ', hE, a, b⟩ => ?_) (fun _ _ z => z)
    have h2 : jR κ' (z_u σ 0 0 0) := (jJ_Et hb.2.1.2.1 hE (jJ_x h)).1
    refine ⟨κ', 0, ?_, by rw [b]; exact hb.ze (kEt_L hE) ⟨kEt_V hE hb.2.1.2.1, hE.2.2.2⟩, jJ_Et hb.2.1.2.1 hE (jJ_c h (Or.inl rfl)), rfl⟩
    have e1 := hT.aWl hV hb.2.1.2.2
    have e2 := h2.aWp hV
    have e3 := h2.aWm hV 0
    have e4 := h2.aWm hV 1
    rw [a, show cWl κ + cWp κ' + cWm κ' 0 + cWm κ' 1 = 0 by omega]
  · obtain ⟨z, rfl⟩ := z
    obtain ⟨⟨rfl, rfl⟩, rfl⟩ := s
    exact ⟨rfl, z⟩
theorem s_meanPoints (hG : z_OK G) (h : jJ t κ σ) : v_47 G q A o1 o2 (jJ (t + 1)) κ σ := by
  have hT : jR κ (z_u σ 0 0 0) := (jJ_x h).1
  have hV := (jJ_x h).V
  have hB := (jJ_x h).B
  intro f g H hS
  obtain ⟨B, h0, rfl, hb⟩ := hS
  have e0 := q_meanPoints (h := h0) (D := z_dc G) hG hb.2.1.1 hb.2.1.2.2.b hb.2.1.2.1 hb.2.1.2.2
  rw [hb.1] at e0
  refine ⟨3, 0, 0, 2, by decide, by decide, by decide, by decide, e0.mono (fun v h1 ⟨a, b⟩ => ?_) (fun _ _ z => z)⟩
  have hS := hb.zi
  subst b
  refine ⟨κ, cMe κ, a, hS, ?_⟩
  have e := p_meanPoints (h := cH (z_dc G) B κ h0) rfl hG hS.zmi hB hV
  rw [hS.zm] at e
  refine e.mono (fun v h2 ⟨a, b⟩ => ?_) (fun _ _ z => z)
  subst b
  exact ⟨_, by rw [a, hT.aMean hV], hS.zw _, (jJ_x h).mono⟩
theorem bf_ok (κ : c_K) (hV : cV κ) (e : Int) : vf_n64 (FP.f2d (cBf κ e)) ∧ (Op.cmpValue (FP.dcmp (FP.f2d (cBf κ e)) (FP.f2d (cBf κ e))) .l).toInt = 0 := by
  have h1 := hV.2.1 1 (by omega) (by omega)
  have h2 := hV.1
  have hn : FP.Core.fIsNaN (cBf κ e) = false := by
    unfold cBf
    split
    · decide +kernel
    · exact z_nf _ (by omega)
  have hd : FP.Core.dIsNaN (FP.f2d (cBf κ e)) = false := by
    rw [show FP.f2d (cBf κ e) = FP.Core.f2d (cBf κ e) from if_neg (by rw [hn]; decide)]
    exact FP.Core.f2d_out hn
  refine ⟨z_n64 hd, ?_⟩
  rw [show FP.dcmp (FP.f2d (cBf κ e)) (FP.f2d (cBf κ e)) = some .eq from FP.Core.dcmp_refl hd]
  rfl
theorem s_beats (hG : z_OK G) (hN : z_NC G) (h : jJ t κ σ) : v_48 G q A o1 o2 (jJ (t + 1)) κ σ := by
  have hT : jR κ (z_u σ 0 0 0) := (jJ_x h).1
  have hV := (jJ_x h).V
  have hB := (jJ_x h).B
  intro e re f g H hS
  have hS0 := hS
  obtain ⟨B, h0, rfl, hb⟩ := hS
  obtain ⟨fs, hq⟩ := hS0.zq1
  have hbf := bf_ok κ hb.2.1.2.1 e
  have e0 := q_beats (h := h0) (D := z_dc G) hG hb.2.1.1 hb.2.1.2.2.b hb.2.1.2.1 hb.2.1.2.2 re
  rw [hb.1] at e0
  refine ⟨6, 1, 6, 4, by decide, by decide, by decide, by decide, z_TH_mono (u_beats (o := o2) hG hN hq e0 (fun v h' ⟨p, a, b⟩ => ⟨cBf κ e, g, a, hbf.1, by rw [b]; exact hS0.zo2⟩) (fun E h' z => z.2.1)) (fun v h1 hP => ?_)⟩
  rcases hP with ⟨r, g1, h2, ⟨p, a, rfl⟩, hr, p4, rfl, rfl⟩ | ⟨E, ⟨rfl, rfl, p⟩, rfl⟩
  · have har : r = cBf κ e := by
      have a1 := Option.some.inj a
      injection a1
    subst har
    have hS2 := hS0.zp2 (fun j => if j = 0 then FP.f2d (cBf κ e) else g1 j)
    refine ⟨κ, _, 0, rfl, hS2, by unfold lsR; omega, ?_⟩
    have em := p_beats (h := z_set (cH (z_dc G) B κ h0) o2 (z_da 1 (fun j => if j = 0 then FP.f2d (cBf κ e) else g1 j))) rfl hG hS2.zmi hB hV re
    rw [hS2.zm] at em
    refine em.mono (fun v h2 ⟨c, r, a, b, s⟩ => ?_) (fun _ _ z => z)
    subst b
    have gp := (hT.xpr e).mp p
    rw [if_pos gp] at s
    obtain ⟨rfl, rfl⟩ := s
    rw [← hT.aBeats hV gp] at a
    exact ⟨_, _, a, hS2.zw _, z_u_at, fun _ => ⟨hbf.1, if_pos rfl, hbf.2⟩, (jJ_c h (Or.inl rfl)).B, jJ_c h (Or.inl rfl)⟩
  · refine ⟨κ, g, u_cd "java/lang/IndexOutOfBoundsException" "java/lang/IndexOutOfBoundsException", rfl, hS0, (u_cd_r _ _).1, ?_⟩
    have em := p_beats (h := cH (z_dc G) B κ h0) rfl hG hS0.zmi hB hV re
    rw [hS0.zm] at em
    refine em.mono (fun v h2 ⟨c, r, a, b, s⟩ => ?_) (fun _ _ z => z)
    subst b
    rw [if_neg (fun z => p ((hT.xpr e).mpr z))] at s
    subst s
    refine ⟨r, _, a, hS0.zw _, by rw [u_cd1]; exact z_u_at, fun z => absurd z (u_cd_r _ _).2, (jJ_c h (Or.inr (Or.inl rfl))).B, jJ_c h (Or.inr (Or.inl rfl))⟩
end SRE
