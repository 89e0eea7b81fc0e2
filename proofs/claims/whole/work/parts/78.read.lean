/-! PAIRS OF CALLS THAT READ (laid by wip/whole/gen/gen78.py). -/
section SRD
variable {t : Nat} {G : z_G} {q : Nat} {A : Nat → Nat} {o1 o2 : Nat} {κ : c_K} {σ : z_S}
theorem s_criterion (hG : z_OK G) (hN : z_NC G) (h : jJ t κ σ) : v_4 G q A o1 o2 (jJ (t + 1)) κ σ := by
  have hT : jR κ (z_u σ 0 0 0) := (jJ_x h).1
  have hV := (jJ_x h).V
  have hB := (jJ_x h).B
  intro e re k rk
  have G2 : (0 ≤ k ∧ k < κ 16 (κ 17 0 0) 0) ↔ (0 ≤ k ∧ k ≤ (z_u σ 0 0 0) 12 0 - 1) := by have a := hT.o.1; constructor <;> intro b <;> omega
  refine vW_R h (fun _ _ _ _ hb ht hφ hψ => u_criterion hG hN hb ht hφ hψ) (by decide) (fun B h a b c d => q_criterion hG a b c d re rk) (fun hA H => p_criterion rfl hG hA hB hV ⟨re.1, re.2, rk.1, rk.2⟩) (fun E z => z.elim (fun a => Or.inl a.1) (fun a => Or.inr a.1)) (fun hv p c y s => ?_) (fun hv E z c y s => ?_)
  · have p1 := p.1
    have p2 := p.2
    have g1 := (hT.xpr e).mp p1
    have g2 := G2.mp p2
    have a := sO2 s g1 g2
    exact ⟨a.1.trans (hT.aCrit g1 ⟨g2.1, by omega, (mV_c hV).2⟩).symm, a.2⟩
  · rcases z with ⟨rfl, p⟩ | ⟨rfl, p1, p2⟩
    · rw [u_cd1]
      exact sB1 s (fun m => p ((hT.xpr e).mpr m))
    · rw [u_cd2 (by decide)]
      exact sB2 s ((hT.xpr e).mp p1) (fun m => p2 (G2.mpr m))
theorem s_scoreOf (hG : z_OK G) (hN : z_NC G) (h : jJ t κ σ) : v_9 G q A o1 o2 (jJ (t + 1)) κ σ := by
  have hT : jR κ (z_u σ 0 0 0) := (jJ_x h).1
  have hV := (jJ_x h).V
  have hB := (jJ_x h).B
  intro e re k rk
  refine vW_R h (fun _ _ _ _ hb ht hφ hψ => u_scoreOf hG hN hb ht hφ hψ) (by decide) (fun B h a b c d => q_scoreOf hG a b c d re rk) (fun hA H => p_scoreOf rfl hG hA hB hV ⟨re.1, re.2, rk.1, rk.2⟩) (fun E z => z.elim (fun a => Or.inl a.1) (fun a => Or.inr a.1)) (fun hv p c y s => ?_) (fun hv E z c y s => ?_)
  · have p1 := p.1
    have p2 := p.2
    have g1 := (hT.xpr e).mp p1
    have g2 := p2
    have a := sO2 s g1 g2
    exact ⟨a.1.trans ((hT.e (pr_b g1)).1 k g2.1 (by omega)).symm, a.2⟩
  · rcases z with ⟨rfl, p⟩ | ⟨rfl, p1, p2⟩
    · rw [u_cd1]
      exact sB1 s (fun m => p ((hT.xpr e).mpr m))
    · rw [u_cd2 (by decide)]
      exact sB2 s ((hT.xpr e).mp p1) (fun m => p2 (m))
theorem s_groupOf (hG : z_OK G) (hN : z_NC G) (h : jJ t κ σ) : v_10 G q A o1 o2 (jJ (t + 1)) κ σ := by
  have hT : jR κ (z_u σ 0 0 0) := (jJ_x h).1
  have hV := (jJ_x h).V
  have hB := (jJ_x h).B
  intro e re
  refine vW_R h (fun _ _ _ _ hb ht hφ hψ => u_groupOf hG hN hb ht hφ hψ) (by decide) (fun B h a b c d => q_groupOf hG a b c d re) (fun hA H => p_groupOf rfl hG hA hB hV re) (fun E z => z.1) (fun hv p1 c y s => ?_) (fun hv E z c y s => ?_)
  · have g1 := (hT.xpr e).mp p1
    have a := sO1 s g1
    exact ⟨a.1.trans ((hT.e (pr_b g1)).2.1).symm, a.2⟩
  · obtain ⟨rfl, p⟩ := z
    rw [u_cd1]
    exact sB1 s (fun m => p ((hT.xpr e).mpr m))
theorem s_at (hG : z_OK G) (hN : z_NC G) (h : jJ t κ σ) : v_12 G q A o1 o2 (jJ (t + 1)) κ σ := by
  have hT : jR κ (z_u σ 0 0 0) := (jJ_x h).1
  have hV := (jJ_x h).V
  have hB := (jJ_x h).B
  intro p rp
  have G1 : (1 ≤ p ∧ p ≤ κ 24 1 0) ↔ (1 ≤ p ∧ p ≤ my (z_u σ 0 0 0)) := by rw [hT.xn1 hV]
  refine vW_R h (fun _ _ _ _ hb ht hφ hψ => u_at hG hN hb ht hφ hψ) (by decide) (fun B h a b c d => q_at hG a b c d rp) (fun hA H => p_at rfl hG hA hB hV rp) (fun E z => z.1) (fun hv p1 c y s => ?_) (fun hv E z c y s => ?_)
  · have g1 := G1.mp p1
    have a := sO1 s g1
    exact ⟨a.1.trans (hT.xat1 hV hv.2 p1).symm, a.2⟩
  · obtain ⟨rfl, p⟩ := z
    rw [u_cd1]
    exact sB1 s (fun m => p (G1.mpr m))
theorem s_place (hG : z_OK G) (hN : z_NC G) (h : jJ t κ σ) : v_13 G q A o1 o2 (jJ (t + 1)) κ σ := by
  have hT : jR κ (z_u σ 0 0 0) := (jJ_x h).1
  have hV := (jJ_x h).V
  have hB := (jJ_x h).B
  intro e re
  refine vW_R h (fun _ _ _ _ hb ht hφ hψ => u_place hG hN hb ht hφ hψ) (by decide) (fun B h a b c d => q_place hG a b c d re) (fun hA H => p_place rfl hG hA hB hV re) (fun E z => z.1) (fun hv p1 c y s => ?_) (fun hv E z c y s => ?_)
  · have g1 := (hT.xpr e).mp p1
    have a := sO1 s g1
    exact ⟨a.1.trans ((hT.xpl hV g1).1.symm).symm, a.2⟩
  · obtain ⟨rfl, p⟩ := z
    rw [u_cd1]
    exact sB1 s (fun m => p ((hT.xpr e).mpr m))
theorem s_rank (hG : z_OK G) (hN : z_NC G) (h : jJ t κ σ) : v_14 G q A o1 o2 (jJ (t + 1)) κ σ := by
  have hT : jR κ (z_u σ 0 0 0) := (jJ_x h).1
  have hV := (jJ_x h).V
  have hB := (jJ_x h).B
  intro e re s_ rs_
  refine vW_R h (fun _ _ _ _ hb ht hφ hψ => u_rank hG hN hb ht hφ hψ) (by decide) (fun B h a b c d => q_rank hG a b c d re rs_) (fun hA H => p_rank rfl hG hA hB hV ⟨re.1, re.2, rs_.1, rs_.2⟩) (fun E z => z.elim (fun a => Or.inl a.1) (fun a => Or.inr a.1)) (fun hv p c y s => ?_) (fun hv E z c y s => ?_)
  · have p1 := p.1
    have p2 := p.2
    have g1 := (hT.xpr e).mp p1
    have g2 := p2
    have a := sO2 s g1 g2
    exact ⟨a.1.trans ((show (if s_ = 0 then sRk κ e else if s_ = 1 then cDn κ e else 2 * sRk κ e + cAl κ e - 1) = (if s_ = 0 then bt (z_u σ 0 0 0) e + 1 else if s_ = 1 then dn (z_u σ 0 0 0) e else tm (z_u σ 0 0 0) e) from by
      rw [hT.xsRk hV hv.2 g1, hT.xcDn hV g1, hT.xcAl hV g1]
      unfold tm
      by_cases c0 : s_ = 0
      · rw [if_pos c0, if_pos c0]
      · rw [if_neg c0, if_neg c0]
        by_cases c1 : s_ = 1
        · rw [if_pos c1, if_pos c1]
        · rw [if_neg c1, if_neg c1]; omega)).symm, a.2⟩
  · rcases z with ⟨rfl, p⟩ | ⟨rfl, p1, p2⟩
    · rw [u_cd1]
      exact sB1 s (fun m => p ((hT.xpr e).mpr m))
    · rw [u_cd2 (by decide)]
      exact sB2 s ((hT.xpr e).mp p1) (fun m => p2 (m))
theorem s_alike (hG : z_OK G) (hN : z_NC G) (h : jJ t κ σ) : v_15 G q A o1 o2 (jJ (t + 1)) κ σ := by
  have hT : jR κ (z_u σ 0 0 0) := (jJ_x h).1
  have hV := (jJ_x h).V
  have hB := (jJ_x h).B
  intro e re
  refine vW_R h (fun _ _ _ _ hb ht hφ hψ => u_alike hG hN hb ht hφ hψ) (by decide) (fun B h a b c d => q_alike hG a b c d re) (fun hA H => p_alike rfl hG hA hB hV re) (fun E z => z.1) (fun hv p1 c y s => ?_) (fun hv E z c y s => ?_)
  · have g1 := (hT.xpr e).mp p1
    have a := sO1 s g1
    exact ⟨a.1.trans (hT.xcAl hV g1).symm, a.2⟩
  · obtain ⟨rfl, p⟩ := z
    rw [u_cd1]
    exact sB1 s (fun m => p ((hT.xpr e).mpr m))
theorem s_between (hG : z_OK G) (hN : z_NC G) (h : jJ t κ σ) : v_24 G q A o1 o2 (jJ (t + 1)) κ σ := by
  have hT : jR κ (z_u σ 0 0 0) := (jJ_x h).1
  have hV := (jJ_x h).V
  have hB := (jJ_x h).B
  intro p rp q rq
  refine vW_R h (fun _ _ _ _ hb ht hφ hψ => u_between hG hN hb ht hφ hψ) (by decide) (fun B h a b c d => q_between hG a b c d rp rq) (fun hA H => p_between rfl hG hA hB hV ⟨rp.1, rp.2, rq.1, rq.2⟩) (fun E z => z.1) (fun hv p1 c y s => ?_) (fun hv E z c y s => ?_)
  · have g1 := p1
    have a := sO1 s g1
    exact ⟨a.1.trans (hT.aBetween hV g1).symm, a.2⟩
  · obtain ⟨rfl, p⟩ := z
    rw [u_cd1]
    exact sB1 s (fun m => p (m))
theorem s_median (hG : z_OK G) (hN : z_NC G) (h : jJ t κ σ) : v_25 G q A o1 o2 (jJ (t + 1)) κ σ := by
  have hT : jR κ (z_u σ 0 0 0) := (jJ_x h).1
  have hV := (jJ_x h).V
  have hB := (jJ_x h).B
  intro b0 rb0
  have rb : (if b0 = 0 then (0 : Int) else 1) = 0 ∨ (if b0 = 0 then (0 : Int) else 1) = 1 := by split <;> omega
  have G1 : (0 < κ 24 1 0) ↔ (0 < my (z_u σ 0 0 0)) := by rw [hT.xn1 hV]
  refine vW_R h (fun _ _ _ _ hb ht hφ hψ => u_median hG hN hb ht hφ hψ) (by decide) (fun B h a b c d => q_median hG a b c d rb) (fun hA H => p_median rfl hG hA hB hV (by omega)) (fun E z => z.1) (fun hv p1 c y s => ?_) (fun hv E z c y s => ?_)
  · have g1 := G1.mp p1
    have a := sO1 s g1
    exact ⟨a.1.trans (hT.aMedian hV g1).symm, a.2⟩
  · obtain ⟨rfl, p⟩ := z
    rw [u_cd1]
    exact sB1 s (fun m => p (G1.mpr m))
theorem s_quantile (hG : z_OK G) (hN : z_NC G) (h : jJ t κ σ) : v_26 G q A o1 o2 (jJ (t + 1)) κ σ := by
  have hT : jR κ (z_u σ 0 0 0) := (jJ_x h).1
  have hV := (jJ_x h).V
  have hB := (jJ_x h).B
  intro p rp q rq
  have G2 : (0 < κ 24 1 0) ↔ (0 < my (z_u σ 0 0 0)) := by rw [hT.xn1 hV]
  refine vW_R h (fun _ _ _ _ hb ht hφ hψ => u_quantile hG hN hb ht hφ hψ) (by decide) (fun B h a b c d => q_quantile hG a b c d rp rq) (fun hA H => p_quantile rfl hG hA hB hV ⟨rp.1, rp.2, rq.1, rq.2⟩) (fun E z => z.elim (fun a => Or.inl a.1) (fun a => Or.inr a.1)) (fun hv p c y s => ?_) (fun hv E z c y s => ?_)
  · have p1 := p.1
    have p2 := p.2
    have g1 := p1
    have g2 := G2.mp p2
    have a := sO2 s g1 g2
    exact ⟨a.1.trans (hT.aQuantile hV g2 g1).symm, a.2⟩
  · rcases z with ⟨rfl, p⟩ | ⟨rfl, p1, p2⟩
    · rw [u_cd1]
      exact sB1 s (fun m => p (m))
    · rw [u_cd2 (by decide)]
      exact sB2 s (p1) (fun m => p2 (G2.mpr m))
theorem s_mayChallenge (hG : z_OK G) (hN : z_NC G) (h : jJ t κ σ) : v_29 G q A o1 o2 (jJ (t + 1)) κ σ := by
  have hT : jR κ (z_u σ 0 0 0) := (jJ_x h).1
  have hV := (jJ_x h).V
  have hB := (jJ_x h).B
  intro e re
  refine vW_R h (fun _ _ _ _ hb ht hφ hψ => u_mayChallenge hG hN hb ht hφ hψ) (by decide) (fun B h a b c d => q_mayChallenge hG a b c d re) (fun hA H => p_mayChallenge rfl hG hA hB hV re) (fun E z => z.1) (fun hv p1 c y s => ?_) (fun hv E z c y s => ?_)
  · have g1 := (hT.xpr e).mp p1
    have a := sO1 s g1
    exact ⟨a.1.trans ((show (if cLp κ e = -1 then 0 else if cLp κ e - 1 < κ 18 0 0 then cLp κ e - 1 else κ 18 0 0) = (if lp (z_u σ 0 0 0) e = -1 then 0 else if lp (z_u σ 0 0 0) e - 1 < (z_u σ 0 0 0) 26 0 then lp (z_u σ 0 0 0) e - 1 else (z_u σ 0 0 0) 26 0) from by rw [hT.aLp, hT.a.2.2.1])).symm, a.2⟩
  · obtain ⟨rfl, p⟩ := z
    rw [u_cd1]
    exact sB1 s (fun m => p ((hT.xpr e).mpr m))
theorem s_ladderAt (hG : z_OK G) (hN : z_NC G) (h : jJ t κ σ) : v_32 G q A o1 o2 (jJ (t + 1)) κ σ := by
  have hT : jR κ (z_u σ 0 0 0) := (jJ_x h).1
  have hV := (jJ_x h).V
  have hB := (jJ_x h).B
  intro p rp
  have G1 : (1 ≤ p ∧ p ≤ κ 24 3 0) ↔ (1 ≤ p ∧ p ≤ (z_u σ 0 0 0) 25 0) := by rw [hT.l.1]
  refine vW_R h (fun _ _ _ _ hb ht hφ hψ => u_ladderAt hG hN hb ht hφ hψ) (by decide) (fun B h a b c d => q_ladderAt hG a b c d rp) (fun hA H => p_ladderAt rfl hG hA hB hV rp) (fun E z => z.1) (fun hv p1 c y s => ?_) (fun hv E z c y s => ?_)
  · have g1 := G1.mp p1
    have a := sO1 s g1
    exact ⟨a.1.trans (hT.aLadderAt hv.2 p1).symm, a.2⟩
  · obtain ⟨rfl, p⟩ := z
    rw [u_cd1]
    exact sB1 s (fun m => p (G1.mpr m))
theorem s_ladderPlace (hG : z_OK G) (hN : z_NC G) (h : jJ t κ σ) : v_33 G q A o1 o2 (jJ (t + 1)) κ σ := by
  have hT : jR κ (z_u σ 0 0 0) := (jJ_x h).1
  have hV := (jJ_x h).V
  have hB := (jJ_x h).B
  intro e re
  refine vW_R h (fun _ _ _ _ hb ht hφ hψ => u_ladderPlace hG hN hb ht hφ hψ) (by decide) (fun B h a b c d => q_ladderPlace hG a b c d re) (fun hA H => p_ladderPlace rfl hG hA hB hV re) (fun E z => z.1) (fun hv p1 c y s => ?_) (fun hv E z c y s => ?_)
  · have g1 := (hT.xpr e).mp p1
    have a := sO1 s g1
    exact ⟨a.1.trans (hT.aLp e).symm, a.2⟩
  · obtain ⟨rfl, p⟩ := z
    rw [u_cd1]
    exact sB1 s (fun m => p ((hT.xpr e).mpr m))
theorem s_gain (hG : z_OK G) (hN : z_NC G) (h : jJ t κ σ) : v_36 G q A o1 o2 (jJ (t + 1)) κ σ := by
  have hT : jR κ (z_u σ 0 0 0) := (jJ_x h).1
  have hV := (jJ_x h).V
  have hB := (jJ_x h).B
  intro e re
  refine vW_R h (fun _ _ _ _ hb ht hφ hψ => u_gain hG hN hb ht hφ hψ) (by decide) (fun B h a b c d => q_gain hG a b c d re) (fun hA H => p_gain rfl hG hA hB hV re) (fun E z => z.1) (fun hv p1 c y s => ?_) (fun hv E z c y s => ?_)
  · have g1 := (hT.xpr e).mp p1
    have a := sO1 s g1
    exact ⟨a.1.trans (((hT.e (pr_b g1)).2.2.2.2.2.1 g1.2.2).1).symm, a.2⟩
  · obtain ⟨rfl, p⟩ := z
    rw [u_cd1]
    exact sB1 s (fun m => p ((hT.xpr e).mpr m))
theorem s_placeThen (hG : z_OK G) (hN : z_NC G) (h : jJ t κ σ) : v_39 G q A o1 o2 (jJ (t + 1)) κ σ := by
  have hT : jR κ (z_u σ 0 0 0) := (jJ_x h).1
  have hV := (jJ_x h).V
  have hB := (jJ_x h).B
  intro r rr e re
  have G1 : (0 ≤ r ∧ r < κ 1 0 0 ∧ κ 1 0 0 - 20 ≤ r) ↔ kp (z_u σ 0 0 0) r := by have a := hT.a.2.1; constructor <;> intro b <;> omega
  refine vW_R h (fun _ _ _ _ hb ht hφ hψ => u_placeThen hG hN hb ht hφ hψ) (by decide) (fun B h a b c d => q_placeThen hG a b c d rr re) (fun hA H => p_placeThen rfl hG hA hB hV ⟨rr.1, rr.2, re.1, re.2⟩) (fun E z => z.elim (fun a => Or.inl a.1) (fun a => Or.inr a.1)) (fun hv p c y s => ?_) (fun hv E z c y s => ?_)
  · have p1 := p.1
    have p2 := p.2
    have g1 := G1.mp p1
    have g2 := p2
    have a := sO2 s g1 g2
    exact ⟨a.1.trans (hT.aPlaceThen g1 g2).symm, a.2⟩
  · rcases z with ⟨rfl, p⟩ | ⟨rfl, p1, p2⟩
    · rw [u_cd1]
      exact sB1 s (fun m => p (G1.mpr m))
    · rw [u_cd2 (by decide)]
      exact sB2 s (G1.mp p1) (fun m => p2 (m))
theorem s_climb (hG : z_OK G) (hN : z_NC G) (h : jJ t κ σ) : v_40 G q A o1 o2 (jJ (t + 1)) κ σ := by
  have hT : jR κ (z_u σ 0 0 0) := (jJ_x h).1
  have hV := (jJ_x h).V
  have hB := (jJ_x h).B
  intro r rr
  have G1 : (0 ≤ r ∧ r < κ 1 0 0 ∧ κ 1 0 0 - 20 ≤ r) ↔ kp (z_u σ 0 0 0) r := by have a := hT.a.2.1; constructor <;> intro b <;> omega
  refine vW_R h (fun _ _ _ _ hb ht hφ hψ => u_climb hG hN hb ht hφ hψ) (by decide) (fun B h a b c d => q_climb hG a b c d rr) (fun hA H => p_climb rfl hG hA hB hV rr) (fun E z => z.1) (fun hv p1 c y s => ?_) (fun hv E z c y s => ?_)
  · have g1 := G1.mp p1
    have a := sO1 s g1
    exact ⟨a.1.trans (hT.aClimb hB hV g1).symm, a.2⟩
  · obtain ⟨rfl, p⟩ := z
    rw [u_cd1]
    exact sB1 s (fun m => p (G1.mpr m))
theorem s_best (hG : z_OK G) (hN : z_NC G) (h : jJ t κ σ) : v_41 G q A o1 o2 (jJ (t + 1)) κ σ := by
  have hT : jR κ (z_u σ 0 0 0) := (jJ_x h).1
  have hV := (jJ_x h).V
  have hB := (jJ_x h).B
  intro g rg
  have hE := (jJ_x h).E
  refine vW_R h (fun _ _ _ _ hb ht hφ hψ => u_best hG hN hb ht hφ hψ) (by decide) (fun B h a b c d => q_best hG a b c d rg) (fun hA H => p_best rfl hG hA hB hV rg hE) (fun E z => z.1) (fun hv p1 c y s => ?_) (fun hv E z c y s => ?_)
  · have g1 := p1
    have a := sO1 s g1
    exact ⟨a.1.trans (hT.aBest hV hv.2 g).symm, a.2⟩
  · obtain ⟨rfl, p⟩ := z
    rw [u_cd1]
    exact sB1 s (fun m => p (m))
theorem s_members (hG : z_OK G) (hN : z_NC G) (h : jJ t κ σ) : v_42 G q A o1 o2 (jJ (t + 1)) κ σ := by
  have hT : jR κ (z_u σ 0 0 0) := (jJ_x h).1
  have hV := (jJ_x h).V
  have hB := (jJ_x h).B
  intro g rg
  refine vW_R h (fun _ _ _ _ hb ht hφ hψ => u_members hG hN hb ht hφ hψ) (by decide) (fun B h a b c d => q_members hG a b c d rg) (fun hA H => p_members rfl hG hA hB hV rg) (fun E z => z.1) (fun hv p1 c y s => ?_) (fun hv E z c y s => ?_)
  · have g1 := p1
    have a := sO1 s g1
    exact ⟨a.1.trans (hT.xcOf hV g).symm, a.2⟩
  · obtain ⟨rfl, p⟩ := z
    rw [u_cd1]
    exact sB1 s (fun m => p (m))
theorem s_teamScore (hG : z_OK G) (hN : z_NC G) (h : jJ t κ σ) : v_43 G q A o1 o2 (jJ (t + 1)) κ σ := by
  have hT : jR κ (z_u σ 0 0 0) := (jJ_x h).1
  have hV := (jJ_x h).V
  have hB := (jJ_x h).B
  intro g rg
  have hE := (jJ_x h).E
  refine vW_R h (fun _ _ _ _ hb ht hφ hψ => u_teamScore hG hN hb ht hφ hψ) (by decide) (fun B h a b c d => q_teamScore hG a b c d rg) (fun hA H => p_teamScore rfl hG hA hB hV rg hE) (fun E z => z.1) (fun hv p1 c y s => ?_) (fun hv E z c y s => ?_)
  · have g1 := p1
    have a := sO1 s g1
    exact ⟨a.1.trans (hT.aTs hV g).symm, a.2⟩
  · obtain ⟨rfl, p⟩ := z
    rw [u_cd1]
    exact sB1 s (fun m => p (m))
theorem s_errorPosition (hG : z_OK G) (h : jJ t κ σ) : v_3 G q A o1 o2 (jJ (t + 1)) κ σ := by
  have hT : jR κ (z_u σ 0 0 0) := (jJ_x h).1
  have hV := (jJ_x h).V
  have hB := (jJ_x h).B
  exact vD_R h (by decide) (fun B h a b c d => q_errorPosition hG a b c d) (fun hA H => p_errorPosition rfl hG hA hB hV) (fun hv c y s => ⟨s.1, s.2.trans (hT.a.1).symm⟩)
theorem s_entrants (hG : z_OK G) (h : jJ t κ σ) : v_11 G q A o1 o2 (jJ (t + 1)) κ σ := by
  have hT : jR κ (z_u σ 0 0 0) := (jJ_x h).1
  have hV := (jJ_x h).V
  have hB := (jJ_x h).B
  exact vD_R h (by decide) (fun B h a b c d => q_entrants hG a b c d) (fun hA H => p_entrants rfl hG hA hB hV) (fun hv c y s => ⟨s.1, s.2.trans (hT.xn1 hV).symm⟩)
theorem s_results (hG : z_OK G) (h : jJ t κ σ) : v_16 G q A o1 o2 (jJ (t + 1)) κ σ := by
  have hT : jR κ (z_u σ 0 0 0) := (jJ_x h).1
  have hV := (jJ_x h).V
  have hB := (jJ_x h).B
  exact vD_R h (by decide) (fun B h a b c d => q_results hG a b c d) (fun hA H => p_results rfl hG hA hB hV) (fun hv c y s => ⟨s.1, s.2.trans (hT.xcRe hV).symm⟩)
theorem s_rankSum (hG : z_OK G) (h : jJ t κ σ) : v_17 G q A o1 o2 (jJ (t + 1)) κ σ := by
  have hT : jR κ (z_u σ 0 0 0) := (jJ_x h).1
  have hV := (jJ_x h).V
  have hB := (jJ_x h).B
  exact vD_R h (by decide) (fun B h a b c d => q_rankSum hG a b c d) (fun hA H => p_rankSum rfl hG hA hB hV) (fun hv c y s => ⟨s.1, s.2.trans (hT.xrSm hV hv.2).symm⟩)
theorem s_above (hG : z_OK G) (h : jJ t κ σ) : v_20 G q A o1 o2 (jJ (t + 1)) κ σ := by
  have hT : jR κ (z_u σ 0 0 0) := (jJ_x h).1
  have hV := (jJ_x h).V
  have hB := (jJ_x h).B
  intro p rp
  exact vD_R h (by decide) (fun B h a b c d => q_above hG a b c d rp) (fun hA H => p_above rfl hG hA hB hV rp) (fun hv c y s => ⟨s.1, s.2.trans (hT.aAbove hV p).symm⟩)
theorem s_with (hG : z_OK G) (h : jJ t κ σ) : v_21 G q A o1 o2 (jJ (t + 1)) κ σ := by
  have hT : jR κ (z_u σ 0 0 0) := (jJ_x h).1
  have hV := (jJ_x h).V
  have hB := (jJ_x h).B
  intro p rp
  exact vD_R h (by decide) (fun B h a b c d => q_with hG a b c d rp) (fun hA H => p_with rfl hG hA hB hV rp) (fun hv c y s => ⟨s.1, s.2.trans (hT.aWith hV p).symm⟩)
theorem s_withAt (hG : z_OK G) (h : jJ t κ σ) : v_22 G q A o1 o2 (jJ (t + 1)) κ σ := by
  have hT : jR κ (z_u σ 0 0 0) := (jJ_x h).1
  have hV := (jJ_x h).V
  have hB := (jJ_x h).B
  intro p rp i ri
  exact vD_R h (by decide) (fun B h a b c d => q_withAt hG a b c d rp ri) (fun hA H => p_withAt rfl hG hA hB hV ⟨rp.1, rp.2, ri.1, ri.2⟩) (fun hv c y s => ⟨s.1, s.2.trans (hT.aWithAt hV hv.2 p i).symm⟩)
theorem s_round (hG : z_OK G) (h : jJ t κ σ) : v_35 G q A o1 o2 (jJ (t + 1)) κ σ := by
  have hT : jR κ (z_u σ 0 0 0) := (jJ_x h).1
  have hV := (jJ_x h).V
  have hB := (jJ_x h).B
  exact vD_R h (by decide) (fun B h a b c d => q_round hG a b c d) (fun hA H => p_round rfl hG hA hB hV) (fun hv c y s => ⟨s.1, s.2.trans (hT.a.2.1).symm⟩)
theorem s_next (hG : z_OK G) (hN : z_NC G) (h : jJ t κ σ) : v_23 G q A o1 o2 (jJ (t + 1)) κ σ := by
  have hT : jR κ (z_u σ 0 0 0) := (jJ_x h).1
  have hV := (jJ_x h).V
  have hB := (jJ_x h).B
  intro p rp
  have hn := hT.aNext hV p
  refine vW_R h (fun _ _ _ _ hb ht hφ hψ => u_next hG hN hb ht hφ hψ) (by decide) (fun B h a b c d => q_next hG a b c d rp) (fun hA H => p_next rfl hG hA hB hV rp) (fun E z => z.1) (fun hv p1 c y s => ?_) (fun hv E z c y s => ?_)
  · unfold S_next at s
    rw [if_neg (hn.1.mp p1)] at s
    exact ⟨s.2.trans (hn.2 p1).symm, s.1⟩
  · obtain ⟨rfl, p2⟩ := z
    rw [u_cd1]
    unfold S_next at s
    by_cases c1 : yNx (z_u σ 0 0 0) p = -1
    · rw [if_pos c1] at s
      exact s
    · exact absurd (hn.1.mpr c1) p2
theorem s_groupAt (hG : z_OK G) (hN : z_NC G) (h : jJ t κ σ) : v_44 G q A o1 o2 (jJ (t + 1)) κ σ := by
  have hT : jR κ (z_u σ 0 0 0) := (jJ_x h).1
  have hV := (jJ_x h).V
  have hB := (jJ_x h).B
  intro p rp
  have hE := (jJ_x h).E
  have hn := hT.aGroupAt hV p
  refine vW_R h (fun _ _ _ _ hb ht hφ hψ => u_groupAt hG hN hb ht hφ hψ) (by decide) (fun B h a b c d => q_groupAt hG a b c d rp) (fun hA H => p_groupAt rfl hG hA hB hV rp hE) (fun E z => z.1) (fun hv p1 c y s => ?_) (fun hv E z c y s => ?_)
  · unfold S_groupAt at s
    rw [if_neg (fun z => p1 (hn.trans z))] at s
    exact ⟨s.2.trans hn.symm, s.1⟩
  · obtain ⟨rfl, p2⟩ := z
    rw [u_cd1]
    unfold S_groupAt at s
    rw [if_pos (hn.symm.trans p2)] at s
    exact s
end SRD
