/-! THE LAW's OBJECT is made (laid by wip/p53/gen/gl87.py). -/
section LV13
/-- rows made one after another beside the object at p -/
def bJ (Hc X : z_H) (p : Nat) (l : List (Nat × va_E)) : Prop := (∀ e ∈ l, X e.1 = some e.2 ∧ Hc e.1 = none) ∧ (p :: l.map Prod.fst).Nodup ∧ ∀ x, x ∉ l.map Prod.fst → X x = Hc x
theorem bJ_0 {Hc : z_H} {p : Nat} : bJ Hc Hc p [] := ⟨fun e h => (by cases h), (by simp), fun _ _ => rfl⟩
theorem bJ_s {Hc X : z_H} {p a : Nat} {l : List (Nat × va_E)} {c o : va_E} (h : bJ Hc X p l) (hn : z_set X p o a = none) : bJ Hc (z_set X a c) p ((a, c) :: l) ∧ p ≠ a := by
  obtain ⟨hap, hX⟩ := z_set_new hn
  obtain ⟨h1, h2, h3⟩ := h
  have hm : a ∉ l.map Prod.fst := fun q => by
    obtain ⟨e, he, rfl⟩ := List.mem_map.mp q
    rw [(h1 e he).1] at hX
    cases hX
  refine ⟨⟨fun e he => ?_, ?_, fun x hx => ?_⟩, Ne.symm hap⟩
  · rcases List.mem_cons.mp he with rfl | he
    · exact ⟨z_set_at, (h3 a hm).symm.trans hX⟩
    · exact ⟨(z_set_ne (fun q => hm (List.mem_map.mpr ⟨e, he, q⟩))).trans (h1 e he).1, (h1 e he).2⟩
  · obtain ⟨g1, g2⟩ := List.nodup_cons.mp h2
    refine List.nodup_cons.mpr ⟨fun q => ?_, List.nodup_cons.mpr ⟨hm, g2⟩⟩
    rcases List.mem_cons.mp q with q | q
    · exact hap q.symm
    · exact g1 q
  · have hx2 : x ≠ a ∧ x ∉ l.map Prod.fst := ⟨fun q => hx (by rw [q]; exact List.mem_cons_self), fun q => hx (List.mem_cons_of_mem _ q)⟩
    exact (z_set_ne hx2.1).trans (h3 x hx2.2)
/-- the addresses, the latest first: looked, then, gains, played, entered, ladder, isGreater, isThere, row, begun, factor, group, score -/
def lAd (p : Nat) (l : List Nat) (k : Nat) : Nat := match k with
  | 40 => p
  | 20 => l.getD 0 0
  | 13 => l.getD 1 0
  | 12 => l.getD 2 0
  | 11 => l.getD 3 0
  | 10 => l.getD 4 0
  | 9 => l.getD 5 0
  | 8 => l.getD 6 0
  | 7 => l.getD 7 0
  | 6 => l.getD 8 0
  | 5 => l.getD 9 0
  | 4 => l.getD 10 0
  | 3 => l.getD 11 0
  | 2 => l.getD 12 0
  | _ => 0
def lPo (k : Nat) : Nat := match k with
  | 40 => 0
  | 20 => 1
  | 13 => 2
  | 12 => 3
  | 11 => 4
  | 10 => 5
  | 9 => 6
  | 8 => 7
  | 7 => 8
  | 6 => 9
  | 5 => 10
  | 4 => 11
  | 3 => 12
  | 2 => 13
  | _ => 0
def sI : z_S := fun k _ => if k = 17 then 2 else if k = 18 then 3 else 0
theorem sI_b : wB sI := fun k i => by
  by_cases c : k = 17
  · subst c; exact ⟨show (1 : Int) ≤ 2 by decide, show (2 : Int) ≤ 5 by decide⟩
  · by_cases c2 : k = 18
    · subst c2; exact ⟨show (1 : Int) ≤ 3 by decide, show (3 : Int) ≤ 4 by decide⟩
    · have e : sI k i = 0 := (if_neg c).trans (if_neg c2)
      rw [e]
      constructor
      · unfold wLo; split <;> first | omega | exact absurd rfl c | exact absurd rfl c2
      · unfold wHi; split <;> first | omega | exact absurd rfl c | exact absurd rfl c2
theorem lAd_inj {p : Nat} {l : List Nat} (hl : l.length = 13) (hn : (p :: l).Nodup) : lI (lAd p l) := by
  have hp : ∀ k ∈ lK, lPo k < (p :: l).length ∧ lAd p l k = (p :: l).getD (lPo k) 0 := by
    intro k hk
    unfold lK at hk
    simp only [List.mem_cons, List.not_mem_nil, or_false] at hk
    have e : (p :: l).length = 14 := by rw [List.length_cons, hl]
    rw [e]
    rcases hk with rfl | rfl | rfl | rfl | rfl | rfl | rfl | rfl | rfl | rfl | rfl | rfl | rfl | rfl <;> exact ⟨by decide, rfl⟩
  have hpo : ∀ i ∈ lK, ∀ j ∈ lK, lPo i = lPo j → i = j := by decide
  intro i hi j hj e
  obtain ⟨a1, a2⟩ := hp i hi
  obtain ⟨b1, b2⟩ := hp j hj
  rw [a2, b2, List.getD_eq_getElem?_getD, List.getD_eq_getElem?_getD, List.getElem?_eq_getElem a1, List.getElem?_eq_getElem b1] at e
  exact hpo i hi j hj ((List.getElem_inj hn).mp e)
theorem li_end {D q p a2 a3 a4 a5 a6 a7 a8 a9 a10 a11 a12 a13 a20 : Nat} {B : Nat → Int → Nat} {h1 X : z_H} {c : va_E} (hJ : cJ B k0) (hB0 : B 0 0 = q) (hp : ∀ t i, cL k0 t i → B t i ≠ p)
    (hX : bJ (cH D B k0 h1) X p [(a20, z_ia 30 (fun _ => 0)), (a13, z_ia 1200 (fun _ => 0)), (a12, z_ia 1200 (fun _ => 0)), (a11, z_ia 30 (fun _ => 0)), (a10, z_ia 30 (fun _ => 0)), (a9, z_ia 30 (fun _ => 0)), (a8, z_ba 4 (fun _ => 0)), (a7, z_ba 30 (fun _ => 0)), (a6, z_ia 30 (fun _ => 0)), (a5, z_ia 30 (fun _ => 0)), (a4, z_ia 16 (fun _ => 0)), (a3, z_ia 30 (fun _ => 0)), (a2, z_ia 120 (fun _ => 0))])
    (hc : c = z_ob 8 [z_i 0, .ref q, .ref a2, .ref a3, .ref a4, .ref a5, .ref a6, .ref a7, .ref a8, .ref a9, .ref a10, .ref a11, .ref a12, .ref a13, z_i 0, z_i 0, z_i 0, z_i 2, z_i 3, z_i 0, .ref a20]) :
    ∃ A : Nat → Nat, A 40 = p ∧ gXX B k0 A ∧ z_set X p c = gH D B k0 A sI (z_set X p c) := by
  obtain ⟨h1', h2, h3⟩ := hX
  have hlv : ∀ t i, cL k0 t i → B t i ∉ [a20, a13, a12, a11, a10, a9, a8, a7, a6, a5, a4, a3, a2] := fun t i hL hm => by
    have e := cH_at (D := D) (h := h1) hJ hL
    obtain ⟨z, hz, e2⟩ := List.mem_map.mp (show B t i ∈ List.map Prod.fst [(a20, z_ia 30 (fun _ => 0)), (a13, z_ia 1200 (fun _ => 0)), (a12, z_ia 1200 (fun _ => 0)), (a11, z_ia 30 (fun _ => 0)), (a10, z_ia 30 (fun _ => 0)), (a9, z_ia 30 (fun _ => 0)), (a8, z_ba 4 (fun _ => 0)), (a7, z_ba 30 (fun _ => 0)), (a6, z_ia 30 (fun _ => 0)), (a5, z_ia 30 (fun _ => 0)), (a4, z_ia 16 (fun _ => 0)), (a3, z_ia 30 (fun _ => 0)), (a2, z_ia 120 (fun _ => 0))] from hm)
    rw [← e2, (h1' z hz).2] at e
    cases e
  have hA : ∀ k ∈ lK, lAd p [a20, a13, a12, a11, a10, a9, a8, a7, a6, a5, a4, a3, a2] k = p ∨ lAd p [a20, a13, a12, a11, a10, a9, a8, a7, a6, a5, a4, a3, a2] k ∈ [a20, a13, a12, a11, a10, a9, a8, a7, a6, a5, a4, a3, a2] := by
    intro k hk
    unfold lK at hk
    simp only [List.mem_cons, List.not_mem_nil, or_false] at hk
    rcases hk with rfl | rfl | rfl | rfl | rfl | rfl | rfl | rfl | rfl | rfl | rfl | rfl | rfl | rfl <;> simp [lAd]
  refine ⟨lAd p [a20, a13, a12, a11, a10, a9, a8, a7, a6, a5, a4, a3, a2], rfl, ⟨lAd_inj rfl h2, fun k hk t i hL q => ?_⟩, ?_⟩
  · rcases hA k hk with e | e
    · exact hp t i hL (q.trans e)
    · exact hlv t i hL (q ▸ e)
  · have hne : ∀ a, a ∈ [a20, a13, a12, a11, a10, a9, a8, a7, a6, a5, a4, a3, a2] → a ≠ p := fun a ha e => (List.nodup_cons.mp h2).1 (e ▸ ha)
    have hq : ∀ e ∈ [(a20, z_ia 30 (fun _ => 0)), (a13, z_ia 1200 (fun _ => 0)), (a12, z_ia 1200 (fun _ => 0)), (a11, z_ia 30 (fun _ => 0)), (a10, z_ia 30 (fun _ => 0)), (a9, z_ia 30 (fun _ => 0)), (a8, z_ba 4 (fun _ => 0)), (a7, z_ba 30 (fun _ => 0)), (a6, z_ia 30 (fun _ => 0)), (a5, z_ia 30 (fun _ => 0)), (a4, z_ia 16 (fun _ => 0)), (a3, z_ia 30 (fun _ => 0)), (a2, z_ia 120 (fun _ => 0))], z_set X p c e.1 = some e.2 := fun e he => (z_set_ne (hne e.1 (List.mem_map.mpr ⟨e, he, rfl⟩))).trans (h1' e he).1
    have e1 : lH (lAd p [a20, a13, a12, a11, a10, a9, a8, a7, a6, a5, a4, a3, a2]) (B 0 0) sI (z_set X p c) = z_set X p c := by
      refine lHs_id lK fun j hj => ?_
      unfold lK at hj
      simp only [List.mem_cons, List.not_mem_nil, or_false] at hj
      rcases hj with rfl | rfl | rfl | rfl | rfl | rfl | rfl | rfl | rfl | rfl | rfl | rfl | rfl | rfl
      · rw [hB0]; exact z_set_at.trans (congrArg some hc)
      · exact hq (a2, z_ia 120 (fun _ => 0)) (by simp)
      · exact hq (a3, z_ia 30 (fun _ => 0)) (by simp)
      · exact hq (a4, z_ia 16 (fun _ => 0)) (by simp)
      · exact hq (a5, z_ia 30 (fun _ => 0)) (by simp)
      · exact hq (a6, z_ia 30 (fun _ => 0)) (by simp)
      · exact hq (a7, z_ba 30 (fun _ => 0)) (by simp)
      · exact hq (a8, z_ba 4 (fun _ => 0)) (by simp)
      · exact hq (a9, z_ia 30 (fun _ => 0)) (by simp)
      · exact hq (a10, z_ia 30 (fun _ => 0)) (by simp)
      · exact hq (a11, z_ia 30 (fun _ => 0)) (by simp)
      · exact hq (a12, z_ia 1200 (fun _ => 0)) (by simp)
      · exact hq (a13, z_ia 1200 (fun _ => 0)) (by simp)
      · exact hq (a20, z_ia 30 (fun _ => 0)) (by simp)
    unfold gH
    rw [e1]
    refine cH_ext hJ (fun t i hL => ?_) (fun _ _ => rfl)
    rw [z_set_ne (hp t i hL), h3 _ (hlv t i hL)]
    exact cH_at hJ hL

theorem la_init {G : z_G} {h : z_H} (hG : z_OK G) {p : Nat} (hp : h p = some (z_ob 8 [z_i 0, .null, .null, .null, .null, .null, .null, .null, .null, .null, .null, .null, .null, .null, z_i 0, z_i 0, z_i 0, z_i 0, z_i 0, z_i 0, .null])) : z_T G mL_init [.ref p] h 8 60 5000 (fun v h' => v = none ∧ ∃ (B : Nat → Int → Nat) (A : Nat → Nat) (h2 : z_H), A 40 = p ∧ gXX B k0 A ∧ cJ B k0 ∧ h' = gH (z_dc G) B k0 A sI h2) z_no := by
  refine z_T_of hG pL_init (Nat.le_of_ble_eq_true rfl) (ls0 := [(0, .ref p)]) rfl fun Y hY hg hmc hms hφ hψ => ?_
  subst hg
  refine z_aload hY eL_init_0 0 rfl ?_
  refine z_objInit hY eL_init_1 ⟨wOI, wOC⟩ (Nat.le_of_ble_eq_true rfl) ?_
  refine z_aload hY eL_init_4 0 rfl ?_
  refine z_new hY eL_init_5 (by rw [hmc, hms]; exact ⟨Nat.le_of_ble_eq_true rfl, Nat.le_of_ble_eq_true rfl⟩) (fun q hnq => ?_)
  have hpq : p ≠ q := z_onn hp hnq
  refine z_dup hY eL_init_8 rfl ?_
  refine z_callI (As := []) (b := q) (rest := [.ref q, .ref p]) hY eL_init_9 (k_hall2 hG z_set_at) (by decide) (Nat.le_of_ble_eq_true rfl) (by rw [hmc, hms]; exact ⟨Nat.le_of_ble_eq_true rfl, Nat.le_of_ble_eq_true rfl⟩) (fun _ _ q => q.elim) (fun vv1 hh1 q1 => ?_)
  obtain ⟨rfl, B, hJ, hB0, hBn, rfl⟩ := q1
  obtain ⟨h1, hh1⟩ : ∃ h1, h1 = z_set h q (z_ob 7 [.null, .null, .null, .null, z_i 0, .null, .null, .null, .null, z_i 0, .null, .null, .null]) := ⟨_, rfl⟩
  rw [← hh1] at hBn
  refine z_heq (congrArg (fun z => cH (z_dc (z_gg Y)) B k0 z) hh1.symm) ?_
  have hp1 : h1 p = some (z_ob 8 [z_i 0, .null, .null, .null, .null, .null, .null, .null, .null, .null, .null, .null, .null, .null, z_i 0, z_i 0, z_i 0, z_i 0, z_i 0, z_i 0, .null]) := by rw [hh1]; exact (z_set_ne hpq).trans hp
  have hlp : ∀ t i, cL k0 t i → B t i ≠ p := fun t i hL z => by rcases hBn t i hL with c | c; (exact hpq (z.symm.trans c)); (rw [z, hp1] at c; cases c)
  obtain ⟨X0, hX0⟩ : ∃ X, X = cH (z_dc (z_gg Y)) B k0 h1 := ⟨_, rfl⟩
  refine z_heq hX0.symm ?_
  have hb0 : bJ X0 X0 p [] := bJ_0
  refine z_putfinal hY rfl eL_init_12 (by rw [hX0]; exact (cH_no hlp).trans hp1) rfl rfl (Nat.le_of_ble_eq_true rfl) ?_
  refine z_heq (show _ = z_set X0 p (z_ob 8 [z_i 0, .ref q, .null, .null, .null, .null, .null, .null, .null, .null, .null, .null, .null, .null, z_i 0, z_i 0, z_i 0, z_i 0, z_i 0, z_i 0, .null]) from rfl) ?_
  refine z_aload hY eL_init_15 0 rfl ?_
  refine z_const hY eL_init_16 ?_
  refine z_newI (N := 120) hY eL_init_18 wAI (by decide) (by rw [hmc, hms]; exact ⟨Nat.le_of_ble_eq_true rfl, Nat.le_of_ble_eq_true rfl⟩) (fun a2 hn2 => ?_)
  obtain ⟨hb1, hpa2⟩ := bJ_s (c := z_ia 120 (fun _ => 0)) hb0 hn2
  refine z_putfinal hY rfl eL_init_20 ((z_set_ne hpa2).trans z_set_at) rfl rfl (Nat.le_of_ble_eq_true rfl) ?_
  obtain ⟨X1, hX1⟩ : ∃ X, X = z_set X0 a2 (z_ia 120 (fun _ => 0)) := ⟨_, rfl⟩
  rw [← hX1] at hb1
  refine z_heq (show _ = z_set X1 p (z_ob 8 [z_i 0, .ref q, .ref a2, .null, .null, .null, .null, .null, .null, .null, .null, .null, .null, .null, z_i 0, z_i 0, z_i 0, z_i 0, z_i 0, z_i 0, .null]) from by rw [z_set_c (a := p) (b := a2) hpa2, z_set_o, ← hX1]; first | done | rfl) ?_
  refine z_aload hY eL_init_23 0 rfl ?_
  refine z_const hY eL_init_24 ?_
  refine z_newI (N := 30) hY eL_init_26 wAI (by decide) (by rw [hmc, hms]; exact ⟨Nat.le_of_ble_eq_true rfl, Nat.le_of_ble_eq_true rfl⟩) (fun a3 hn3 => ?_)
  obtain ⟨hb2, hpa3⟩ := bJ_s (c := z_ia 30 (fun _ => 0)) hb1 hn3
  refine z_putfinal hY rfl eL_init_28 ((z_set_ne hpa3).trans z_set_at) rfl rfl (Nat.le_of_ble_eq_true rfl) ?_
  obtain ⟨X2, hX2⟩ : ∃ X, X = z_set X1 a3 (z_ia 30 (fun _ => 0)) := ⟨_, rfl⟩
  rw [← hX2] at hb2
  refine z_heq (show _ = z_set X2 p (z_ob 8 [z_i 0, .ref q, .ref a2, .ref a3, .null, .null, .null, .null, .null, .null, .null, .null, .null, .null, z_i 0, z_i 0, z_i 0, z_i 0, z_i 0, z_i 0, .null]) from by rw [z_set_c (a := p) (b := a3) hpa3, z_set_o, ← hX2]; first | done | rfl) ?_
  refine z_aload hY eL_init_31 0 rfl ?_
  refine z_const hY eL_init_32 ?_
  refine z_newI (N := 16) hY eL_init_34 wAI (by decide) (by rw [hmc, hms]; exact ⟨Nat.le_of_ble_eq_true rfl, Nat.le_of_ble_eq_true rfl⟩) (fun a4 hn4 => ?_)
  obtain ⟨hb3, hpa4⟩ := bJ_s (c := z_ia 16 (fun _ => 0)) hb2 hn4
  refine z_putfinal hY rfl eL_init_36 ((z_set_ne hpa4).trans z_set_at) rfl rfl (Nat.le_of_ble_eq_true rfl) ?_
  obtain ⟨X3, hX3⟩ : ∃ X, X = z_set X2 a4 (z_ia 16 (fun _ => 0)) := ⟨_, rfl⟩
  rw [← hX3] at hb3
  refine z_heq (show _ = z_set X3 p (z_ob 8 [z_i 0, .ref q, .ref a2, .ref a3, .ref a4, .null, .null, .null, .null, .null, .null, .null, .null, .null, z_i 0, z_i 0, z_i 0, z_i 0, z_i 0, z_i 0, .null]) from by rw [z_set_c (a := p) (b := a4) hpa4, z_set_o, ← hX3]; first | done | rfl) ?_
  refine z_aload hY eL_init_39 0 rfl ?_
  refine z_const hY eL_init_40 ?_
  refine z_newI (N := 30) hY eL_init_42 wAI (by decide) (by rw [hmc, hms]; exact ⟨Nat.le_of_ble_eq_true rfl, Nat.le_of_ble_eq_true rfl⟩) (fun a5 hn5 => ?_)
  obtain ⟨hb4, hpa5⟩ := bJ_s (c := z_ia 30 (fun _ => 0)) hb3 hn5
  refine z_putfinal hY rfl eL_init_44 ((z_set_ne hpa5).trans z_set_at) rfl rfl (Nat.le_of_ble_eq_true rfl) ?_
  obtain ⟨X4, hX4⟩ : ∃ X, X = z_set X3 a5 (z_ia 30 (fun _ => 0)) := ⟨_, rfl⟩
  rw [← hX4] at hb4
  refine z_heq (show _ = z_set X4 p (z_ob 8 [z_i 0, .ref q, .ref a2, .ref a3, .ref a4, .ref a5, .null, .null, .null, .null, .null, .null, .null, .null, z_i 0, z_i 0, z_i 0, z_i 0, z_i 0, z_i 0, .null]) from by rw [z_set_c (a := p) (b := a5) hpa5, z_set_o, ← hX4]; first | done | rfl) ?_
  refine z_aload hY eL_init_47 0 rfl ?_
  refine z_const hY eL_init_48 ?_
  refine z_newI (N := 30) hY eL_init_50 wAI (by decide) (by rw [hmc, hms]; exact ⟨Nat.le_of_ble_eq_true rfl, Nat.le_of_ble_eq_true rfl⟩) (fun a6 hn6 => ?_)
  obtain ⟨hb5, hpa6⟩ := bJ_s (c := z_ia 30 (fun _ => 0)) hb4 hn6
  refine z_putfinal hY rfl eL_init_52 ((z_set_ne hpa6).trans z_set_at) rfl rfl (Nat.le_of_ble_eq_true rfl) ?_
  obtain ⟨X5, hX5⟩ : ∃ X, X = z_set X4 a6 (z_ia 30 (fun _ => 0)) := ⟨_, rfl⟩
  rw [← hX5] at hb5
  refine z_heq (show _ = z_set X5 p (z_ob 8 [z_i 0, .ref q, .ref a2, .ref a3, .ref a4, .ref a5, .ref a6, .null, .null, .null, .null, .null, .null, .null, z_i 0, z_i 0, z_i 0, z_i 0, z_i 0, z_i 0, .null]) from by rw [z_set_c (a := p) (b := a6) hpa6, z_set_o, ← hX5]; first | done | rfl) ?_
  refine z_aload hY eL_init_55 0 rfl ?_
  refine z_const hY eL_init_56 ?_
  refine z_newZ (N := 30) hY eL_init_58 wAZ (by decide) (by rw [hmc, hms]; exact ⟨Nat.le_of_ble_eq_true rfl, Nat.le_of_ble_eq_true rfl⟩) (fun a7 hn7 => ?_)
  obtain ⟨hb6, hpa7⟩ := bJ_s (c := z_ba 30 (fun _ => 0)) hb5 hn7
  refine z_putfinal hY rfl eL_init_60 ((z_set_ne hpa7).trans z_set_at) rfl rfl (Nat.le_of_ble_eq_true rfl) ?_
  obtain ⟨X6, hX6⟩ : ∃ X, X = z_set X5 a7 (z_ba 30 (fun _ => 0)) := ⟨_, rfl⟩
  rw [← hX6] at hb6
  refine z_heq (show _ = z_set X6 p (z_ob 8 [z_i 0, .ref q, .ref a2, .ref a3, .ref a4, .ref a5, .ref a6, .ref a7, .null, .null, .null, .null, .null, .null, z_i 0, z_i 0, z_i 0, z_i 0, z_i 0, z_i 0, .null]) from by rw [z_set_c (a := p) (b := a7) hpa7, z_set_o, ← hX6]; first | done | rfl) ?_
  refine z_aload hY eL_init_63 0 rfl ?_
  refine z_const hY eL_init_64 ?_
  refine z_newZ (N := 4) hY eL_init_65 wAZ (by decide) (by rw [hmc, hms]; exact ⟨Nat.le_of_ble_eq_true rfl, Nat.le_of_ble_eq_true rfl⟩) (fun a8 hn8 => ?_)
  obtain ⟨hb7, hpa8⟩ := bJ_s (c := z_ba 4 (fun _ => 0)) hb6 hn8
  refine z_putfinal hY rfl eL_init_67 ((z_set_ne hpa8).trans z_set_at) rfl rfl (Nat.le_of_ble_eq_true rfl) ?_
  obtain ⟨X7, hX7⟩ : ∃ X, X = z_set X6 a8 (z_ba 4 (fun _ => 0)) := ⟨_, rfl⟩
  rw [← hX7] at hb7
  refine z_heq (show _ = z_set X7 p (z_ob 8 [z_i 0, .ref q, .ref a2, .ref a3, .ref a4, .ref a5, .ref a6, .ref a7, .ref a8, .null, .null, .null, .null, .null, z_i 0, z_i 0, z_i 0, z_i 0, z_i 0, z_i 0, .null]) from by rw [z_set_c (a := p) (b := a8) hpa8, z_set_o, ← hX7]; first | done | rfl) ?_
  refine z_aload hY eL_init_70 0 rfl ?_
  refine z_const hY eL_init_71 ?_
  refine z_newI (N := 30) hY eL_init_73 wAI (by decide) (by rw [hmc, hms]; exact ⟨Nat.le_of_ble_eq_true rfl, Nat.le_of_ble_eq_true rfl⟩) (fun a9 hn9 => ?_)
  obtain ⟨hb8, hpa9⟩ := bJ_s (c := z_ia 30 (fun _ => 0)) hb7 hn9
  refine z_putfinal hY rfl eL_init_75 ((z_set_ne hpa9).trans z_set_at) rfl rfl (Nat.le_of_ble_eq_true rfl) ?_
  obtain ⟨X8, hX8⟩ : ∃ X, X = z_set X7 a9 (z_ia 30 (fun _ => 0)) := ⟨_, rfl⟩
  rw [← hX8] at hb8
  refine z_heq (show _ = z_set X8 p (z_ob 8 [z_i 0, .ref q, .ref a2, .ref a3, .ref a4, .ref a5, .ref a6, .ref a7, .ref a8, .ref a9, .null, .null, .null, .null, z_i 0, z_i 0, z_i 0, z_i 0, z_i 0, z_i 0, .null]) from by rw [z_set_c (a := p) (b := a9) hpa9, z_set_o, ← hX8]; first | done | rfl) ?_
  refine z_aload hY eL_init_78 0 rfl ?_
  refine z_const hY eL_init_79 ?_
  refine z_newI (N := 30) hY eL_init_81 wAI (by decide) (by rw [hmc, hms]; exact ⟨Nat.le_of_ble_eq_true rfl, Nat.le_of_ble_eq_true rfl⟩) (fun a10 hn10 => ?_)
  obtain ⟨hb9, hpa10⟩ := bJ_s (c := z_ia 30 (fun _ => 0)) hb8 hn10
  refine z_putfinal hY rfl eL_init_83 ((z_set_ne hpa10).trans z_set_at) rfl rfl (Nat.le_of_ble_eq_true rfl) ?_
  obtain ⟨X9, hX9⟩ : ∃ X, X = z_set X8 a10 (z_ia 30 (fun _ => 0)) := ⟨_, rfl⟩
  rw [← hX9] at hb9
  refine z_heq (show _ = z_set X9 p (z_ob 8 [z_i 0, .ref q, .ref a2, .ref a3, .ref a4, .ref a5, .ref a6, .ref a7, .ref a8, .ref a9, .ref a10, .null, .null, .null, z_i 0, z_i 0, z_i 0, z_i 0, z_i 0, z_i 0, .null]) from by rw [z_set_c (a := p) (b := a10) hpa10, z_set_o, ← hX9]; first | done | rfl) ?_
  refine z_aload hY eL_init_86 0 rfl ?_
  refine z_const hY eL_init_87 ?_
  refine z_newI (N := 30) hY eL_init_89 wAI (by decide) (by rw [hmc, hms]; exact ⟨Nat.le_of_ble_eq_true rfl, Nat.le_of_ble_eq_true rfl⟩) (fun a11 hn11 => ?_)
  obtain ⟨hb10, hpa11⟩ := bJ_s (c := z_ia 30 (fun _ => 0)) hb9 hn11
  refine z_putfinal hY rfl eL_init_91 ((z_set_ne hpa11).trans z_set_at) rfl rfl (Nat.le_of_ble_eq_true rfl) ?_
  obtain ⟨X10, hX10⟩ : ∃ X, X = z_set X9 a11 (z_ia 30 (fun _ => 0)) := ⟨_, rfl⟩
  rw [← hX10] at hb10
  refine z_heq (show _ = z_set X10 p (z_ob 8 [z_i 0, .ref q, .ref a2, .ref a3, .ref a4, .ref a5, .ref a6, .ref a7, .ref a8, .ref a9, .ref a10, .ref a11, .null, .null, z_i 0, z_i 0, z_i 0, z_i 0, z_i 0, z_i 0, .null]) from by rw [z_set_c (a := p) (b := a11) hpa11, z_set_o, ← hX10]; first | done | rfl) ?_
  refine z_aload hY eL_init_94 0 rfl ?_
  refine z_const hY eL_init_95 ?_
  refine z_newI (N := 1200) hY eL_init_98 wAI (by decide) (by rw [hmc, hms]; exact ⟨Nat.le_of_ble_eq_true rfl, Nat.le_of_ble_eq_true rfl⟩) (fun a12 hn12 => ?_)
  obtain ⟨hb11, hpa12⟩ := bJ_s (c := z_ia 1200 (fun _ => 0)) hb10 hn12
  refine z_putfinal hY rfl eL_init_100 ((z_set_ne hpa12).trans z_set_at) rfl rfl (Nat.le_of_ble_eq_true rfl) ?_
  obtain ⟨X11, hX11⟩ : ∃ X, X = z_set X10 a12 (z_ia 1200 (fun _ => 0)) := ⟨_, rfl⟩
  rw [← hX11] at hb11
  refine z_heq (show _ = z_set X11 p (z_ob 8 [z_i 0, .ref q, .ref a2, .ref a3, .ref a4, .ref a5, .ref a6, .ref a7, .ref a8, .ref a9, .ref a10, .ref a11, .ref a12, .null, z_i 0, z_i 0, z_i 0, z_i 0, z_i 0, z_i 0, .null]) from by rw [z_set_c (a := p) (b := a12) hpa12, z_set_o, ← hX11]; first | done | rfl) ?_
  refine z_aload hY eL_init_103 0 rfl ?_
  refine z_const hY eL_init_104 ?_
  refine z_newI (N := 1200) hY eL_init_107 wAI (by decide) (by rw [hmc, hms]; exact ⟨Nat.le_of_ble_eq_true rfl, Nat.le_of_ble_eq_true rfl⟩) (fun a13 hn13 => ?_)
  obtain ⟨hb12, hpa13⟩ := bJ_s (c := z_ia 1200 (fun _ => 0)) hb11 hn13
  refine z_putfinal hY rfl eL_init_109 ((z_set_ne hpa13).trans z_set_at) rfl rfl (Nat.le_of_ble_eq_true rfl) ?_
  obtain ⟨X12, hX12⟩ : ∃ X, X = z_set X11 a13 (z_ia 1200 (fun _ => 0)) := ⟨_, rfl⟩
  rw [← hX12] at hb12
  refine z_heq (show _ = z_set X12 p (z_ob 8 [z_i 0, .ref q, .ref a2, .ref a3, .ref a4, .ref a5, .ref a6, .ref a7, .ref a8, .ref a9, .ref a10, .ref a11, .ref a12, .ref a13, z_i 0, z_i 0, z_i 0, z_i 0, z_i 0, z_i 0, .null]) from by rw [z_set_c (a := p) (b := a13) hpa13, z_set_o, ← hX12]; first | done | rfl) ?_
  refine z_aload hY eL_init_112 0 rfl ?_
  refine z_const hY eL_init_113 ?_
  refine z_putfield hY eL_init_114 z_set_at rfl rfl (Nat.le_of_ble_eq_true rfl) ?_
  refine z_heq (show _ = z_set X12 p (z_ob 8 [z_i 0, .ref q, .ref a2, .ref a3, .ref a4, .ref a5, .ref a6, .ref a7, .ref a8, .ref a9, .ref a10, .ref a11, .ref a12, .ref a13, z_i 0, z_i 0, z_i 0, z_i 2, z_i 0, z_i 0, .null]) from by rw [z_set_o]; first | done | rfl) ?_
  refine z_aload hY eL_init_117 0 rfl ?_
  refine z_const hY eL_init_118 ?_
  refine z_putfield hY eL_init_119 z_set_at rfl rfl (Nat.le_of_ble_eq_true rfl) ?_
  refine z_heq (show _ = z_set X12 p (z_ob 8 [z_i 0, .ref q, .ref a2, .ref a3, .ref a4, .ref a5, .ref a6, .ref a7, .ref a8, .ref a9, .ref a10, .ref a11, .ref a12, .ref a13, z_i 0, z_i 0, z_i 0, z_i 2, z_i 3, z_i 0, .null]) from by rw [z_set_o]; first | done | rfl) ?_
  refine z_aload hY eL_init_122 0 rfl ?_
  refine z_const hY eL_init_123 ?_
  refine z_newI (N := 30) hY eL_init_125 wAI (by decide) (by rw [hmc, hms]; exact ⟨Nat.le_of_ble_eq_true rfl, Nat.le_of_ble_eq_true rfl⟩) (fun a20 hn20 => ?_)
  obtain ⟨hb13, hpa20⟩ := bJ_s (c := z_ia 30 (fun _ => 0)) hb12 hn20
  refine z_putfinal hY rfl eL_init_127 ((z_set_ne hpa20).trans z_set_at) rfl rfl (Nat.le_of_ble_eq_true rfl) ?_
  obtain ⟨X13, hX13⟩ : ∃ X, X = z_set X12 a20 (z_ia 30 (fun _ => 0)) := ⟨_, rfl⟩
  rw [← hX13] at hb13
  refine z_heq (show _ = z_set X13 p (z_ob 8 [z_i 0, .ref q, .ref a2, .ref a3, .ref a4, .ref a5, .ref a6, .ref a7, .ref a8, .ref a9, .ref a10, .ref a11, .ref a12, .ref a13, z_i 0, z_i 0, z_i 0, z_i 2, z_i 3, z_i 0, .ref a20]) from by rw [z_set_c (a := p) (b := a20) hpa20, z_set_o, ← hX13]; first | done | rfl) ?_
  rw [hX0] at hb13
  obtain ⟨A, hA, hX, hE⟩ := li_end hJ hB0 hlp hb13 rfl
  exact z_return hY eL_init_130 rfl (by rw [hφ]; exact ⟨rfl, B, A, _, hA, hX, hJ, hE⟩) (by rw [hmc, hms]; exact ⟨Nat.le_of_ble_eq_true rfl, Nat.le_of_ble_eq_true rfl⟩)
theorem gS_first {B : Nat → Int → Nat} {A : Nat → Nat} (hX : gXX B k0 A) (hJ : cJ B k0) : gS 0 0 False B k0 A yI1 sI :=
  ⟨hX, hJ, ⟨k0_V, k0_S⟩, jJ_first, ⟨⟨rfl, rfl, rfl, rfl, rfl⟩, ⟨fun _ _ _ => rfl, fun e e0 e1 => by have : e < 0 := e1; omega, fun _ _ _ => rfl, fun _ _ _ => rfl⟩, ⟨fun i i0 i1 => by have : i < 0 := i1; omega, fun i i0 i1 => by have : i < 0 := i1; omega⟩, fun e r _ _ r0 r1 => by have : r < 0 := r1; omega, fun e r _ _ r0 r1 => by have : r < 0 := r1; omega⟩, sI_b, fun j => ⟨Int.le_refl _, Int.le_refl _⟩, fun q => q.elim, rfl⟩
end LV13
