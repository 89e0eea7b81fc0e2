/-! The class's constructors, over a heap with cells by their addresses (laid by wip/whole/gen/gm38.py). -/
section D7
theorem z_onn {h : z_H} {a e : Nat} {c : va_E} (ha : h a = some c) (he : h e = none) : a ≠ e := fun q => by rw [q, he] at ha; cases ha

theorem k_tape {G : z_G} {h : z_H} (hG : z_OK G) {q : Nat} (hq : h q = some (z_ob 6 [.null, z_i 0])) : z_T G mX6_init [.ref q] h 1 1 100 (fun v h' => v = none ∧ ∃ a, h a = none ∧ h' = z_set (z_set h a (z_ia 100 (fun _ => 0))) q (z_ob 6 [.ref a, z_i 0])) z_no := by
  refine z_T_of hG pX6_init (Nat.le_of_ble_eq_true rfl) (ls0 := [(0, .ref q)]) rfl fun Y hY hg hmc hms hφ hψ => ?_
  subst hg
  refine z_aload hY eX6_init_0 0 rfl ?_
  refine z_objInit hY eX6_init_1 ⟨wOI, wOC⟩ (Nat.le_of_ble_eq_true rfl) ?_
  refine z_aload hY eX6_init_4 0 rfl ?_
  refine z_const hY eX6_init_5 ?_
  refine z_newI (N := 100) hY eX6_init_7 wAI (by decide) (by rw [hmc, hms]; exact ⟨Nat.le_of_ble_eq_true rfl, Nat.le_of_ble_eq_true rfl⟩) (fun a1 hn1 => ?_)
  have hw2 : q ≠ a1 := z_onn hq hn1
  refine z_putfinal hY rfl eX6_init_9 ((z_set_ne hw2).trans hq) rfl rfl (Nat.le_of_ble_eq_true rfl) ?_
  refine z_heq (show _ = z_set (z_set h a1 (z_ia 100 (fun _ => 0))) q (z_ob 6 [.ref a1, z_i 0]) from rfl) ?_
  exact z_return hY eX6_init_12 rfl (by rw [hφ]; exact ⟨rfl, _, hn1, rfl⟩) (by rw [hmc, hms]; exact ⟨Nat.le_of_ble_eq_true rfl, Nat.le_of_ble_eq_true rfl⟩)
theorem k_reader {G : z_G} {h : z_H} (hG : z_OK G) {q t : Nat} (hq : h q = some (z_ob 3 [.null, z_i 0, z_i 0, z_i 0, z_i 0, z_i 0])) : z_T G mX3_init [.ref q, .ref t] h 1 0 0 (fun v h' => v = none ∧ h' = z_set h q (z_ob 3 [.ref t, z_i 0, z_i 0, z_i 0, z_i 0, z_i 0])) z_no := by
  refine z_T_of hG pX3_init (Nat.le_of_ble_eq_true rfl) (ls0 := [(0, .ref q), (1, .ref t)]) rfl fun Y hY hg hmc hms hφ hψ => ?_
  subst hg
  refine z_aload hY eX3_init_0 0 rfl ?_
  refine z_objInit hY eX3_init_1 ⟨wOI, wOC⟩ (Nat.le_of_ble_eq_true rfl) ?_
  refine z_aload hY eX3_init_4 0 rfl ?_
  refine z_aload hY eX3_init_5 1 rfl ?_
  refine z_putfinal hY rfl eX3_init_6 hq rfl rfl (Nat.le_of_ble_eq_true rfl) ?_
  refine z_heq (show _ = z_set h q (z_ob 3 [.ref t, z_i 0, z_i 0, z_i 0, z_i 0, z_i 0]) from rfl) ?_
  exact z_return hY eX3_init_9 rfl (by rw [hφ]; exact ⟨rfl, rfl⟩) (by rw [hmc, hms]; exact ⟨Nat.le_of_ble_eq_true rfl, Nat.le_of_ble_eq_true rfl⟩)
theorem k_order {G : z_G} {h : z_H} (hG : z_OK G) {q : Nat} (hq : h q = some (z_ob 2 [.null, .null, z_i 0])) : z_T G mX2_init [.ref q] h 1 2 20 (fun v h' => v = none ∧ ∃ a b, h a = none ∧ h b = none ∧ b ≠ a ∧ h' = z_set (z_set (z_set h a (z_ia 16 (fun _ => 0))) b (z_ia 4 (fun _ => 0))) q (z_ob 2 [.ref a, .ref b, z_i 0])) z_no := by
  refine z_T_of hG pX2_init (Nat.le_of_ble_eq_true rfl) (ls0 := [(0, .ref q)]) rfl fun Y hY hg hmc hms hφ hψ => ?_
  subst hg
  refine z_aload hY eX2_init_0 0 rfl ?_
  refine z_objInit hY eX2_init_1 ⟨wOI, wOC⟩ (Nat.le_of_ble_eq_true rfl) ?_
  refine z_aload hY eX2_init_4 0 rfl ?_
  refine z_const hY eX2_init_5 ?_
  refine z_newI (N := 16) hY eX2_init_7 wAI (by decide) (by rw [hmc, hms]; exact ⟨Nat.le_of_ble_eq_true rfl, Nat.le_of_ble_eq_true rfl⟩) (fun a1 hn1 => ?_)
  have hw2 : q ≠ a1 := z_onn hq hn1
  refine z_putfinal hY rfl eX2_init_9 ((z_set_ne hw2).trans hq) rfl rfl (Nat.le_of_ble_eq_true rfl) ?_
  refine z_heq (show _ = z_set (z_set h a1 (z_ia 16 (fun _ => 0))) q (z_ob 2 [.ref a1, .null, z_i 0]) from rfl) ?_
  refine z_aload hY eX2_init_12 0 rfl ?_
  refine z_const hY eX2_init_13 ?_
  refine z_newI (N := 4) hY eX2_init_14 wAI (by decide) (by rw [hmc, hms]; exact ⟨Nat.le_of_ble_eq_true rfl, Nat.le_of_ble_eq_true rfl⟩) (fun a3 hn3 => ?_)
  have hw4 : q ≠ a3 := z_onn z_set_at hn3
  have hw5 : a1 ≠ a3 := z_onn ((z_set_ne (Ne.symm hw2)).trans z_set_at) hn3
  refine z_putfinal hY rfl eX2_init_16 ((z_set_ne hw4).trans z_set_at) rfl rfl (Nat.le_of_ble_eq_true rfl) ?_
  refine z_heq (show _ = z_set (z_set (z_set h a1 (z_ia 16 (fun _ => 0))) a3 (z_ia 4 (fun _ => 0))) q (z_ob 2 [.ref a1, .ref a3, z_i 0]) from by rw [z_set_c (a := q) (b := a3) hw4, z_set_o]; first | done | rfl) ?_
  exact z_return hY eX2_init_19 rfl (by rw [hφ]; exact ⟨rfl, a1, a3, hn1, (z_set_new (z_set_new hn3).2).2, (Ne.symm hw5), rfl⟩) (by rw [hmc, hms]; exact ⟨Nat.le_of_ble_eq_true rfl, Nat.le_of_ble_eq_true rfl⟩)
theorem k_standing {G : z_G} {h : z_H} (hG : z_OK G) {q : Nat} (hq : h q = some (z_ob 5 [.null])) : z_T G mX5_init [.ref q] h 3 1 3 (fun v h' => v = none ∧ ∃ a, h a = none ∧ h' = z_set (z_set h a (z_ob 9 [z_i 0, .ref (z_dc G), z_i 0])) q (z_ob 5 [.ref a])) z_no := by
  refine z_T_of hG pX5_init (Nat.le_of_ble_eq_true rfl) (ls0 := [(0, .ref q)]) rfl fun Y hY hg hmc hms hφ hψ => ?_
  subst hg
  refine z_aload hY eX5_init_0 0 rfl ?_
  refine z_objInit hY eX5_init_1 ⟨wOI, wOC⟩ (Nat.le_of_ble_eq_true rfl) ?_
  refine z_aload hY eX5_init_4 0 rfl ?_
  refine z_new hY eX5_init_5 (by rw [hmc, hms]; exact ⟨Nat.le_of_ble_eq_true rfl, Nat.le_of_ble_eq_true rfl⟩) (fun a1 hn1 => ?_)
  have hw2 : q ≠ a1 := z_onn hq hn1
  refine z_dup hY eX5_init_8 rfl ?_
  refine z_callI (As := []) (b := a1) (rest := [.ref a1, .ref q]) hY eX5_init_9 (al_init hG z_set_at) (by decide) (Nat.le_of_ble_eq_true rfl) (by rw [hmc, hms]; exact ⟨Nat.le_of_ble_eq_true rfl, Nat.le_of_ble_eq_true rfl⟩) (fun _ _ q => q.elim) (fun vv3 hh3 q3 => ?_)
  obtain ⟨rfl, rfl⟩ := q3
  refine z_heq (show _ = z_set h a1 (z_ob 9 [z_i 0, .ref (z_dc (z_gg Y)), z_i 0]) from z_set_o) ?_
  refine z_putfinal hY rfl eX5_init_12 ((z_set_ne hw2).trans hq) rfl rfl (Nat.le_of_ble_eq_true rfl) ?_
  refine z_heq (show _ = z_set (z_set h a1 (z_ob 9 [z_i 0, .ref (z_dc (z_gg Y)), z_i 0])) q (z_ob 5 [.ref a1]) from rfl) ?_
  exact z_return hY eX5_init_15 rfl (by rw [hφ]; exact ⟨rfl, a1, hn1, rfl⟩) (by rw [hmc, hms]; exact ⟨Nat.le_of_ble_eq_true rfl, Nat.le_of_ble_eq_true rfl⟩)
theorem k_pointsrow {G : z_G} {h : z_H} (hG : z_OK G) {q : Nat} (hq : h q = some (z_ob 4 [.null])) : z_T G mX4_init [.ref q] h 3 1 3 (fun v h' => v = none ∧ ∃ a, h a = none ∧ h' = z_set (z_set h a (z_ob 9 [z_i 0, .ref (z_dc G), z_i 0])) q (z_ob 4 [.ref a])) z_no := by
  refine z_T_of hG pX4_init (Nat.le_of_ble_eq_true rfl) (ls0 := [(0, .ref q)]) rfl fun Y hY hg hmc hms hφ hψ => ?_
  subst hg
  refine z_aload hY eX4_init_0 0 rfl ?_
  refine z_objInit hY eX4_init_1 ⟨wOI, wOC⟩ (Nat.le_of_ble_eq_true rfl) ?_
  refine z_aload hY eX4_init_4 0 rfl ?_
  refine z_new hY eX4_init_5 (by rw [hmc, hms]; exact ⟨Nat.le_of_ble_eq_true rfl, Nat.le_of_ble_eq_true rfl⟩) (fun a1 hn1 => ?_)
  have hw2 : q ≠ a1 := z_onn hq hn1
  refine z_dup hY eX4_init_8 rfl ?_
  refine z_callI (As := []) (b := a1) (rest := [.ref a1, .ref q]) hY eX4_init_9 (al_init hG z_set_at) (by decide) (Nat.le_of_ble_eq_true rfl) (by rw [hmc, hms]; exact ⟨Nat.le_of_ble_eq_true rfl, Nat.le_of_ble_eq_true rfl⟩) (fun _ _ q => q.elim) (fun vv3 hh3 q3 => ?_)
  obtain ⟨rfl, rfl⟩ := q3
  refine z_heq (show _ = z_set h a1 (z_ob 9 [z_i 0, .ref (z_dc (z_gg Y)), z_i 0]) from z_set_o) ?_
  refine z_putfinal hY rfl eX4_init_12 ((z_set_ne hw2).trans hq) rfl rfl (Nat.le_of_ble_eq_true rfl) ?_
  refine z_heq (show _ = z_set (z_set h a1 (z_ob 9 [z_i 0, .ref (z_dc (z_gg Y)), z_i 0])) q (z_ob 4 [.ref a1]) from rfl) ?_
  exact z_return hY eX4_init_15 rfl (by rw [hφ]; exact ⟨rfl, a1, hn1, rfl⟩) (by rw [hmc, hms]; exact ⟨Nat.le_of_ble_eq_true rfl, Nat.le_of_ble_eq_true rfl⟩)
theorem k_ladder {G : z_G} {h : z_H} (hG : z_OK G) {q : Nat} (hq : h q = some (z_ob 1 [.null, z_i 0, z_i 0])) : z_T G mX1_init [.ref q] h 3 1 3 (fun v h' => v = none ∧ ∃ a, h a = none ∧ h' = z_set (z_set h a (z_ob 9 [z_i 0, .ref (z_dc G), z_i 0])) q (z_ob 1 [.ref a, z_i 2, z_i 3])) z_no := by
  refine z_T_of hG pX1_init (Nat.le_of_ble_eq_true rfl) (ls0 := [(0, .ref q)]) rfl fun Y hY hg hmc hms hφ hψ => ?_
  subst hg
  refine z_aload hY eX1_init_0 0 rfl ?_
  refine z_objInit hY eX1_init_1 ⟨wOI, wOC⟩ (Nat.le_of_ble_eq_true rfl) ?_
  refine z_aload hY eX1_init_4 0 rfl ?_
  refine z_new hY eX1_init_5 (by rw [hmc, hms]; exact ⟨Nat.le_of_ble_eq_true rfl, Nat.le_of_ble_eq_true rfl⟩) (fun a1 hn1 => ?_)
  have hw2 : q ≠ a1 := z_onn hq hn1
  refine z_dup hY eX1_init_8 rfl ?_
  refine z_callI (As := []) (b := a1) (rest := [.ref a1, .ref q]) hY eX1_init_9 (al_init hG z_set_at) (by decide) (Nat.le_of_ble_eq_true rfl) (by rw [hmc, hms]; exact ⟨Nat.le_of_ble_eq_true rfl, Nat.le_of_ble_eq_true rfl⟩) (fun _ _ q => q.elim) (fun vv3 hh3 q3 => ?_)
  obtain ⟨rfl, rfl⟩ := q3
  refine z_heq (show _ = z_set h a1 (z_ob 9 [z_i 0, .ref (z_dc (z_gg Y)), z_i 0]) from z_set_o) ?_
  refine z_putfinal hY rfl eX1_init_12 ((z_set_ne hw2).trans hq) rfl rfl (Nat.le_of_ble_eq_true rfl) ?_
  refine z_heq (show _ = z_set (z_set h a1 (z_ob 9 [z_i 0, .ref (z_dc (z_gg Y)), z_i 0])) q (z_ob 1 [.ref a1, z_i 0, z_i 0]) from rfl) ?_
  refine z_aload hY eX1_init_15 0 rfl ?_
  refine z_const hY eX1_init_16 ?_
  refine z_putfield hY eX1_init_17 z_set_at rfl rfl (Nat.le_of_ble_eq_true rfl) ?_
  refine z_heq (show _ = z_set (z_set h a1 (z_ob 9 [z_i 0, .ref (z_dc (z_gg Y)), z_i 0])) q (z_ob 1 [.ref a1, z_i 2, z_i 0]) from z_set_o) ?_
  refine z_aload hY eX1_init_20 0 rfl ?_
  refine z_const hY eX1_init_21 ?_
  refine z_putfield hY eX1_init_22 z_set_at rfl rfl (Nat.le_of_ble_eq_true rfl) ?_
  refine z_heq (show _ = z_set (z_set h a1 (z_ob 9 [z_i 0, .ref (z_dc (z_gg Y)), z_i 0])) q (z_ob 1 [.ref a1, z_i 2, z_i 3]) from z_set_o) ?_
  exact z_return hY eX1_init_25 rfl (by rw [hφ]; exact ⟨rfl, a1, hn1, rfl⟩) (by rw [hmc, hms]; exact ⟨Nat.le_of_ble_eq_true rfl, Nat.le_of_ble_eq_true rfl⟩)
theorem k_entrant {G : z_G} {h : z_H} (hG : z_OK G) {q : Nat} {n g : Int} (hq : h q = some (z_ob 0 [z_i 0, z_i 0, z_i 0, .null, .null, z_i 0, z_i 0, .null, .null, z_i 0, z_i 0])) : z_T G mX0_init [.ref q, z_i n, z_i g] h 1 4 38 (fun v h' => v = none ∧ ∃ a b c k, h a = none ∧ h b = none ∧ h c = none ∧ h k = none ∧ b ≠ a ∧ c ≠ a ∧ c ≠ b ∧ k ≠ a ∧ k ≠ b ∧ k ≠ c ∧ h' = z_set (z_set (z_set (z_set (z_set h a (z_ia 4 (fun _ => 0))) b (z_ia 4 (fun _ => 0))) c (z_ia 10 (fun _ => 0))) k (z_ia 20 (fun j => if 0 ≤ j ∧ j < ((20 : Nat) : Int) then (-1) else (fun _ => 0) j))) q (z_ob 0 [z_i n, z_i g, z_i 1, .ref a, .ref b, z_i (-1), z_i 0, .ref c, .ref k, z_i (-1), z_i (-1)])) z_no := by
  refine z_T_of hG pX0_init (Nat.le_of_ble_eq_true rfl) (ls0 := [(0, .ref q), (1, z_i n), (2, z_i g)]) rfl fun Y hY hg hmc hms hφ hψ => ?_
  subst hg
  refine z_aload hY eX0_init_0 0 rfl ?_
  refine z_objInit hY eX0_init_1 ⟨wOI, wOC⟩ (Nat.le_of_ble_eq_true rfl) ?_
  refine z_aload hY eX0_init_4 0 rfl ?_
  refine z_const hY eX0_init_5 ?_
  refine z_newI (N := 4) hY eX0_init_6 wAI (by decide) (by rw [hmc, hms]; exact ⟨Nat.le_of_ble_eq_true rfl, Nat.le_of_ble_eq_true rfl⟩) (fun a1 hn1 => ?_)
  have hw2 : q ≠ a1 := z_onn hq hn1
  refine z_putfinal hY rfl eX0_init_8 ((z_set_ne hw2).trans hq) rfl rfl (Nat.le_of_ble_eq_true rfl) ?_
  refine z_heq (show _ = z_set (z_set h a1 (z_ia 4 (fun _ => 0))) q (z_ob 0 [z_i 0, z_i 0, z_i 0, .ref a1, .null, z_i 0, z_i 0, .null, .null, z_i 0, z_i 0]) from rfl) ?_
  refine z_aload hY eX0_init_11 0 rfl ?_
  refine z_const hY eX0_init_12 ?_
  refine z_newI (N := 4) hY eX0_init_13 wAI (by decide) (by rw [hmc, hms]; exact ⟨Nat.le_of_ble_eq_true rfl, Nat.le_of_ble_eq_true rfl⟩) (fun a3 hn3 => ?_)
  have hw4 : q ≠ a3 := z_onn z_set_at hn3
  have hw5 : a1 ≠ a3 := z_onn ((z_set_ne (Ne.symm hw2)).trans z_set_at) hn3
  refine z_putfinal hY rfl eX0_init_15 ((z_set_ne hw4).trans z_set_at) rfl rfl (Nat.le_of_ble_eq_true rfl) ?_
  refine z_heq (show _ = z_set (z_set (z_set h a1 (z_ia 4 (fun _ => 0))) a3 (z_ia 4 (fun _ => 0))) q (z_ob 0 [z_i 0, z_i 0, z_i 0, .ref a1, .ref a3, z_i 0, z_i 0, .null, .null, z_i 0, z_i 0]) from by rw [z_set_c (a := q) (b := a3) hw4, z_set_o]; first | done | rfl) ?_
  refine z_aload hY eX0_init_18 0 rfl ?_
  refine z_const hY eX0_init_19 ?_
  refine z_newI (N := 10) hY eX0_init_21 wAI (by decide) (by rw [hmc, hms]; exact ⟨Nat.le_of_ble_eq_true rfl, Nat.le_of_ble_eq_true rfl⟩) (fun a6 hn6 => ?_)
  have hw7 : q ≠ a6 := z_onn z_set_at hn6
  have hw8 : a1 ≠ a6 := z_onn ((z_set_ne (Ne.symm hw2)).trans ((z_set_ne hw5).trans z_set_at)) hn6
  have hw9 : a3 ≠ a6 := z_onn ((z_set_ne (Ne.symm hw4)).trans z_set_at) hn6
  refine z_putfinal hY rfl eX0_init_23 ((z_set_ne hw7).trans z_set_at) rfl rfl (Nat.le_of_ble_eq_true rfl) ?_
  refine z_heq (show _ = z_set (z_set (z_set (z_set h a1 (z_ia 4 (fun _ => 0))) a3 (z_ia 4 (fun _ => 0))) a6 (z_ia 10 (fun _ => 0))) q (z_ob 0 [z_i 0, z_i 0, z_i 0, .ref a1, .ref a3, z_i 0, z_i 0, .ref a6, .null, z_i 0, z_i 0]) from by rw [z_set_c (a := q) (b := a6) hw7, z_set_o]; first | done | rfl) ?_
  refine z_aload hY eX0_init_26 0 rfl ?_
  refine z_const hY eX0_init_27 ?_
  refine z_newI (N := 20) hY eX0_init_29 wAI (by decide) (by rw [hmc, hms]; exact ⟨Nat.le_of_ble_eq_true rfl, Nat.le_of_ble_eq_true rfl⟩) (fun a10 hn10 => ?_)
  have hw11 : q ≠ a10 := z_onn z_set_at hn10
  have hw12 : a1 ≠ a10 := z_onn ((z_set_ne (Ne.symm hw2)).trans ((z_set_ne hw8).trans ((z_set_ne hw5).trans z_set_at))) hn10
  have hw13 : a3 ≠ a10 := z_onn ((z_set_ne (Ne.symm hw4)).trans ((z_set_ne hw9).trans z_set_at)) hn10
  have hw14 : a6 ≠ a10 := z_onn ((z_set_ne (Ne.symm hw7)).trans z_set_at) hn10
  refine z_putfinal hY rfl eX0_init_31 ((z_set_ne hw11).trans z_set_at) rfl rfl (Nat.le_of_ble_eq_true rfl) ?_
  refine z_heq (show _ = z_set (z_set (z_set (z_set (z_set h a1 (z_ia 4 (fun _ => 0))) a3 (z_ia 4 (fun _ => 0))) a6 (z_ia 10 (fun _ => 0))) a10 (z_ia 20 (fun _ => 0))) q (z_ob 0 [z_i 0, z_i 0, z_i 0, .ref a1, .ref a3, z_i 0, z_i 0, .ref a6, .ref a10, z_i 0, z_i 0]) from by rw [z_set_c (a := q) (b := a10) hw11, z_set_o]; first | done | rfl) ?_
  refine z_aload hY eX0_init_34 0 rfl ?_
  refine z_iload hY eX0_init_35 1 rfl ?_
  refine z_putfield hY eX0_init_36 z_set_at rfl rfl (Nat.le_of_ble_eq_true rfl) ?_
  refine z_heq (show _ = z_set (z_set (z_set (z_set (z_set h a1 (z_ia 4 (fun _ => 0))) a3 (z_ia 4 (fun _ => 0))) a6 (z_ia 10 (fun _ => 0))) a10 (z_ia 20 (fun _ => 0))) q (z_ob 0 [z_i n, z_i 0, z_i 0, .ref a1, .ref a3, z_i 0, z_i 0, .ref a6, .ref a10, z_i 0, z_i 0]) from z_set_o) ?_
  refine z_aload hY eX0_init_39 0 rfl ?_
  refine z_iload hY eX0_init_40 2 rfl ?_
  refine z_putfinal hY rfl eX0_init_41 z_set_at rfl rfl (Nat.le_of_ble_eq_true rfl) ?_
  refine z_heq (show _ = z_set (z_set (z_set (z_set (z_set h a1 (z_ia 4 (fun _ => 0))) a3 (z_ia 4 (fun _ => 0))) a6 (z_ia 10 (fun _ => 0))) a10 (z_ia 20 (fun _ => 0))) q (z_ob 0 [z_i n, z_i g, z_i 0, .ref a1, .ref a3, z_i 0, z_i 0, .ref a6, .ref a10, z_i 0, z_i 0]) from z_set_o) ?_
  refine z_aload hY eX0_init_44 0 rfl ?_
  refine z_const hY eX0_init_45 ?_
  refine z_putfield hY eX0_init_46 z_set_at (rfl) rfl (Nat.le_of_ble_eq_true rfl) ?_
  refine z_heq (show _ = z_set (z_set (z_set (z_set (z_set h a1 (z_ia 4 (fun _ => 0))) a3 (z_ia 4 (fun _ => 0))) a6 (z_ia 10 (fun _ => 0))) a10 (z_ia 20 (fun _ => 0))) q (z_ob 0 [z_i n, z_i g, z_i 1, .ref a1, .ref a3, z_i 0, z_i 0, .ref a6, .ref a10, z_i 0, z_i 0]) from z_set_o) ?_
  refine z_aload hY eX0_init_49 0 rfl ?_
  refine z_const hY eX0_init_50 ?_
  refine z_putfield hY eX0_init_51 z_set_at rfl rfl (Nat.le_of_ble_eq_true rfl) ?_
  refine z_heq (show _ = z_set (z_set (z_set (z_set (z_set h a1 (z_ia 4 (fun _ => 0))) a3 (z_ia 4 (fun _ => 0))) a6 (z_ia 10 (fun _ => 0))) a10 (z_ia 20 (fun _ => 0))) q (z_ob 0 [z_i n, z_i g, z_i 1, .ref a1, .ref a3, z_i (-1), z_i 0, .ref a6, .ref a10, z_i 0, z_i 0]) from z_set_o) ?_
  refine z_aload hY eX0_init_54 0 rfl ?_
  refine z_getfield hY eX0_init_55 z_set_at (v := .ref a10) rfl ?_
  refine z_const hY eX0_init_58 ?_
  refine z_callS (As := [.ref a10, z_i (-1)]) (rest := []) hY eX0_init_59 (ar_fill hG ((z_set_ne (Ne.symm hw11)).trans z_set_at) (by decide)) (by decide) (Nat.le_of_ble_eq_true rfl) (by rw [hmc, hms]; omega) (fun _ _ q => q.elim) (fun vv15 hh15 q15 => ?_)
  obtain ⟨rfl, rfl⟩ := q15
  refine z_heq (show _ = z_set (z_set (z_set (z_set (z_set h a1 (z_ia 4 (fun _ => 0))) a3 (z_ia 4 (fun _ => 0))) a6 (z_ia 10 (fun _ => 0))) q (z_ob 0 [z_i n, z_i g, z_i 1, .ref a1, .ref a3, z_i (-1), z_i 0, .ref a6, .ref a10, z_i 0, z_i 0])) a10 (z_ia 20 (fun j => if 0 ≤ j ∧ j < ((20 : Nat) : Int) then (-1) else (fun _ => 0) j)) from by rw [z_set_c (a := a10) (b := q) (Ne.symm hw11), z_set_o]; first | done | rfl) ?_
  refine z_aload hY eX0_init_62 0 rfl ?_
  refine z_const hY eX0_init_63 ?_
  refine z_putfield hY eX0_init_64 ((z_set_ne hw11).trans z_set_at) rfl rfl (Nat.le_of_ble_eq_true rfl) ?_
  refine z_heq (show _ = z_set (z_set (z_set (z_set (z_set h a1 (z_ia 4 (fun _ => 0))) a3 (z_ia 4 (fun _ => 0))) a6 (z_ia 10 (fun _ => 0))) a10 (z_ia 20 (fun j => if 0 ≤ j ∧ j < ((20 : Nat) : Int) then (-1) else (fun _ => 0) j))) q (z_ob 0 [z_i n, z_i g, z_i 1, .ref a1, .ref a3, z_i (-1), z_i 0, .ref a6, .ref a10, z_i (-1), z_i 0]) from by rw [z_set_c (a := q) (b := a10) hw11, z_set_o]; first | done | rfl) ?_
  refine z_aload hY eX0_init_67 0 rfl ?_
  refine z_const hY eX0_init_68 ?_
  refine z_putfield hY eX0_init_69 z_set_at rfl rfl (Nat.le_of_ble_eq_true rfl) ?_
  refine z_heq (show _ = z_set (z_set (z_set (z_set (z_set h a1 (z_ia 4 (fun _ => 0))) a3 (z_ia 4 (fun _ => 0))) a6 (z_ia 10 (fun _ => 0))) a10 (z_ia 20 (fun j => if 0 ≤ j ∧ j < ((20 : Nat) : Int) then (-1) else (fun _ => 0) j))) q (z_ob 0 [z_i n, z_i g, z_i 1, .ref a1, .ref a3, z_i (-1), z_i 0, .ref a6, .ref a10, z_i (-1), z_i (-1)]) from z_set_o) ?_
  exact z_return hY eX0_init_72 rfl (by rw [hφ]; exact ⟨rfl, a1, a3, a6, a10, hn1, (z_set_new (z_set_new hn3).2).2, (z_set_new (z_set_new (z_set_new hn6).2).2).2, (z_set_new (z_set_new (z_set_new (z_set_new hn10).2).2).2).2, (Ne.symm hw5), (Ne.symm hw8), (Ne.symm hw9), (Ne.symm hw12), (Ne.symm hw13), (Ne.symm hw14), rfl⟩) (by rw [hmc, hms]; exact ⟨Nat.le_of_ble_eq_true rfl, Nat.le_of_ble_eq_true rfl⟩)
theorem k_begin {G : z_G} {h : z_H} (hG : z_OK G) {q f s : Nat} (hq : h q = some (z_ob 2 [.ref f, .ref s, z_i 0])) (hs : h s = some (z_ia 4 (fun _ => 0))) (hne : q ≠ s) : z_T G mX2_begin [.ref q, z_i 0, z_i 1] h 1 0 0 (fun v h' => v = none ∧ h' = z_set (z_set h s (z_ia 4 (z_up (fun _ => 0) 0 1))) q (z_ob 2 [.ref f, .ref s, z_i 1])) z_no := by
  refine z_T_of hG pX2_begin (Nat.le_of_ble_eq_true rfl) (ls0 := [(0, .ref q), (1, z_i 0), (2, z_i 1)]) rfl fun Y hY hg hmc hms hφ hψ => ?_
  subst hg
  refine z_aload hY eX2_begin_0 0 rfl ?_
  refine z_iload hY eX2_begin_1 1 rfl ?_
  refine z_callVr (As := [z_i 0]) (rest := []) (r := z_i (z_bl (0 ≤ (0 : Int) ∧ (0 : Int) < 4))) hY eX2_begin_2 (o_isCriterion hG (by decide)) hq (by decide) (Nat.le_of_ble_eq_true rfl) (by rw [hmc, hms]; exact ⟨Nat.le_of_ble_eq_true rfl, Nat.le_of_ble_eq_true rfl⟩) ?_
  refine z_ifeqb hY eX2_begin_5 (fun c5 => ?_) (fun c5 => ?_)
  · exact z_return hY eX2_begin_22 rfl (by rw [hφ]; first | (exfalso; omega) | exact ⟨rfl, rfl⟩) (by rw [hmc, hms]; exact ⟨Nat.le_of_ble_eq_true rfl, Nat.le_of_ble_eq_true rfl⟩)
  · refine z_aload hY eX2_begin_8 0 rfl ?_
    refine z_getfield hY eX2_begin_9 hq (v := .ref s) rfl ?_
    refine z_iload hY eX2_begin_12 1 rfl ?_
    refine z_iload hY eX2_begin_13 2 rfl ?_
    refine z_iastore hY eX2_begin_14 hs (by omega) ?_
    refine z_heq (show _ = z_set h s (z_ia 4 (z_up (fun _ => 0) 0 1)) from rfl) ?_
    refine z_aload hY eX2_begin_15 0 rfl ?_
    refine z_iload hY eX2_begin_16 1 rfl ?_
    refine z_const hY eX2_begin_17 ?_
    refine z_iadd hY eX2_begin_18 ?_
    refine z_top (b := 1) (by omega) ?_
    refine z_putfield hY eX2_begin_19 ((z_set_ne hne).trans hq) rfl rfl (Nat.le_of_ble_eq_true rfl) ?_
    refine z_heq (show _ = z_set (z_set h s (z_ia 4 (z_up (fun _ => 0) 0 1))) q (z_ob 2 [.ref f, .ref s, z_i 1]) from rfl) ?_
    exact z_return hY eX2_begin_22 rfl (by rw [hφ]; first | (exfalso; omega) | exact ⟨rfl, rfl⟩) (by rw [hmc, hms]; exact ⟨Nat.le_of_ble_eq_true rfl, Nat.le_of_ble_eq_true rfl⟩)
theorem k_addTerm {G : z_G} {h : z_H} (hG : z_OK G) {q f s : Nat} {m : Int} (hq : h q = some (z_ob 2 [.ref f, .ref s, z_i m])) (hs : h f = some (z_ia 16 (fun _ => 0))) (hne : q ≠ f) : z_T G mX2_addTerm [.ref q, z_i 0, z_i 0, z_i 1] h 1 0 0 (fun v h' => v = none ∧ h' = z_set h f (z_ia 16 (z_up (fun _ => 0) 0 1))) z_no := by
  refine z_T_of hG pX2_addTerm (Nat.le_of_ble_eq_true rfl) (ls0 := [(0, .ref q), (1, z_i 0), (2, z_i 0), (3, z_i 1)]) rfl fun Y hY hg hmc hms hφ hψ => ?_
  subst hg
  refine z_aload hY eX2_addTerm_0 0 rfl ?_
  refine z_iload hY eX2_addTerm_1 1 rfl ?_
  refine z_callVr (As := [z_i 0]) (rest := []) (r := z_i (z_bl (0 ≤ (0 : Int) ∧ (0 : Int) < 4))) hY eX2_addTerm_2 (o_isCriterion hG (by decide)) hq (by decide) (Nat.le_of_ble_eq_true rfl) (by rw [hmc, hms]; exact ⟨Nat.le_of_ble_eq_true rfl, Nat.le_of_ble_eq_true rfl⟩) ?_
  refine z_ifeqb hY eX2_addTerm_5 (fun c5 => ?_) (fun c5 => ?_)
  · exact z_return hY eX2_addTerm_31 rfl (by rw [hφ]; first | (exfalso; omega) | exact ⟨rfl, rfl⟩) (by rw [hmc, hms]; exact ⟨Nat.le_of_ble_eq_true rfl, Nat.le_of_ble_eq_true rfl⟩)
  · refine z_iload hY eX2_addTerm_8 2 rfl ?_
    refine z_iflt hY eX2_addTerm_9 (by omega) (fun c => absurd c (by omega)) (fun _ => ?_)
    refine z_iload hY eX2_addTerm_12 2 rfl ?_
    refine z_const hY eX2_addTerm_13 ?_
    refine z_icmpge hY eX2_addTerm_14 (by omega) (fun c => absurd c (by omega)) (fun _ => ?_)
    refine z_aload hY eX2_addTerm_17 0 rfl ?_
    refine z_getfield hY eX2_addTerm_18 hq (v := .ref f) rfl ?_
    refine z_iload hY eX2_addTerm_21 1 rfl ?_
    refine z_const hY eX2_addTerm_22 ?_
    refine z_imul hY eX2_addTerm_23 ?_
    refine z_top (b := 0) (by omega) ?_
    refine z_iload hY eX2_addTerm_24 2 rfl ?_
    refine z_iadd hY eX2_addTerm_25 ?_
    refine z_top (b := 0) (by omega) ?_
    refine z_dup2 hY eX2_addTerm_26 rfl rfl ?_
    refine z_iaload hY eX2_addTerm_27 hs (by omega) ?_
    refine z_top (b := 0) rfl ?_
    refine z_iload hY eX2_addTerm_28 3 rfl ?_
    refine z_iadd hY eX2_addTerm_29 ?_
    refine z_top (b := 1) (by omega) ?_
    refine z_iastore hY eX2_addTerm_30 hs (by omega) ?_
    refine z_heq (show _ = z_set h f (z_ia 16 (z_up (fun _ => 0) 0 1)) from rfl) ?_
    exact z_return hY eX2_addTerm_31 rfl (by rw [hφ]; first | (exfalso; omega) | exact ⟨rfl, rfl⟩) (by rw [hmc, hms]; exact ⟨Nat.le_of_ble_eq_true rfl, Nat.le_of_ble_eq_true rfl⟩)
/-- the class's first state -/
def k0 : c_K := fun k i j => if k = 18 then 2 else if k = 19 then 3 else if k = 0 ∨ k = 34 ∨ k = 37 ∨ k = 39 ∨ k = 40 then -1 else if k = 36 then 1 else if k = 33 then (if 0 ≤ j ∧ j < ((20 : Nat) : Int) then (-1) else (fun _ => 0) j) else if k = 16 then (if i = 0 then 1 else 0) else if k = 12 ∨ k = 14 then (if i = 0 then z_up (fun _ => 0) 0 1 j else 0) else 0
/-- a tag's number -/
def kIx (t : Nat) (i : Int) : Nat := match t with
  | 0 => 0
  | 1 => 1
  | 2 => 2
  | 3 => 3
  | 4 => if i = 0 then 4 else 5
  | 5 => if i = 0 then 6 else 8
  | 6 => if i = 0 then 7 else 9
  | 7 => if i = 0 then 10 else if i = 1 then 14 else if i = 2 then 15 else 16
  | 9 => 11
  | 10 => 12
  | 11 => 13
  | 12 => 17
  | 13 => 18
  | 20 => 19
  | 21 => 20
  | 22 => 21
  | 23 => 22
  | 24 => 23
  | _ => 0
def kTg (n : Nat) : Nat × Int := match n with
  | 0 => (0, 0)
  | 1 => (1, 0)
  | 2 => (2, 0)
  | 3 => (3, 0)
  | 4 => (4, 0)
  | 5 => (4, 1)
  | 6 => (5, 0)
  | 7 => (6, 0)
  | 8 => (5, 1)
  | 9 => (6, 1)
  | 10 => (7, 0)
  | 11 => (9, 0)
  | 12 => (10, 0)
  | 13 => (11, 0)
  | 14 => (7, 1)
  | 15 => (7, 2)
  | 16 => (7, 3)
  | 17 => (12, 0)
  | 18 => (13, 0)
  | 19 => (20, -1)
  | 20 => (21, -1)
  | 21 => (22, -1)
  | 22 => (23, -1)
  | 23 => (24, -1)
  | _ => (0, 0)
def kAd0 (l : List Nat) (t : Nat) (i : Int) : Nat := l.getD (kIx t i) 0
theorem k0_ix {t : Nat} {i : Int} (h : cL k0 t i) : kIx t i < 24 ∧ kTg (kIx t i) = (t, i) := by
  rcases h with ⟨h1, rfl⟩ | ⟨h1, h2, h3⟩ | ⟨rfl, h2, h3⟩ | ⟨h1, h2, h3, h4⟩ | ⟨h1, h2, h3, h4⟩
  · rcases (show t = 0 ∨ t = 1 ∨ t = 2 ∨ t = 3 ∨ t = 9 ∨ t = 10 ∨ t = 11 ∨ t = 12 ∨ t = 13 by omega) with rfl | rfl | rfl | rfl | rfl | rfl | rfl | rfl | rfl <;> exact ⟨by decide, by decide⟩
  · rcases h1 with rfl | rfl | rfl <;> rcases (show i = 0 ∨ i = 1 by omega) with rfl | rfl <;> exact ⟨by decide, by decide⟩
  · rcases (show i = 0 ∨ i = 1 ∨ i = 2 ∨ i = 3 by omega) with rfl | rfl | rfl | rfl <;> exact ⟨by decide, by decide⟩
  · exact absurd (show (0 : Int) < 0 from h4) (by omega)
  · have h5 : i < 0 := h4
    rcases (show t = 20 ∨ t = 21 ∨ t = 22 ∨ t = 23 ∨ t = 24 by omega) with rfl | rfl | rfl | rfl | rfl <;> (have h6 : i = -1 := by omega) <;> subst h6 <;> exact ⟨by decide, by decide⟩
theorem k0_end {D : Nat} {h h' : z_H} {l : List Nat} (hl : l.length = 24) (hn : l.Nodup) (hc : ∀ n : Nat, n < 24 → h' (l.getD n 0) = some (cC D (kAd0 l) k0 (kTg n).1 (kTg n).2)) (ho : ∀ a, a ∉ l → h' a = h a) : cJ (kAd0 l) k0 ∧ h' = cH D (kAd0 l) k0 h := by
  have hgd : ∀ n (hn : n < l.length), l.getD n 0 = l[n] := fun n hn => by
    rw [List.getD_eq_getElem?_getD, List.getElem?_eq_getElem hn]; rfl
  have hJ : cJ (kAd0 l) k0 := fun t i t' i' h1 h2 he => by
    obtain ⟨a1, b1⟩ := k0_ix h1
    obtain ⟨a2, b2⟩ := k0_ix h2
    have e : kIx t i = kIx t' i' := by
      unfold kAd0 at he
      rw [hgd _ (by rw [hl]; exact a1), hgd _ (by rw [hl]; exact a2)] at he
      exact (List.getElem_inj hn).mp he
    rw [e, b2] at b1
    exact ⟨(congrArg Prod.fst b1).symm, (congrArg Prod.snd b1).symm⟩
  refine ⟨hJ, cH_ext hJ (fun t i hL => ?_) (fun a ha => ho a fun hm => ?_)⟩
  · obtain ⟨a1, b1⟩ := k0_ix hL
    have := hc (kIx t i) a1
    rw [b1] at this
    exact this
  · obtain ⟨n, hn1', hn2⟩ := List.getElem_of_mem hm
    have hn1 : n < 24 := by rw [← hl]; exact hn1'
    have hk : cL k0 (kTg n).1 (kTg n).2 ∧ kIx (kTg n).1 (kTg n).2 = n := by
      rcases (show n = 0 ∨ n = 1 ∨ n = 2 ∨ n = 3 ∨ n = 4 ∨ n = 5 ∨ n = 6 ∨ n = 7 ∨ n = 8 ∨ n = 9 ∨ n = 10 ∨ n = 11 ∨ n = 12 ∨ n = 13 ∨ n = 14 ∨ n = 15 ∨ n = 16 ∨ n = 17 ∨ n = 18 ∨ n = 19 ∨ n = 20 ∨ n = 21 ∨ n = 22 ∨ n = 23 by omega) with rfl | rfl | rfl | rfl | rfl | rfl | rfl | rfl | rfl | rfl | rfl | rfl | rfl | rfl | rfl | rfl | rfl | rfl | rfl | rfl | rfl | rfl | rfl | rfl <;> exact ⟨by decide, by decide⟩
    refine ha _ _ hk.1 ?_
    unfold kAd0
    rw [hk.2, hgd n hn1']
    exact hn2
end D7
