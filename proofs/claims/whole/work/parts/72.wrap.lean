/-! THE LAW's WRAPPERS: each calls the hall, puts the answer into the row, and says which exception came (laid by wip/whole/gen/gen72.py). -/
section LWR
def u_cd (E1 E : String) : Int := if E = E1 then 1 else 2
theorem u_cd1 {E : String} : u_cd E E = 1 := if_pos rfl
theorem u_cd2 {E1 E : String} (h : E ≠ E1) : u_cd E1 E = 2 := if_neg h
/-- how a wrapper ends: of a method that answers a number, of one that answers a float -/
abbrev u_P (o : Nat) (E1 : String) (φ1 : Option Value → z_H → Prop) (ψ1 : String → z_H → Prop) : Option Value → z_H → Prop := fun v h' => (∃ (r : Int) (f : Int → Int) (h1 : z_H), φ1 (some (z_i r)) h1 ∧ (-2147483648 ≤ r ∧ r ≤ 2147483647) ∧ h1 o = some (z_la 1 f) ∧ v = some (z_i 0) ∧ h' = z_set h1 o (z_la 1 (z_up f 0 r))) ∨ (∃ E, ψ1 E h' ∧ v = some (z_i (u_cd E1 E)))
abbrev u_Pd (o : Nat) (E1 : String) (φ1 : Option Value → z_H → Prop) (ψ1 : String → z_H → Prop) : Option Value → z_H → Prop := fun v h' => (∃ (r : UInt32) (f : Int → UInt64) (h1 : z_H), φ1 (some (.float r)) h1 ∧ vf_n64 (FP.f2d r) ∧ h1 o = some (z_da 1 f) ∧ v = some (z_i 0) ∧ h' = z_set h1 o (z_da 1 (fun j => if j = 0 then FP.f2d r else f j))) ∨ (∃ E, ψ1 E h' ∧ v = some (z_i (u_cd E1 E)))

theorem u_append {G : z_G} {H : z_H} {q o d1 mc ms : Nat} {x0 x1 x2 x3 x4 : Int} {φ1 : Option Value → z_H → Prop} {ψ1 : String → z_H → Prop} {fs : List Value} (hG : z_OK G) (hN : z_NC G) (hb : H q = some (z_ob 7 fs)) (ht : z_T G mX7_append [.ref q, z_i x0, z_i x1, z_i x2, z_i x3, z_i x4] H d1 mc ms φ1 ψ1)
    (hφ : ∀ v h', φ1 v h' → ∃ (r : Int) (f : Int → Int), v = some (z_i r) ∧ (-2147483648 ≤ r ∧ r ≤ 2147483647) ∧ h' o = some (z_la 1 f)) (hψ : ∀ E h', ψ1 E h' → E = "java/lang/IllegalStateException") :
    z_TH G mL_append hL_append [.ref q, z_i x0, z_i x1, z_i x2, z_i x3, z_i x4, .ref o] H (d1 + 1) mc ms (u_P o "java/lang/IllegalStateException" φ1 ψ1) := by
  refine z_TH_of hG pL_append (Nat.le_of_ble_eq_true rfl) rfl (fun Y hY hg hmc hms hφY hψY => ?_)
  refine zt_aload hY eL_append_0 6 rfl ?_
  refine zt_const hY eL_append_2 ?_
  refine zt_aload hY eL_append_3 0 rfl ?_
  refine zt_iload hY eL_append_4 1 rfl ?_
  refine zt_iload hY eL_append_5 2 rfl ?_
  refine zt_iload hY eL_append_6 3 rfl ?_
  refine zt_iload hY eL_append_7 4 rfl ?_
  refine zt_iload hY eL_append_9 5 rfl ?_
  refine zt_callV (M' := mX7_append) (As := [z_i x0, z_i x1, z_i x2, z_i x3, z_i x4]) (rest := [z_i 0, .ref o]) (φ1 := φ1) (ψ1 := ψ1) (d1 := d1) (mc1 := mc) (ms1 := ms) (by rw [hg]; exact hN) hY eL_append_11 (by rw [hg]; exact ht) hb (Nat.lt_succ_self _) (Nat.le_of_ble_eq_true rfl) (by rw [hmc, hms]; omega) (fun E h' hE => ?_) (fun v h' hv => ?_)
  · rcases hψ E h' hE with rfl
    · refine ⟨19, ⟨[], [], ⟨0, 16, 19, 13⟩, rfl, (fun z hz => by cases hz), by decide, by decide, rfl, by decide, kL_13, kc_IllegalState⟩, fun q1 => ?_⟩
      refine zt_astore hY eL_append_19 rfl ?_
      refine zt_const hY eL_append_21 ?_
      refine zt_ireturn hY eL_append_22 rfl ?_ (by rw [hmc, hms]; omega)
      rw [hφY]
      exact Or.inr ⟨_, hE, by rw [u_cd1]⟩
  · obtain ⟨r, f, rfl, hr, ho⟩ := hφ v h' hv
    refine zt_i2l hY eL_append_14 hr ?_
    refine zt_lastore hY eL_append_15 ho (by omega) ?_
    refine zt_goto hY eL_append_16 ?_
    refine zt_const hY eL_append_23 ?_
    refine zt_ireturn hY eL_append_24 rfl ?_ (by rw [hmc, hms]; omega)
    rw [hφY]
    exact Or.inl ⟨r, f, h', hv, hr, ho, rfl, rfl⟩
theorem u_setOrder {G : z_G} {H : z_H} {q o d1 mc ms : Nat} {φ1 : Option Value → z_H → Prop} {ψ1 : String → z_H → Prop} {fs : List Value} (hG : z_OK G) (hN : z_NC G) (hb : H q = some (z_ob 7 fs)) (ht : z_T G mX7_setOrder [.ref q] H d1 mc ms φ1 ψ1)
    (hφ : ∀ v h', φ1 v h' → ∃ (r : Int) (f : Int → Int), v = some (z_i r) ∧ (-2147483648 ≤ r ∧ r ≤ 2147483647) ∧ h' o = some (z_la 1 f)) (hψ : ∀ E h', ψ1 E h' → E = "java/lang/IllegalArgumentException") :
    z_TH G mL_setOrder hL_setOrder [.ref q, .ref o] H (d1 + 1) mc ms (u_P o "java/lang/IllegalArgumentException" φ1 ψ1) := by
  refine z_TH_of hG pL_setOrder (Nat.le_of_ble_eq_true rfl) rfl (fun Y hY hg hmc hms hφY hψY => ?_)
  refine zt_aload hY eL_setOrder_0 1 rfl ?_
  refine zt_const hY eL_setOrder_1 ?_
  refine zt_aload hY eL_setOrder_2 0 rfl ?_
  refine zt_callV (M' := mX7_setOrder) (As := []) (rest := [z_i 0, .ref o]) (φ1 := φ1) (ψ1 := ψ1) (d1 := d1) (mc1 := mc) (ms1 := ms) (by rw [hg]; exact hN) hY eL_setOrder_3 (by rw [hg]; exact ht) hb (Nat.lt_succ_self _) (Nat.le_of_ble_eq_true rfl) (by rw [hmc, hms]; omega) (fun E h' hE => ?_) (fun v h' hv => ?_)
  · rcases hψ E h' hE with rfl
    · refine ⟨11, ⟨[], [], ⟨0, 8, 11, 19⟩, rfl, (fun z hz => by cases hz), by decide, by decide, rfl, by decide, kL_19, kc_IllegalArgument⟩, fun q1 => ?_⟩
      refine zt_astore hY eL_setOrder_11 rfl ?_
      refine zt_const hY eL_setOrder_12 ?_
      refine zt_ireturn hY eL_setOrder_13 rfl ?_ (by rw [hmc, hms]; omega)
      rw [hφY]
      exact Or.inr ⟨_, hE, by rw [u_cd1]⟩
  · obtain ⟨r, f, rfl, hr, ho⟩ := hφ v h' hv
    refine zt_i2l hY eL_setOrder_6 hr ?_
    refine zt_lastore hY eL_setOrder_7 ho (by omega) ?_
    refine zt_goto hY eL_setOrder_8 ?_
    refine zt_const hY eL_setOrder_14 ?_
    refine zt_ireturn hY eL_setOrder_15 rfl ?_ (by rw [hmc, hms]; omega)
    rw [hφY]
    exact Or.inl ⟨r, f, h', hv, hr, ho, rfl, rfl⟩
theorem u_criterion {G : z_G} {H : z_H} {q o d1 mc ms : Nat} {x0 x1 : Int} {φ1 : Option Value → z_H → Prop} {ψ1 : String → z_H → Prop} {fs : List Value} (hG : z_OK G) (hN : z_NC G) (hb : H q = some (z_ob 7 fs)) (ht : z_T G mX7_criterion [.ref q, z_i x0, z_i x1] H d1 mc ms φ1 ψ1)
    (hφ : ∀ v h', φ1 v h' → ∃ (r : Int) (f : Int → Int), v = some (z_i r) ∧ (-2147483648 ≤ r ∧ r ≤ 2147483647) ∧ h' o = some (z_la 1 f)) (hψ : ∀ E h', ψ1 E h' → E = "java/lang/IndexOutOfBoundsException" ∨ E = "java/lang/IllegalArgumentException") :
    z_TH G mL_criterion hL_criterion [.ref q, z_i x0, z_i x1, .ref o] H (d1 + 1) mc ms (u_P o "java/lang/IndexOutOfBoundsException" φ1 ψ1) := by
  refine z_TH_of hG pL_criterion (Nat.le_of_ble_eq_true rfl) rfl (fun Y hY hg hmc hms hφY hψY => ?_)
  refine zt_aload hY eL_criterion_0 3 rfl ?_
  refine zt_const hY eL_criterion_1 ?_
  refine zt_aload hY eL_criterion_2 0 rfl ?_
  refine zt_iload hY eL_criterion_3 1 rfl ?_
  refine zt_iload hY eL_criterion_4 2 rfl ?_
  refine zt_callV (M' := mX7_criterion) (As := [z_i x0, z_i x1]) (rest := [z_i 0, .ref o]) (φ1 := φ1) (ψ1 := ψ1) (d1 := d1) (mc1 := mc) (ms1 := ms) (by rw [hg]; exact hN) hY eL_criterion_5 (by rw [hg]; exact ht) hb (Nat.lt_succ_self _) (Nat.le_of_ble_eq_true rfl) (by rw [hmc, hms]; omega) (fun E h' hE => ?_) (fun v h' hv => ?_)
  · rcases hψ E h' hE with rfl | rfl
    · refine ⟨13, ⟨[], [⟨0, 10, 17, 19⟩], ⟨0, 10, 13, 25⟩, rfl, (fun z hz => by cases hz), by decide, by decide, rfl, by decide, kL_25, kc_IndexOutOfBounds⟩, fun q1 => ?_⟩
      refine zt_astore hY eL_criterion_13 rfl ?_
      refine zt_const hY eL_criterion_15 ?_
      refine zt_ireturn hY eL_criterion_16 rfl ?_ (by rw [hmc, hms]; omega)
      rw [hφY]
      exact Or.inr ⟨_, hE, by rw [u_cd1]⟩
    · refine ⟨17, ⟨[⟨0, 10, 13, 25⟩], [], ⟨0, 10, 17, 19⟩, rfl, (fun z hz => by rw [List.mem_singleton.mp hz]; exact ⟨by decide, "java/lang/IndexOutOfBoundsException", by decide, by decide, kL_25⟩), by decide, by decide, rfl, by decide, kL_19, kc_IllegalArgument⟩, fun q1 => ?_⟩
      refine zt_astore hY eL_criterion_17 rfl ?_
      refine zt_const hY eL_criterion_19 ?_
      refine zt_ireturn hY eL_criterion_20 rfl ?_ (by rw [hmc, hms]; omega)
      rw [hφY]
      exact Or.inr ⟨_, hE, by rw [u_cd2 (by decide)]⟩
  · obtain ⟨r, f, rfl, hr, ho⟩ := hφ v h' hv
    refine zt_i2l hY eL_criterion_8 hr ?_
    refine zt_lastore hY eL_criterion_9 ho (by omega) ?_
    refine zt_goto hY eL_criterion_10 ?_
    refine zt_const hY eL_criterion_21 ?_
    refine zt_ireturn hY eL_criterion_22 rfl ?_ (by rw [hmc, hms]; omega)
    rw [hφY]
    exact Or.inl ⟨r, f, h', hv, hr, ho, rfl, rfl⟩
theorem u_come {G : z_G} {H : z_H} {q o d1 mc ms : Nat} {x0 : Int} {φ1 : Option Value → z_H → Prop} {ψ1 : String → z_H → Prop} {fs : List Value} (hG : z_OK G) (hN : z_NC G) (hb : H q = some (z_ob 7 fs)) (ht : z_T G mX7_come [.ref q, z_i x0] H d1 mc ms φ1 ψ1)
    (hφ : ∀ v h', φ1 v h' → ∃ (r : Int) (f : Int → Int), v = some (z_i r) ∧ (-2147483648 ≤ r ∧ r ≤ 2147483647) ∧ h' o = some (z_la 1 f)) (hψ : ∀ E h', ψ1 E h' → E = "java/lang/IllegalArgumentException" ∨ E = "java/lang/IllegalStateException") :
    z_TH G mL_come hL_come [.ref q, z_i x0, .ref o] H (d1 + 1) mc ms (u_P o "java/lang/IllegalArgumentException" φ1 ψ1) := by
  refine z_TH_of hG pL_come (Nat.le_of_ble_eq_true rfl) rfl (fun Y hY hg hmc hms hφY hψY => ?_)
  refine zt_aload hY eL_come_0 2 rfl ?_
  refine zt_const hY eL_come_1 ?_
  refine zt_aload hY eL_come_2 0 rfl ?_
  refine zt_iload hY eL_come_3 1 rfl ?_
  refine zt_callV (M' := mX7_come) (As := [z_i x0]) (rest := [z_i 0, .ref o]) (φ1 := φ1) (ψ1 := ψ1) (d1 := d1) (mc1 := mc) (ms1 := ms) (by rw [hg]; exact hN) hY eL_come_4 (by rw [hg]; exact ht) hb (Nat.lt_succ_self _) (Nat.le_of_ble_eq_true rfl) (by rw [hmc, hms]; omega) (fun E h' hE => ?_) (fun v h' hv => ?_)
  · rcases hψ E h' hE with rfl | rfl
    · refine ⟨12, ⟨[], [⟨0, 9, 15, 13⟩], ⟨0, 9, 12, 19⟩, rfl, (fun z hz => by cases hz), by decide, by decide, rfl, by decide, kL_19, kc_IllegalArgument⟩, fun q1 => ?_⟩
      refine zt_astore hY eL_come_12 rfl ?_
      refine zt_const hY eL_come_13 ?_
      refine zt_ireturn hY eL_come_14 rfl ?_ (by rw [hmc, hms]; omega)
      rw [hφY]
      exact Or.inr ⟨_, hE, by rw [u_cd1]⟩
    · refine ⟨15, ⟨[⟨0, 9, 12, 19⟩], [], ⟨0, 9, 15, 13⟩, rfl, (fun z hz => by rw [List.mem_singleton.mp hz]; exact ⟨by decide, "java/lang/IllegalArgumentException", by decide, by decide, kL_19⟩), by decide, by decide, rfl, by decide, kL_13, kc_IllegalState⟩, fun q1 => ?_⟩
      refine zt_astore hY eL_come_15 rfl ?_
      refine zt_const hY eL_come_16 ?_
      refine zt_ireturn hY eL_come_17 rfl ?_ (by rw [hmc, hms]; omega)
      rw [hφY]
      exact Or.inr ⟨_, hE, by rw [u_cd2 (by decide)]⟩
  · obtain ⟨r, f, rfl, hr, ho⟩ := hφ v h' hv
    refine zt_i2l hY eL_come_7 hr ?_
    refine zt_lastore hY eL_come_8 ho (by omega) ?_
    refine zt_goto hY eL_come_9 ?_
    refine zt_const hY eL_come_18 ?_
    refine zt_ireturn hY eL_come_19 rfl ?_ (by rw [hmc, hms]; omega)
    rw [hφY]
    exact Or.inl ⟨r, f, h', hv, hr, ho, rfl, rfl⟩
theorem u_leave {G : z_G} {H : z_H} {q o d1 mc ms : Nat} {x0 : Int} {φ1 : Option Value → z_H → Prop} {ψ1 : String → z_H → Prop} {fs : List Value} (hG : z_OK G) (hN : z_NC G) (hb : H q = some (z_ob 7 fs)) (ht : z_T G mX7_leave [.ref q, z_i x0] H d1 mc ms φ1 ψ1)
    (hφ : ∀ v h', φ1 v h' → ∃ (r : Int) (f : Int → Int), v = some (z_i r) ∧ (-2147483648 ≤ r ∧ r ≤ 2147483647) ∧ h' o = some (z_la 1 f)) (hψ : ∀ E h', ψ1 E h' → E = "java/lang/IndexOutOfBoundsException") :
    z_TH G mL_leave hL_leave [.ref q, z_i x0, .ref o] H (d1 + 1) mc ms (u_P o "java/lang/IndexOutOfBoundsException" φ1 ψ1) := by
  refine z_TH_of hG pL_leave (Nat.le_of_ble_eq_true rfl) rfl (fun Y hY hg hmc hms hφY hψY => ?_)
  refine zt_aload hY eL_leave_0 2 rfl ?_
  refine zt_const hY eL_leave_1 ?_
  refine zt_aload hY eL_leave_2 0 rfl ?_
  refine zt_iload hY eL_leave_3 1 rfl ?_
  refine zt_callV (M' := mX7_leave) (As := [z_i x0]) (rest := [z_i 0, .ref o]) (φ1 := φ1) (ψ1 := ψ1) (d1 := d1) (mc1 := mc) (ms1 := ms) (by rw [hg]; exact hN) hY eL_leave_4 (by rw [hg]; exact ht) hb (Nat.lt_succ_self _) (Nat.le_of_ble_eq_true rfl) (by rw [hmc, hms]; omega) (fun E h' hE => ?_) (fun v h' hv => ?_)
  · rcases hψ E h' hE with rfl
    · refine ⟨12, ⟨[], [], ⟨0, 9, 12, 25⟩, rfl, (fun z hz => by cases hz), by decide, by decide, rfl, by decide, kL_25, kc_IndexOutOfBounds⟩, fun q1 => ?_⟩
      refine zt_astore hY eL_leave_12 rfl ?_
      refine zt_const hY eL_leave_13 ?_
      refine zt_ireturn hY eL_leave_14 rfl ?_ (by rw [hmc, hms]; omega)
      rw [hφY]
      exact Or.inr ⟨_, hE, by rw [u_cd1]⟩
  · obtain ⟨r, f, rfl, hr, ho⟩ := hφ v h' hv
    refine zt_i2l hY eL_leave_7 hr ?_
    refine zt_lastore hY eL_leave_8 ho (by omega) ?_
    refine zt_goto hY eL_leave_9 ?_
    refine zt_const hY eL_leave_15 ?_
    refine zt_ireturn hY eL_leave_16 rfl ?_ (by rw [hmc, hms]; omega)
    rw [hφY]
    exact Or.inl ⟨r, f, h', hv, hr, ho, rfl, rfl⟩
theorem u_score {G : z_G} {H : z_H} {q o d1 mc ms : Nat} {x0 x1 x2 : Int} {φ1 : Option Value → z_H → Prop} {ψ1 : String → z_H → Prop} {fs : List Value} (hG : z_OK G) (hN : z_NC G) (hb : H q = some (z_ob 7 fs)) (ht : z_T G mX7_score [.ref q, z_i x0, z_i x1, z_i x2] H d1 mc ms φ1 ψ1)
    (hφ : ∀ v h', φ1 v h' → ∃ (r : Int) (f : Int → Int), v = some (z_i r) ∧ (-2147483648 ≤ r ∧ r ≤ 2147483647) ∧ h' o = some (z_la 1 f)) (hψ : ∀ E h', ψ1 E h' → E = "java/lang/IndexOutOfBoundsException" ∨ E = "java/lang/IllegalArgumentException") :
    z_TH G mL_score hL_score [.ref q, z_i x0, z_i x1, z_i x2, .ref o] H (d1 + 1) mc ms (u_P o "java/lang/IndexOutOfBoundsException" φ1 ψ1) := by
  refine z_TH_of hG pL_score (Nat.le_of_ble_eq_true rfl) rfl (fun Y hY hg hmc hms hφY hψY => ?_)
  refine zt_aload hY eL_score_0 4 rfl ?_
  refine zt_const hY eL_score_2 ?_
  refine zt_aload hY eL_score_3 0 rfl ?_
  refine zt_iload hY eL_score_4 1 rfl ?_
  refine zt_iload hY eL_score_5 2 rfl ?_
  refine zt_iload hY eL_score_6 3 rfl ?_
  refine zt_callV (M' := mX7_score) (As := [z_i x0, z_i x1, z_i x2]) (rest := [z_i 0, .ref o]) (φ1 := φ1) (ψ1 := ψ1) (d1 := d1) (mc1 := mc) (ms1 := ms) (by rw [hg]; exact hN) hY eL_score_7 (by rw [hg]; exact ht) hb (Nat.lt_succ_self _) (Nat.le_of_ble_eq_true rfl) (by rw [hmc, hms]; omega) (fun E h' hE => ?_) (fun v h' hv => ?_)
  · rcases hψ E h' hE with rfl | rfl
    · refine ⟨15, ⟨[], [⟨0, 12, 19, 19⟩], ⟨0, 12, 15, 25⟩, rfl, (fun z hz => by cases hz), by decide, by decide, rfl, by decide, kL_25, kc_IndexOutOfBounds⟩, fun q1 => ?_⟩
      refine zt_astore hY eL_score_15 rfl ?_
      refine zt_const hY eL_score_17 ?_
      refine zt_ireturn hY eL_score_18 rfl ?_ (by rw [hmc, hms]; omega)
      rw [hφY]
      exact Or.inr ⟨_, hE, by rw [u_cd1]⟩
    · refine ⟨19, ⟨[⟨0, 12, 15, 25⟩], [], ⟨0, 12, 19, 19⟩, rfl, (fun z hz => by rw [List.mem_singleton.mp hz]; exact ⟨by decide, "java/lang/IndexOutOfBoundsException", by decide, by decide, kL_25⟩), by decide, by decide, rfl, by decide, kL_19, kc_IllegalArgument⟩, fun q1 => ?_⟩
      refine zt_astore hY eL_score_19 rfl ?_
      refine zt_const hY eL_score_21 ?_
      refine zt_ireturn hY eL_score_22 rfl ?_ (by rw [hmc, hms]; omega)
      rw [hφY]
      exact Or.inr ⟨_, hE, by rw [u_cd2 (by decide)]⟩
  · obtain ⟨r, f, rfl, hr, ho⟩ := hφ v h' hv
    refine zt_i2l hY eL_score_10 hr ?_
    refine zt_lastore hY eL_score_11 ho (by omega) ?_
    refine zt_goto hY eL_score_12 ?_
    refine zt_const hY eL_score_23 ?_
    refine zt_ireturn hY eL_score_24 rfl ?_ (by rw [hmc, hms]; omega)
    rw [hφY]
    exact Or.inl ⟨r, f, h', hv, hr, ho, rfl, rfl⟩
theorem u_setScore {G : z_G} {H : z_H} {q o d1 mc ms : Nat} {x0 x1 x2 : Int} {φ1 : Option Value → z_H → Prop} {ψ1 : String → z_H → Prop} {fs : List Value} (hG : z_OK G) (hN : z_NC G) (hb : H q = some (z_ob 7 fs)) (ht : z_T G mX7_setScore [.ref q, z_i x0, z_i x1, z_i x2] H d1 mc ms φ1 ψ1)
    (hφ : ∀ v h', φ1 v h' → ∃ (r : Int) (f : Int → Int), v = some (z_i r) ∧ (-2147483648 ≤ r ∧ r ≤ 2147483647) ∧ h' o = some (z_la 1 f)) (hψ : ∀ E h', ψ1 E h' → E = "java/lang/IndexOutOfBoundsException" ∨ E = "java/lang/IllegalArgumentException") :
    z_TH G mL_setScore hL_setScore [.ref q, z_i x0, z_i x1, z_i x2, .ref o] H (d1 + 1) mc ms (u_P o "java/lang/IndexOutOfBoundsException" φ1 ψ1) := by
  refine z_TH_of hG pL_setScore (Nat.le_of_ble_eq_true rfl) rfl (fun Y hY hg hmc hms hφY hψY => ?_)
  refine zt_aload hY eL_setScore_0 4 rfl ?_
  refine zt_const hY eL_setScore_2 ?_
  refine zt_aload hY eL_setScore_3 0 rfl ?_
  refine zt_iload hY eL_setScore_4 1 rfl ?_
  refine zt_iload hY eL_setScore_5 2 rfl ?_
  refine zt_iload hY eL_setScore_6 3 rfl ?_
  refine zt_callV (M' := mX7_setScore) (As := [z_i x0, z_i x1, z_i x2]) (rest := [z_i 0, .ref o]) (φ1 := φ1) (ψ1 := ψ1) (d1 := d1) (mc1 := mc) (ms1 := ms) (by rw [hg]; exact hN) hY eL_setScore_7 (by rw [hg]; exact ht) hb (Nat.lt_succ_self _) (Nat.le_of_ble_eq_true rfl) (by rw [hmc, hms]; omega) (fun E h' hE => ?_) (fun v h' hv => ?_)
  · rcases hψ E h' hE with rfl | rfl
    · refine ⟨15, ⟨[], [⟨0, 12, 19, 19⟩], ⟨0, 12, 15, 25⟩, rfl, (fun z hz => by cases hz), by decide, by decide, rfl, by decide, kL_25, kc_IndexOutOfBounds⟩, fun q1 => ?_⟩
      refine zt_astore hY eL_setScore_15 rfl ?_
      refine zt_const hY eL_setScore_17 ?_
      refine zt_ireturn hY eL_setScore_18 rfl ?_ (by rw [hmc, hms]; omega)
      rw [hφY]
      exact Or.inr ⟨_, hE, by rw [u_cd1]⟩
    · refine ⟨19, ⟨[⟨0, 12, 15, 25⟩], [], ⟨0, 12, 19, 19⟩, rfl, (fun z hz => by rw [List.mem_singleton.mp hz]; exact ⟨by decide, "java/lang/IndexOutOfBoundsException", by decide, by decide, kL_25⟩), by decide, by decide, rfl, by decide, kL_19, kc_IllegalArgument⟩, fun q1 => ?_⟩
      refine zt_astore hY eL_setScore_19 rfl ?_
      refine zt_const hY eL_setScore_21 ?_
      refine zt_ireturn hY eL_setScore_22 rfl ?_ (by rw [hmc, hms]; omega)
      rw [hφY]
      exact Or.inr ⟨_, hE, by rw [u_cd2 (by decide)]⟩
  · obtain ⟨r, f, rfl, hr, ho⟩ := hφ v h' hv
    refine zt_i2l hY eL_setScore_10 hr ?_
    refine zt_lastore hY eL_setScore_11 ho (by omega) ?_
    refine zt_goto hY eL_setScore_12 ?_
    refine zt_const hY eL_setScore_23 ?_
    refine zt_ireturn hY eL_setScore_24 rfl ?_ (by rw [hmc, hms]; omega)
    rw [hφY]
    exact Or.inl ⟨r, f, h', hv, hr, ho, rfl, rfl⟩
theorem u_scoreOf {G : z_G} {H : z_H} {q o d1 mc ms : Nat} {x0 x1 : Int} {φ1 : Option Value → z_H → Prop} {ψ1 : String → z_H → Prop} {fs : List Value} (hG : z_OK G) (hN : z_NC G) (hb : H q = some (z_ob 7 fs)) (ht : z_T G mX7_scoreOf [.ref q, z_i x0, z_i x1] H d1 mc ms φ1 ψ1)
    (hφ : ∀ v h', φ1 v h' → ∃ (r : Int) (f : Int → Int), v = some (z_i r) ∧ (-2147483648 ≤ r ∧ r ≤ 2147483647) ∧ h' o = some (z_la 1 f)) (hψ : ∀ E h', ψ1 E h' → E = "java/lang/IndexOutOfBoundsException" ∨ E = "java/lang/IllegalArgumentException") :
    z_TH G mL_scoreOf hL_scoreOf [.ref q, z_i x0, z_i x1, .ref o] H (d1 + 1) mc ms (u_P o "java/lang/IndexOutOfBoundsException" φ1 ψ1) := by
  refine z_TH_of hG pL_scoreOf (Nat.le_of_ble_eq_true rfl) rfl (fun Y hY hg hmc hms hφY hψY => ?_)
  refine zt_aload hY eL_scoreOf_0 3 rfl ?_
  refine zt_const hY eL_scoreOf_1 ?_
  refine zt_aload hY eL_scoreOf_2 0 rfl ?_
  refine zt_iload hY eL_scoreOf_3 1 rfl ?_
  refine zt_iload hY eL_scoreOf_4 2 rfl ?_
  refine zt_callV (M' := mX7_scoreOf) (As := [z_i x0, z_i x1]) (rest := [z_i 0, .ref o]) (φ1 := φ1) (ψ1 := ψ1) (d1 := d1) (mc1 := mc) (ms1 := ms) (by rw [hg]; exact hN) hY eL_scoreOf_5 (by rw [hg]; exact ht) hb (Nat.lt_succ_self _) (Nat.le_of_ble_eq_true rfl) (by rw [hmc, hms]; omega) (fun E h' hE => ?_) (fun v h' hv => ?_)
  · rcases hψ E h' hE with rfl | rfl
    · refine ⟨13, ⟨[], [⟨0, 10, 17, 19⟩], ⟨0, 10, 13, 25⟩, rfl, (fun z hz => by cases hz), by decide, by decide, rfl, by decide, kL_25, kc_IndexOutOfBounds⟩, fun q1 => ?_⟩
      refine zt_astore hY eL_scoreOf_13 rfl ?_
      refine zt_const hY eL_scoreOf_15 ?_
      refine zt_ireturn hY eL_scoreOf_16 rfl ?_ (by rw [hmc, hms]; omega)
      rw [hφY]
      exact Or.inr ⟨_, hE, by rw [u_cd1]⟩
    · refine ⟨17, ⟨[⟨0, 10, 13, 25⟩], [], ⟨0, 10, 17, 19⟩, rfl, (fun z hz => by rw [List.mem_singleton.mp hz]; exact ⟨by decide, "java/lang/IndexOutOfBoundsException", by decide, by decide, kL_25⟩), by decide, by decide, rfl, by decide, kL_19, kc_IllegalArgument⟩, fun q1 => ?_⟩
      refine zt_astore hY eL_scoreOf_17 rfl ?_
      refine zt_const hY eL_scoreOf_19 ?_
      refine zt_ireturn hY eL_scoreOf_20 rfl ?_ (by rw [hmc, hms]; omega)
      rw [hφY]
      exact Or.inr ⟨_, hE, by rw [u_cd2 (by decide)]⟩
  · obtain ⟨r, f, rfl, hr, ho⟩ := hφ v h' hv
    refine zt_i2l hY eL_scoreOf_8 hr ?_
    refine zt_lastore hY eL_scoreOf_9 ho (by omega) ?_
    refine zt_goto hY eL_scoreOf_10 ?_
    refine zt_const hY eL_scoreOf_21 ?_
    refine zt_ireturn hY eL_scoreOf_22 rfl ?_ (by rw [hmc, hms]; omega)
    rw [hφY]
    exact Or.inl ⟨r, f, h', hv, hr, ho, rfl, rfl⟩
theorem u_groupOf {G : z_G} {H : z_H} {q o d1 mc ms : Nat} {x0 : Int} {φ1 : Option Value → z_H → Prop} {ψ1 : String → z_H → Prop} {fs : List Value} (hG : z_OK G) (hN : z_NC G) (hb : H q = some (z_ob 7 fs)) (ht : z_T G mX7_groupOf [.ref q, z_i x0] H d1 mc ms φ1 ψ1)
    (hφ : ∀ v h', φ1 v h' → ∃ (r : Int) (f : Int → Int), v = some (z_i r) ∧ (-2147483648 ≤ r ∧ r ≤ 2147483647) ∧ h' o = some (z_la 1 f)) (hψ : ∀ E h', ψ1 E h' → E = "java/lang/IndexOutOfBoundsException") :
    z_TH G mL_groupOf hL_groupOf [.ref q, z_i x0, .ref o] H (d1 + 1) mc ms (u_P o "java/lang/IndexOutOfBoundsException" φ1 ψ1) := by
  refine z_TH_of hG pL_groupOf (Nat.le_of_ble_eq_true rfl) rfl (fun Y hY hg hmc hms hφY hψY => ?_)
  refine zt_aload hY eL_groupOf_0 2 rfl ?_
  refine zt_const hY eL_groupOf_1 ?_
  refine zt_aload hY eL_groupOf_2 0 rfl ?_
  refine zt_iload hY eL_groupOf_3 1 rfl ?_
  refine zt_callV (M' := mX7_groupOf) (As := [z_i x0]) (rest := [z_i 0, .ref o]) (φ1 := φ1) (ψ1 := ψ1) (d1 := d1) (mc1 := mc) (ms1 := ms) (by rw [hg]; exact hN) hY eL_groupOf_4 (by rw [hg]; exact ht) hb (Nat.lt_succ_self _) (Nat.le_of_ble_eq_true rfl) (by rw [hmc, hms]; omega) (fun E h' hE => ?_) (fun v h' hv => ?_)
  · rcases hψ E h' hE with rfl
    · refine ⟨12, ⟨[], [], ⟨0, 9, 12, 25⟩, rfl, (fun z hz => by cases hz), by decide, by decide, rfl, by decide, kL_25, kc_IndexOutOfBounds⟩, fun q1 => ?_⟩
      refine zt_astore hY eL_groupOf_12 rfl ?_
      refine zt_const hY eL_groupOf_13 ?_
      refine zt_ireturn hY eL_groupOf_14 rfl ?_ (by rw [hmc, hms]; omega)
      rw [hφY]
      exact Or.inr ⟨_, hE, by rw [u_cd1]⟩
  · obtain ⟨r, f, rfl, hr, ho⟩ := hφ v h' hv
    refine zt_i2l hY eL_groupOf_7 hr ?_
    refine zt_lastore hY eL_groupOf_8 ho (by omega) ?_
    refine zt_goto hY eL_groupOf_9 ?_
    refine zt_const hY eL_groupOf_15 ?_
    refine zt_ireturn hY eL_groupOf_16 rfl ?_ (by rw [hmc, hms]; omega)
    rw [hφY]
    exact Or.inl ⟨r, f, h', hv, hr, ho, rfl, rfl⟩
theorem u_at {G : z_G} {H : z_H} {q o d1 mc ms : Nat} {x0 : Int} {φ1 : Option Value → z_H → Prop} {ψ1 : String → z_H → Prop} {fs : List Value} (hG : z_OK G) (hN : z_NC G) (hb : H q = some (z_ob 7 fs)) (ht : z_T G mX7_at [.ref q, z_i x0] H d1 mc ms φ1 ψ1)
    (hφ : ∀ v h', φ1 v h' → ∃ (r : Int) (f : Int → Int), v = some (z_i r) ∧ (-2147483648 ≤ r ∧ r ≤ 2147483647) ∧ h' o = some (z_la 1 f)) (hψ : ∀ E h', ψ1 E h' → E = "java/lang/IndexOutOfBoundsException") :
    z_TH G mL_at hL_at [.ref q, z_i x0, .ref o] H (d1 + 1) mc ms (u_P o "java/lang/IndexOutOfBoundsException" φ1 ψ1) := by
  refine z_TH_of hG pL_at (Nat.le_of_ble_eq_true rfl) rfl (fun Y hY hg hmc hms hφY hψY => ?_)
  refine zt_aload hY eL_at_0 2 rfl ?_
  refine zt_const hY eL_at_1 ?_
  refine zt_aload hY eL_at_2 0 rfl ?_
  refine zt_iload hY eL_at_3 1 rfl ?_
  refine zt_callV (M' := mX7_at) (As := [z_i x0]) (rest := [z_i 0, .ref o]) (φ1 := φ1) (ψ1 := ψ1) (d1 := d1) (mc1 := mc) (ms1 := ms) (by rw [hg]; exact hN) hY eL_at_4 (by rw [hg]; exact ht) hb (Nat.lt_succ_self _) (Nat.le_of_ble_eq_true rfl) (by rw [hmc, hms]; omega) (fun E h' hE => ?_) (fun v h' hv => ?_)
  · rcases hψ E h' hE with rfl
    · refine ⟨12, ⟨[], [], ⟨0, 9, 12, 25⟩, rfl, (fun z hz => by cases hz), by decide, by decide, rfl, by decide, kL_25, kc_IndexOutOfBounds⟩, fun q1 => ?_⟩
      refine zt_astore hY eL_at_12 rfl ?_
      refine zt_const hY eL_at_13 ?_
      refine zt_ireturn hY eL_at_14 rfl ?_ (by rw [hmc, hms]; omega)
      rw [hφY]
      exact Or.inr ⟨_, hE, by rw [u_cd1]⟩
  · obtain ⟨r, f, rfl, hr, ho⟩ := hφ v h' hv
    refine zt_i2l hY eL_at_7 hr ?_
    refine zt_lastore hY eL_at_8 ho (by omega) ?_
    refine zt_goto hY eL_at_9 ?_
    refine zt_const hY eL_at_15 ?_
    refine zt_ireturn hY eL_at_16 rfl ?_ (by rw [hmc, hms]; omega)
    rw [hφY]
    exact Or.inl ⟨r, f, h', hv, hr, ho, rfl, rfl⟩
theorem u_place {G : z_G} {H : z_H} {q o d1 mc ms : Nat} {x0 : Int} {φ1 : Option Value → z_H → Prop} {ψ1 : String → z_H → Prop} {fs : List Value} (hG : z_OK G) (hN : z_NC G) (hb : H q = some (z_ob 7 fs)) (ht : z_T G mX7_place [.ref q, z_i x0] H d1 mc ms φ1 ψ1)
    (hφ : ∀ v h', φ1 v h' → ∃ (r : Int) (f : Int → Int), v = some (z_i r) ∧ (-2147483648 ≤ r ∧ r ≤ 2147483647) ∧ h' o = some (z_la 1 f)) (hψ : ∀ E h', ψ1 E h' → E = "java/lang/IndexOutOfBoundsException") :
    z_TH G mL_place hL_place [.ref q, z_i x0, .ref o] H (d1 + 1) mc ms (u_P o "java/lang/IndexOutOfBoundsException" φ1 ψ1) := by
  refine z_TH_of hG pL_place (Nat.le_of_ble_eq_true rfl) rfl (fun Y hY hg hmc hms hφY hψY => ?_)
  refine zt_aload hY eL_place_0 2 rfl ?_
  refine zt_const hY eL_place_1 ?_
  refine zt_aload hY eL_place_2 0 rfl ?_
  refine zt_iload hY eL_place_3 1 rfl ?_
  refine zt_callV (M' := mX7_place) (As := [z_i x0]) (rest := [z_i 0, .ref o]) (φ1 := φ1) (ψ1 := ψ1) (d1 := d1) (mc1 := mc) (ms1 := ms) (by rw [hg]; exact hN) hY eL_place_4 (by rw [hg]; exact ht) hb (Nat.lt_succ_self _) (Nat.le_of_ble_eq_true rfl) (by rw [hmc, hms]; omega) (fun E h' hE => ?_) (fun v h' hv => ?_)
  · rcases hψ E h' hE with rfl
    · refine ⟨12, ⟨[], [], ⟨0, 9, 12, 25⟩, rfl, (fun z hz => by cases hz), by decide, by decide, rfl, by decide, kL_25, kc_IndexOutOfBounds⟩, fun q1 => ?_⟩
      refine zt_astore hY eL_place_12 rfl ?_
      refine zt_const hY eL_place_13 ?_
      refine zt_ireturn hY eL_place_14 rfl ?_ (by rw [hmc, hms]; omega)
      rw [hφY]
      exact Or.inr ⟨_, hE, by rw [u_cd1]⟩
  · obtain ⟨r, f, rfl, hr, ho⟩ := hφ v h' hv
    refine zt_i2l hY eL_place_7 hr ?_
    refine zt_lastore hY eL_place_8 ho (by omega) ?_
    refine zt_goto hY eL_place_9 ?_
    refine zt_const hY eL_place_15 ?_
    refine zt_ireturn hY eL_place_16 rfl ?_ (by rw [hmc, hms]; omega)
    rw [hφY]
    exact Or.inl ⟨r, f, h', hv, hr, ho, rfl, rfl⟩
theorem u_rank {G : z_G} {H : z_H} {q o d1 mc ms : Nat} {x0 x1 : Int} {φ1 : Option Value → z_H → Prop} {ψ1 : String → z_H → Prop} {fs : List Value} (hG : z_OK G) (hN : z_NC G) (hb : H q = some (z_ob 7 fs)) (ht : z_T G mX7_rank [.ref q, z_i x0, z_i x1] H d1 mc ms φ1 ψ1)
    (hφ : ∀ v h', φ1 v h' → ∃ (r : Int) (f : Int → Int), v = some (z_i r) ∧ (-2147483648 ≤ r ∧ r ≤ 2147483647) ∧ h' o = some (z_la 1 f)) (hψ : ∀ E h', ψ1 E h' → E = "java/lang/IndexOutOfBoundsException" ∨ E = "java/lang/IllegalArgumentException") :
    z_TH G mL_rank hL_rank [.ref q, z_i x0, z_i x1, .ref o] H (d1 + 1) mc ms (u_P o "java/lang/IndexOutOfBoundsException" φ1 ψ1) := by
  refine z_TH_of hG pL_rank (Nat.le_of_ble_eq_true rfl) rfl (fun Y hY hg hmc hms hφY hψY => ?_)
  refine zt_aload hY eL_rank_0 3 rfl ?_
  refine zt_const hY eL_rank_1 ?_
  refine zt_aload hY eL_rank_2 0 rfl ?_
  refine zt_iload hY eL_rank_3 1 rfl ?_
  refine zt_iload hY eL_rank_4 2 rfl ?_
  refine zt_callV (M' := mX7_rank) (As := [z_i x0, z_i x1]) (rest := [z_i 0, .ref o]) (φ1 := φ1) (ψ1 := ψ1) (d1 := d1) (mc1 := mc) (ms1 := ms) (by rw [hg]; exact hN) hY eL_rank_5 (by rw [hg]; exact ht) hb (Nat.lt_succ_self _) (Nat.le_of_ble_eq_true rfl) (by rw [hmc, hms]; omega) (fun E h' hE => ?_) (fun v h' hv => ?_)
  · rcases hψ E h' hE with rfl | rfl
    · refine ⟨13, ⟨[], [⟨0, 10, 17, 19⟩], ⟨0, 10, 13, 25⟩, rfl, (fun z hz => by cases hz), by decide, by decide, rfl, by decide, kL_25, kc_IndexOutOfBounds⟩, fun q1 => ?_⟩
      refine zt_astore hY eL_rank_13 rfl ?_
      refine zt_const hY eL_rank_15 ?_
      refine zt_ireturn hY eL_rank_16 rfl ?_ (by rw [hmc, hms]; omega)
      rw [hφY]
      exact Or.inr ⟨_, hE, by rw [u_cd1]⟩
    · refine ⟨17, ⟨[⟨0, 10, 13, 25⟩], [], ⟨0, 10, 17, 19⟩, rfl, (fun z hz => by rw [List.mem_singleton.mp hz]; exact ⟨by decide, "java/lang/IndexOutOfBoundsException", by decide, by decide, kL_25⟩), by decide, by decide, rfl, by decide, kL_19, kc_IllegalArgument⟩, fun q1 => ?_⟩
      refine zt_astore hY eL_rank_17 rfl ?_
      refine zt_const hY eL_rank_19 ?_
      refine zt_ireturn hY eL_rank_20 rfl ?_ (by rw [hmc, hms]; omega)
      rw [hφY]
      exact Or.inr ⟨_, hE, by rw [u_cd2 (by decide)]⟩
  · obtain ⟨r, f, rfl, hr, ho⟩ := hφ v h' hv
    refine zt_i2l hY eL_rank_8 hr ?_
    refine zt_lastore hY eL_rank_9 ho (by omega) ?_
    refine zt_goto hY eL_rank_10 ?_
    refine zt_const hY eL_rank_21 ?_
    refine zt_ireturn hY eL_rank_22 rfl ?_ (by rw [hmc, hms]; omega)
    rw [hφY]
    exact Or.inl ⟨r, f, h', hv, hr, ho, rfl, rfl⟩
theorem u_alike {G : z_G} {H : z_H} {q o d1 mc ms : Nat} {x0 : Int} {φ1 : Option Value → z_H → Prop} {ψ1 : String → z_H → Prop} {fs : List Value} (hG : z_OK G) (hN : z_NC G) (hb : H q = some (z_ob 7 fs)) (ht : z_T G mX7_alike [.ref q, z_i x0] H d1 mc ms φ1 ψ1)
    (hφ : ∀ v h', φ1 v h' → ∃ (r : Int) (f : Int → Int), v = some (z_i r) ∧ (-2147483648 ≤ r ∧ r ≤ 2147483647) ∧ h' o = some (z_la 1 f)) (hψ : ∀ E h', ψ1 E h' → E = "java/lang/IndexOutOfBoundsException") :
    z_TH G mL_alike hL_alike [.ref q, z_i x0, .ref o] H (d1 + 1) mc ms (u_P o "java/lang/IndexOutOfBoundsException" φ1 ψ1) := by
  refine z_TH_of hG pL_alike (Nat.le_of_ble_eq_true rfl) rfl (fun Y hY hg hmc hms hφY hψY => ?_)
  refine zt_aload hY eL_alike_0 2 rfl ?_
  refine zt_const hY eL_alike_1 ?_
  refine zt_aload hY eL_alike_2 0 rfl ?_
  refine zt_iload hY eL_alike_3 1 rfl ?_
  refine zt_callV (M' := mX7_alike) (As := [z_i x0]) (rest := [z_i 0, .ref o]) (φ1 := φ1) (ψ1 := ψ1) (d1 := d1) (mc1 := mc) (ms1 := ms) (by rw [hg]; exact hN) hY eL_alike_4 (by rw [hg]; exact ht) hb (Nat.lt_succ_self _) (Nat.le_of_ble_eq_true rfl) (by rw [hmc, hms]; omega) (fun E h' hE => ?_) (fun v h' hv => ?_)
  · rcases hψ E h' hE with rfl
    · refine ⟨12, ⟨[], [], ⟨0, 9, 12, 25⟩, rfl, (fun z hz => by cases hz), by decide, by decide, rfl, by decide, kL_25, kc_IndexOutOfBounds⟩, fun q1 => ?_⟩
      refine zt_astore hY eL_alike_12 rfl ?_
      refine zt_const hY eL_alike_13 ?_
      refine zt_ireturn hY eL_alike_14 rfl ?_ (by rw [hmc, hms]; omega)
      rw [hφY]
      exact Or.inr ⟨_, hE, by rw [u_cd1]⟩
  · obtain ⟨r, f, rfl, hr, ho⟩ := hφ v h' hv
    refine zt_i2l hY eL_alike_7 hr ?_
    refine zt_lastore hY eL_alike_8 ho (by omega) ?_
    refine zt_goto hY eL_alike_9 ?_
    refine zt_const hY eL_alike_15 ?_
    refine zt_ireturn hY eL_alike_16 rfl ?_ (by rw [hmc, hms]; omega)
    rw [hφY]
    exact Or.inl ⟨r, f, h', hv, hr, ho, rfl, rfl⟩
theorem u_wouldGain {G : z_G} {H : z_H} {q o d1 mc ms : Nat} {x0 x1 x2 : Int} {φ1 : Option Value → z_H → Prop} {ψ1 : String → z_H → Prop} {fs : List Value} (hG : z_OK G) (hN : z_NC G) (hb : H q = some (z_ob 7 fs)) (ht : z_T G mX7_wouldGain [.ref q, z_i x0, z_i x1, z_i x2] H d1 mc ms φ1 ψ1)
    (hφ : ∀ v h', φ1 v h' → ∃ (r : Int) (f : Int → Int), v = some (z_i r) ∧ (-2147483648 ≤ r ∧ r ≤ 2147483647) ∧ h' o = some (z_la 1 f)) (hψ : ∀ E h', ψ1 E h' → E = "java/lang/IndexOutOfBoundsException" ∨ E = "java/lang/IllegalArgumentException") :
    z_TH G mL_wouldGain hL_wouldGain [.ref q, z_i x0, z_i x1, z_i x2, .ref o] H (d1 + 1) mc ms (u_P o "java/lang/IndexOutOfBoundsException" φ1 ψ1) := by
  refine z_TH_of hG pL_wouldGain (Nat.le_of_ble_eq_true rfl) rfl (fun Y hY hg hmc hms hφY hψY => ?_)
  refine zt_aload hY eL_wouldGain_0 4 rfl ?_
  refine zt_const hY eL_wouldGain_2 ?_
  refine zt_aload hY eL_wouldGain_3 0 rfl ?_
  refine zt_iload hY eL_wouldGain_4 1 rfl ?_
  refine zt_iload hY eL_wouldGain_5 2 rfl ?_
  refine zt_iload hY eL_wouldGain_6 3 rfl ?_
  refine zt_callV (M' := mX7_wouldGain) (As := [z_i x0, z_i x1, z_i x2]) (rest := [z_i 0, .ref o]) (φ1 := φ1) (ψ1 := ψ1) (d1 := d1) (mc1 := mc) (ms1 := ms) (by rw [hg]; exact hN) hY eL_wouldGain_7 (by rw [hg]; exact ht) hb (Nat.lt_succ_self _) (Nat.le_of_ble_eq_true rfl) (by rw [hmc, hms]; omega) (fun E h' hE => ?_) (fun v h' hv => ?_)
  · rcases hψ E h' hE with rfl | rfl
    · refine ⟨15, ⟨[], [⟨0, 12, 19, 19⟩], ⟨0, 12, 15, 25⟩, rfl, (fun z hz => by cases hz), by decide, by decide, rfl, by decide, kL_25, kc_IndexOutOfBounds⟩, fun q1 => ?_⟩
      refine zt_astore hY eL_wouldGain_15 rfl ?_
      refine zt_const hY eL_wouldGain_17 ?_
      refine zt_ireturn hY eL_wouldGain_18 rfl ?_ (by rw [hmc, hms]; omega)
      rw [hφY]
      exact Or.inr ⟨_, hE, by rw [u_cd1]⟩
    · refine ⟨19, ⟨[⟨0, 12, 15, 25⟩], [], ⟨0, 12, 19, 19⟩, rfl, (fun z hz => by rw [List.mem_singleton.mp hz]; exact ⟨by decide, "java/lang/IndexOutOfBoundsException", by decide, by decide, kL_25⟩), by decide, by decide, rfl, by decide, kL_19, kc_IllegalArgument⟩, fun q1 => ?_⟩
      refine zt_astore hY eL_wouldGain_19 rfl ?_
      refine zt_const hY eL_wouldGain_21 ?_
      refine zt_ireturn hY eL_wouldGain_22 rfl ?_ (by rw [hmc, hms]; omega)
      rw [hφY]
      exact Or.inr ⟨_, hE, by rw [u_cd2 (by decide)]⟩
  · obtain ⟨r, f, rfl, hr, ho⟩ := hφ v h' hv
    refine zt_i2l hY eL_wouldGain_10 hr ?_
    refine zt_lastore hY eL_wouldGain_11 ho (by omega) ?_
    refine zt_goto hY eL_wouldGain_12 ?_
    refine zt_const hY eL_wouldGain_23 ?_
    refine zt_ireturn hY eL_wouldGain_24 rfl ?_ (by rw [hmc, hms]; omega)
    rw [hφY]
    exact Or.inl ⟨r, f, h', hv, hr, ho, rfl, rfl⟩
theorem u_needed {G : z_G} {H : z_H} {q o d1 mc ms : Nat} {x0 x1 : Int} {φ1 : Option Value → z_H → Prop} {ψ1 : String → z_H → Prop} {fs : List Value} (hG : z_OK G) (hN : z_NC G) (hb : H q = some (z_ob 7 fs)) (ht : z_T G mX7_needed [.ref q, z_i x0, z_i x1] H d1 mc ms φ1 ψ1)
    (hφ : ∀ v h', φ1 v h' → ∃ (r : Int) (f : Int → Int), v = some (z_i r) ∧ (-2147483648 ≤ r ∧ r ≤ 2147483647) ∧ h' o = some (z_la 1 f)) (hψ : ∀ E h', ψ1 E h' → E = "java/lang/IndexOutOfBoundsException" ∨ E = "java/lang/IllegalArgumentException") :
    z_TH G mL_needed hL_needed [.ref q, z_i x0, z_i x1, .ref o] H (d1 + 1) mc ms (u_P o "java/lang/IndexOutOfBoundsException" φ1 ψ1) := by
  refine z_TH_of hG pL_needed (Nat.le_of_ble_eq_true rfl) rfl (fun Y hY hg hmc hms hφY hψY => ?_)
  refine zt_aload hY eL_needed_0 3 rfl ?_
  refine zt_const hY eL_needed_1 ?_
  refine zt_aload hY eL_needed_2 0 rfl ?_
  refine zt_iload hY eL_needed_3 1 rfl ?_
  refine zt_iload hY eL_needed_4 2 rfl ?_
  refine zt_callV (M' := mX7_needed) (As := [z_i x0, z_i x1]) (rest := [z_i 0, .ref o]) (φ1 := φ1) (ψ1 := ψ1) (d1 := d1) (mc1 := mc) (ms1 := ms) (by rw [hg]; exact hN) hY eL_needed_5 (by rw [hg]; exact ht) hb (Nat.lt_succ_self _) (Nat.le_of_ble_eq_true rfl) (by rw [hmc, hms]; omega) (fun E h' hE => ?_) (fun v h' hv => ?_)
  · rcases hψ E h' hE with rfl | rfl
    · refine ⟨13, ⟨[], [⟨0, 10, 17, 19⟩], ⟨0, 10, 13, 25⟩, rfl, (fun z hz => by cases hz), by decide, by decide, rfl, by decide, kL_25, kc_IndexOutOfBounds⟩, fun q1 => ?_⟩
      refine zt_astore hY eL_needed_13 rfl ?_
      refine zt_const hY eL_needed_15 ?_
      refine zt_ireturn hY eL_needed_16 rfl ?_ (by rw [hmc, hms]; omega)
      rw [hφY]
      exact Or.inr ⟨_, hE, by rw [u_cd1]⟩
    · refine ⟨17, ⟨[⟨0, 10, 13, 25⟩], [], ⟨0, 10, 17, 19⟩, rfl, (fun z hz => by rw [List.mem_singleton.mp hz]; exact ⟨by decide, "java/lang/IndexOutOfBoundsException", by decide, by decide, kL_25⟩), by decide, by decide, rfl, by decide, kL_19, kc_IllegalArgument⟩, fun q1 => ?_⟩
      refine zt_astore hY eL_needed_17 rfl ?_
      refine zt_const hY eL_needed_19 ?_
      refine zt_ireturn hY eL_needed_20 rfl ?_ (by rw [hmc, hms]; omega)
      rw [hφY]
      exact Or.inr ⟨_, hE, by rw [u_cd2 (by decide)]⟩
  · obtain ⟨r, f, rfl, hr, ho⟩ := hφ v h' hv
    refine zt_i2l hY eL_needed_8 hr ?_
    refine zt_lastore hY eL_needed_9 ho (by omega) ?_
    refine zt_goto hY eL_needed_10 ?_
    refine zt_const hY eL_needed_21 ?_
    refine zt_ireturn hY eL_needed_22 rfl ?_ (by rw [hmc, hms]; omega)
    rw [hφY]
    exact Or.inl ⟨r, f, h', hv, hr, ho, rfl, rfl⟩
theorem u_next {G : z_G} {H : z_H} {q o d1 mc ms : Nat} {x0 : Int} {φ1 : Option Value → z_H → Prop} {ψ1 : String → z_H → Prop} {fs : List Value} (hG : z_OK G) (hN : z_NC G) (hb : H q = some (z_ob 7 fs)) (ht : z_T G mX7_next [.ref q, z_i x0] H d1 mc ms φ1 ψ1)
    (hφ : ∀ v h', φ1 v h' → ∃ (r : Int) (f : Int → Int), v = some (z_i r) ∧ (-2147483648 ≤ r ∧ r ≤ 2147483647) ∧ h' o = some (z_la 1 f)) (hψ : ∀ E h', ψ1 E h' → E = "java/util/NoSuchElementException") :
    z_TH G mL_next hL_next [.ref q, z_i x0, .ref o] H (d1 + 1) mc ms (u_P o "java/util/NoSuchElementException" φ1 ψ1) := by
  refine z_TH_of hG pL_next (Nat.le_of_ble_eq_true rfl) rfl (fun Y hY hg hmc hms hφY hψY => ?_)
  refine zt_aload hY eL_next_0 2 rfl ?_
  refine zt_const hY eL_next_1 ?_
  refine zt_aload hY eL_next_2 0 rfl ?_
  refine zt_iload hY eL_next_3 1 rfl ?_
  refine zt_callV (M' := mX7_next) (As := [z_i x0]) (rest := [z_i 0, .ref o]) (φ1 := φ1) (ψ1 := ψ1) (d1 := d1) (mc1 := mc) (ms1 := ms) (by rw [hg]; exact hN) hY eL_next_4 (by rw [hg]; exact ht) hb (Nat.lt_succ_self _) (Nat.le_of_ble_eq_true rfl) (by rw [hmc, hms]; omega) (fun E h' hE => ?_) (fun v h' hv => ?_)
  · rcases hψ E h' hE with rfl
    · refine ⟨12, ⟨[], [], ⟨0, 9, 12, 68⟩, rfl, (fun z hz => by cases hz), by decide, by decide, rfl, by decide, kL_68, kc_NoSuchElement⟩, fun q1 => ?_⟩
      refine zt_astore hY eL_next_12 rfl ?_
      refine zt_const hY eL_next_13 ?_
      refine zt_ireturn hY eL_next_14 rfl ?_ (by rw [hmc, hms]; omega)
      rw [hφY]
      exact Or.inr ⟨_, hE, by rw [u_cd1]⟩
  · obtain ⟨r, f, rfl, hr, ho⟩ := hφ v h' hv
    refine zt_i2l hY eL_next_7 hr ?_
    refine zt_lastore hY eL_next_8 ho (by omega) ?_
    refine zt_goto hY eL_next_9 ?_
    refine zt_const hY eL_next_15 ?_
    refine zt_ireturn hY eL_next_16 rfl ?_ (by rw [hmc, hms]; omega)
    rw [hφY]
    exact Or.inl ⟨r, f, h', hv, hr, ho, rfl, rfl⟩
theorem u_between {G : z_G} {H : z_H} {q o d1 mc ms : Nat} {x0 x1 : Int} {φ1 : Option Value → z_H → Prop} {ψ1 : String → z_H → Prop} {fs : List Value} (hG : z_OK G) (hN : z_NC G) (hb : H q = some (z_ob 7 fs)) (ht : z_T G mX7_between [.ref q, z_i x0, z_i x1] H d1 mc ms φ1 ψ1)
    (hφ : ∀ v h', φ1 v h' → ∃ (r : Int) (f : Int → Int), v = some (z_i r) ∧ (-2147483648 ≤ r ∧ r ≤ 2147483647) ∧ h' o = some (z_la 1 f)) (hψ : ∀ E h', ψ1 E h' → E = "java/lang/IllegalArgumentException") :
    z_TH G mL_between hL_between [.ref q, z_i x0, z_i x1, .ref o] H (d1 + 1) mc ms (u_P o "java/lang/IllegalArgumentException" φ1 ψ1) := by
  refine z_TH_of hG pL_between (Nat.le_of_ble_eq_true rfl) rfl (fun Y hY hg hmc hms hφY hψY => ?_)
  refine zt_aload hY eL_between_0 3 rfl ?_
  refine zt_const hY eL_between_1 ?_
  refine zt_aload hY eL_between_2 0 rfl ?_
  refine zt_iload hY eL_between_3 1 rfl ?_
  refine zt_iload hY eL_between_4 2 rfl ?_
  refine zt_callV (M' := mX7_between) (As := [z_i x0, z_i x1]) (rest := [z_i 0, .ref o]) (φ1 := φ1) (ψ1 := ψ1) (d1 := d1) (mc1 := mc) (ms1 := ms) (by rw [hg]; exact hN) hY eL_between_5 (by rw [hg]; exact ht) hb (Nat.lt_succ_self _) (Nat.le_of_ble_eq_true rfl) (by rw [hmc, hms]; omega) (fun E h' hE => ?_) (fun v h' hv => ?_)
  · rcases hψ E h' hE with rfl
    · refine ⟨13, ⟨[], [], ⟨0, 10, 13, 19⟩, rfl, (fun z hz => by cases hz), by decide, by decide, rfl, by decide, kL_19, kc_IllegalArgument⟩, fun q1 => ?_⟩
      refine zt_astore hY eL_between_13 rfl ?_
      refine zt_const hY eL_between_15 ?_
      refine zt_ireturn hY eL_between_16 rfl ?_ (by rw [hmc, hms]; omega)
      rw [hφY]
      exact Or.inr ⟨_, hE, by rw [u_cd1]⟩
  · obtain ⟨r, f, rfl, hr, ho⟩ := hφ v h' hv
    refine zt_i2l hY eL_between_8 hr ?_
    refine zt_lastore hY eL_between_9 ho (by omega) ?_
    refine zt_goto hY eL_between_10 ?_
    refine zt_const hY eL_between_17 ?_
    refine zt_ireturn hY eL_between_18 rfl ?_ (by rw [hmc, hms]; omega)
    rw [hφY]
    exact Or.inl ⟨r, f, h', hv, hr, ho, rfl, rfl⟩
theorem u_median {G : z_G} {H : z_H} {q o d1 mc ms : Nat} {x0 : Int} {φ1 : Option Value → z_H → Prop} {ψ1 : String → z_H → Prop} {fs : List Value} (hG : z_OK G) (hN : z_NC G) (hb : H q = some (z_ob 7 fs)) (ht : z_T G mX7_median [.ref q, z_i x0] H d1 mc ms φ1 ψ1)
    (hφ : ∀ v h', φ1 v h' → ∃ (r : Int) (f : Int → Int), v = some (z_i r) ∧ (-2147483648 ≤ r ∧ r ≤ 2147483647) ∧ h' o = some (z_la 1 f)) (hψ : ∀ E h', ψ1 E h' → E = "java/util/NoSuchElementException") :
    z_TH G mL_median hL_median [.ref q, z_i x0, .ref o] H (d1 + 1) mc ms (u_P o "java/util/NoSuchElementException" φ1 ψ1) := by
  refine z_TH_of hG pL_median (Nat.le_of_ble_eq_true rfl) rfl (fun Y hY hg hmc hms hφY hψY => ?_)
  refine zt_aload hY eL_median_0 2 rfl ?_
  refine zt_const hY eL_median_1 ?_
  refine zt_aload hY eL_median_2 0 rfl ?_
  refine zt_iload hY eL_median_3 1 rfl ?_
  refine zt_callV (M' := mX7_median) (As := [z_i x0]) (rest := [z_i 0, .ref o]) (φ1 := φ1) (ψ1 := ψ1) (d1 := d1) (mc1 := mc) (ms1 := ms) (by rw [hg]; exact hN) hY eL_median_4 (by rw [hg]; exact ht) hb (Nat.lt_succ_self _) (Nat.le_of_ble_eq_true rfl) (by rw [hmc, hms]; omega) (fun E h' hE => ?_) (fun v h' hv => ?_)
  · rcases hψ E h' hE with rfl
    · refine ⟨12, ⟨[], [], ⟨0, 9, 12, 68⟩, rfl, (fun z hz => by cases hz), by decide, by decide, rfl, by decide, kL_68, kc_NoSuchElement⟩, fun q1 => ?_⟩
      refine zt_astore hY eL_median_12 rfl ?_
      refine zt_const hY eL_median_13 ?_
      refine zt_ireturn hY eL_median_14 rfl ?_ (by rw [hmc, hms]; omega)
      rw [hφY]
      exact Or.inr ⟨_, hE, by rw [u_cd1]⟩
  · obtain ⟨r, f, rfl, hr, ho⟩ := hφ v h' hv
    refine zt_i2l hY eL_median_7 hr ?_
    refine zt_lastore hY eL_median_8 ho (by omega) ?_
    refine zt_goto hY eL_median_9 ?_
    refine zt_const hY eL_median_15 ?_
    refine zt_ireturn hY eL_median_16 rfl ?_ (by rw [hmc, hms]; omega)
    rw [hφY]
    exact Or.inl ⟨r, f, h', hv, hr, ho, rfl, rfl⟩
theorem u_quantile {G : z_G} {H : z_H} {q o d1 mc ms : Nat} {x0 x1 : Int} {φ1 : Option Value → z_H → Prop} {ψ1 : String → z_H → Prop} {fs : List Value} (hG : z_OK G) (hN : z_NC G) (hb : H q = some (z_ob 7 fs)) (ht : z_T G mX7_quantile [.ref q, z_i x0, z_i x1] H d1 mc ms φ1 ψ1)
    (hφ : ∀ v h', φ1 v h' → ∃ (r : Int) (f : Int → Int), v = some (z_i r) ∧ (-2147483648 ≤ r ∧ r ≤ 2147483647) ∧ h' o = some (z_la 1 f)) (hψ : ∀ E h', ψ1 E h' → E = "java/lang/IllegalArgumentException" ∨ E = "java/util/NoSuchElementException") :
    z_TH G mL_quantile hL_quantile [.ref q, z_i x0, z_i x1, .ref o] H (d1 + 1) mc ms (u_P o "java/lang/IllegalArgumentException" φ1 ψ1) := by
  refine z_TH_of hG pL_quantile (Nat.le_of_ble_eq_true rfl) rfl (fun Y hY hg hmc hms hφY hψY => ?_)
  refine zt_aload hY eL_quantile_0 3 rfl ?_
  refine zt_const hY eL_quantile_1 ?_
  refine zt_aload hY eL_quantile_2 0 rfl ?_
  refine zt_iload hY eL_quantile_3 1 rfl ?_
  refine zt_iload hY eL_quantile_4 2 rfl ?_
  refine zt_callV (M' := mX7_quantile) (As := [z_i x0, z_i x1]) (rest := [z_i 0, .ref o]) (φ1 := φ1) (ψ1 := ψ1) (d1 := d1) (mc1 := mc) (ms1 := ms) (by rw [hg]; exact hN) hY eL_quantile_5 (by rw [hg]; exact ht) hb (Nat.lt_succ_self _) (Nat.le_of_ble_eq_true rfl) (by rw [hmc, hms]; omega) (fun E h' hE => ?_) (fun v h' hv => ?_)
  · rcases hψ E h' hE with rfl | rfl
    · refine ⟨13, ⟨[], [⟨0, 10, 17, 68⟩], ⟨0, 10, 13, 19⟩, rfl, (fun z hz => by cases hz), by decide, by decide, rfl, by decide, kL_19, kc_IllegalArgument⟩, fun q1 => ?_⟩
      refine zt_astore hY eL_quantile_13 rfl ?_
      refine zt_const hY eL_quantile_15 ?_
      refine zt_ireturn hY eL_quantile_16 rfl ?_ (by rw [hmc, hms]; omega)
      rw [hφY]
      exact Or.inr ⟨_, hE, by rw [u_cd1]⟩
    · refine ⟨17, ⟨[⟨0, 10, 13, 19⟩], [], ⟨0, 10, 17, 68⟩, rfl, (fun z hz => by rw [List.mem_singleton.mp hz]; exact ⟨by decide, "java/lang/IllegalArgumentException", by decide, by decide, kL_19⟩), by decide, by decide, rfl, by decide, kL_68, kc_NoSuchElement⟩, fun q1 => ?_⟩
      refine zt_astore hY eL_quantile_17 rfl ?_
      refine zt_const hY eL_quantile_19 ?_
      refine zt_ireturn hY eL_quantile_20 rfl ?_ (by rw [hmc, hms]; omega)
      rw [hφY]
      exact Or.inr ⟨_, hE, by rw [u_cd2 (by decide)]⟩
  · obtain ⟨r, f, rfl, hr, ho⟩ := hφ v h' hv
    refine zt_i2l hY eL_quantile_8 hr ?_
    refine zt_lastore hY eL_quantile_9 ho (by omega) ?_
    refine zt_goto hY eL_quantile_10 ?_
    refine zt_const hY eL_quantile_21 ?_
    refine zt_ireturn hY eL_quantile_22 rfl ?_ (by rw [hmc, hms]; omega)
    rw [hφY]
    exact Or.inl ⟨r, f, h', hv, hr, ho, rfl, rfl⟩
theorem u_enter {G : z_G} {H : z_H} {q o d1 mc ms : Nat} {x0 : Int} {φ1 : Option Value → z_H → Prop} {ψ1 : String → z_H → Prop} {fs : List Value} (hG : z_OK G) (hN : z_NC G) (hb : H q = some (z_ob 7 fs)) (ht : z_T G mX7_enter [.ref q, z_i x0] H d1 mc ms φ1 ψ1)
    (hφ : ∀ v h', φ1 v h' → ∃ (r : Int) (f : Int → Int), v = some (z_i r) ∧ (-2147483648 ≤ r ∧ r ≤ 2147483647) ∧ h' o = some (z_la 1 f)) (hψ : ∀ E h', ψ1 E h' → E = "java/lang/IndexOutOfBoundsException" ∨ E = "java/lang/IllegalStateException") :
    z_TH G mL_enter hL_enter [.ref q, z_i x0, .ref o] H (d1 + 1) mc ms (u_P o "java/lang/IndexOutOfBoundsException" φ1 ψ1) := by
  refine z_TH_of hG pL_enter (Nat.le_of_ble_eq_true rfl) rfl (fun Y hY hg hmc hms hφY hψY => ?_)
  refine zt_aload hY eL_enter_0 2 rfl ?_
  refine zt_const hY eL_enter_1 ?_
  refine zt_aload hY eL_enter_2 0 rfl ?_
  refine zt_iload hY eL_enter_3 1 rfl ?_
  refine zt_callV (M' := mX7_enter) (As := [z_i x0]) (rest := [z_i 0, .ref o]) (φ1 := φ1) (ψ1 := ψ1) (d1 := d1) (mc1 := mc) (ms1 := ms) (by rw [hg]; exact hN) hY eL_enter_4 (by rw [hg]; exact ht) hb (Nat.lt_succ_self _) (Nat.le_of_ble_eq_true rfl) (by rw [hmc, hms]; omega) (fun E h' hE => ?_) (fun v h' hv => ?_)
  · rcases hψ E h' hE with rfl | rfl
    · refine ⟨12, ⟨[], [⟨0, 9, 15, 13⟩], ⟨0, 9, 12, 25⟩, rfl, (fun z hz => by cases hz), by decide, by decide, rfl, by decide, kL_25, kc_IndexOutOfBounds⟩, fun q1 => ?_⟩
      refine zt_astore hY eL_enter_12 rfl ?_
      refine zt_const hY eL_enter_13 ?_
      refine zt_ireturn hY eL_enter_14 rfl ?_ (by rw [hmc, hms]; omega)
      rw [hφY]
      exact Or.inr ⟨_, hE, by rw [u_cd1]⟩
    · refine ⟨15, ⟨[⟨0, 9, 12, 25⟩], [], ⟨0, 9, 15, 13⟩, rfl, (fun z hz => by rw [List.mem_singleton.mp hz]; exact ⟨by decide, "java/lang/IndexOutOfBoundsException", by decide, by decide, kL_25⟩), by decide, by decide, rfl, by decide, kL_13, kc_IllegalState⟩, fun q1 => ?_⟩
      refine zt_astore hY eL_enter_15 rfl ?_
      refine zt_const hY eL_enter_16 ?_
      refine zt_ireturn hY eL_enter_17 rfl ?_ (by rw [hmc, hms]; omega)
      rw [hφY]
      exact Or.inr ⟨_, hE, by rw [u_cd2 (by decide)]⟩
  · obtain ⟨r, f, rfl, hr, ho⟩ := hφ v h' hv
    refine zt_i2l hY eL_enter_7 hr ?_
    refine zt_lastore hY eL_enter_8 ho (by omega) ?_
    refine zt_goto hY eL_enter_9 ?_
    refine zt_const hY eL_enter_18 ?_
    refine zt_ireturn hY eL_enter_19 rfl ?_ (by rw [hmc, hms]; omega)
    rw [hφY]
    exact Or.inl ⟨r, f, h', hv, hr, ho, rfl, rfl⟩
theorem u_challenge {G : z_G} {H : z_H} {q o d1 mc ms : Nat} {x0 x1 x2 : Int} {φ1 : Option Value → z_H → Prop} {ψ1 : String → z_H → Prop} {fs : List Value} (hG : z_OK G) (hN : z_NC G) (hb : H q = some (z_ob 7 fs)) (ht : z_T G mX7_challenge [.ref q, z_i x0, z_i x1, z_i x2] H d1 mc ms φ1 ψ1)
    (hφ : ∀ v h', φ1 v h' → ∃ (r : Int) (f : Int → Int), v = some (z_i r) ∧ (-2147483648 ≤ r ∧ r ≤ 2147483647) ∧ h' o = some (z_la 1 f)) (hψ : ∀ E h', ψ1 E h' → E = "java/lang/IndexOutOfBoundsException" ∨ E = "java/lang/IllegalStateException") :
    z_TH G mL_challenge hL_challenge [.ref q, z_i x0, z_i x1, z_i x2, .ref o] H (d1 + 1) mc ms (u_P o "java/lang/IndexOutOfBoundsException" φ1 ψ1) := by
  refine z_TH_of hG pL_challenge (Nat.le_of_ble_eq_true rfl) rfl (fun Y hY hg hmc hms hφY hψY => ?_)
  refine zt_aload hY eL_challenge_0 4 rfl ?_
  refine zt_const hY eL_challenge_2 ?_
  refine zt_aload hY eL_challenge_3 0 rfl ?_
  refine zt_iload hY eL_challenge_4 1 rfl ?_
  refine zt_iload hY eL_challenge_5 2 rfl ?_
  refine zt_iload hY eL_challenge_6 3 rfl ?_
  refine zt_callV (M' := mX7_challenge) (As := [z_i x0, z_i x1, z_i x2]) (rest := [z_i 0, .ref o]) (φ1 := φ1) (ψ1 := ψ1) (d1 := d1) (mc1 := mc) (ms1 := ms) (by rw [hg]; exact hN) hY eL_challenge_7 (by rw [hg]; exact ht) hb (Nat.lt_succ_self _) (Nat.le_of_ble_eq_true rfl) (by rw [hmc, hms]; omega) (fun E h' hE => ?_) (fun v h' hv => ?_)
  · rcases hψ E h' hE with rfl | rfl
    · refine ⟨15, ⟨[], [⟨0, 12, 19, 13⟩], ⟨0, 12, 15, 25⟩, rfl, (fun z hz => by cases hz), by decide, by decide, rfl, by decide, kL_25, kc_IndexOutOfBounds⟩, fun q1 => ?_⟩
      refine zt_astore hY eL_challenge_15 rfl ?_
      refine zt_const hY eL_challenge_17 ?_
      refine zt_ireturn hY eL_challenge_18 rfl ?_ (by rw [hmc, hms]; omega)
      rw [hφY]
      exact Or.inr ⟨_, hE, by rw [u_cd1]⟩
    · refine ⟨19, ⟨[⟨0, 12, 15, 25⟩], [], ⟨0, 12, 19, 13⟩, rfl, (fun z hz => by rw [List.mem_singleton.mp hz]; exact ⟨by decide, "java/lang/IndexOutOfBoundsException", by decide, by decide, kL_25⟩), by decide, by decide, rfl, by decide, kL_13, kc_IllegalState⟩, fun q1 => ?_⟩
      refine zt_astore hY eL_challenge_19 rfl ?_
      refine zt_const hY eL_challenge_21 ?_
      refine zt_ireturn hY eL_challenge_22 rfl ?_ (by rw [hmc, hms]; omega)
      rw [hφY]
      exact Or.inr ⟨_, hE, by rw [u_cd2 (by decide)]⟩
  · obtain ⟨r, f, rfl, hr, ho⟩ := hφ v h' hv
    refine zt_i2l hY eL_challenge_10 hr ?_
    refine zt_lastore hY eL_challenge_11 ho (by omega) ?_
    refine zt_goto hY eL_challenge_12 ?_
    refine zt_const hY eL_challenge_23 ?_
    refine zt_ireturn hY eL_challenge_24 rfl ?_ (by rw [hmc, hms]; omega)
    rw [hφY]
    exact Or.inl ⟨r, f, h', hv, hr, ho, rfl, rfl⟩
theorem u_mayChallenge {G : z_G} {H : z_H} {q o d1 mc ms : Nat} {x0 : Int} {φ1 : Option Value → z_H → Prop} {ψ1 : String → z_H → Prop} {fs : List Value} (hG : z_OK G) (hN : z_NC G) (hb : H q = some (z_ob 7 fs)) (ht : z_T G mX7_mayChallenge [.ref q, z_i x0] H d1 mc ms φ1 ψ1)
    (hφ : ∀ v h', φ1 v h' → ∃ (r : Int) (f : Int → Int), v = some (z_i r) ∧ (-2147483648 ≤ r ∧ r ≤ 2147483647) ∧ h' o = some (z_la 1 f)) (hψ : ∀ E h', ψ1 E h' → E = "java/lang/IndexOutOfBoundsException") :
    z_TH G mL_mayChallenge hL_mayChallenge [.ref q, z_i x0, .ref o] H (d1 + 1) mc ms (u_P o "java/lang/IndexOutOfBoundsException" φ1 ψ1) := by
  refine z_TH_of hG pL_mayChallenge (Nat.le_of_ble_eq_true rfl) rfl (fun Y hY hg hmc hms hφY hψY => ?_)
  refine zt_aload hY eL_mayChallenge_0 2 rfl ?_
  refine zt_const hY eL_mayChallenge_1 ?_
  refine zt_aload hY eL_mayChallenge_2 0 rfl ?_
  refine zt_iload hY eL_mayChallenge_3 1 rfl ?_
  refine zt_callV (M' := mX7_mayChallenge) (As := [z_i x0]) (rest := [z_i 0, .ref o]) (φ1 := φ1) (ψ1 := ψ1) (d1 := d1) (mc1 := mc) (ms1 := ms) (by rw [hg]; exact hN) hY eL_mayChallenge_4 (by rw [hg]; exact ht) hb (Nat.lt_succ_self _) (Nat.le_of_ble_eq_true rfl) (by rw [hmc, hms]; omega) (fun E h' hE => ?_) (fun v h' hv => ?_)
  · rcases hψ E h' hE with rfl
    · refine ⟨12, ⟨[], [], ⟨0, 9, 12, 25⟩, rfl, (fun z hz => by cases hz), by decide, by decide, rfl, by decide, kL_25, kc_IndexOutOfBounds⟩, fun q1 => ?_⟩
      refine zt_astore hY eL_mayChallenge_12 rfl ?_
      refine zt_const hY eL_mayChallenge_13 ?_
      refine zt_ireturn hY eL_mayChallenge_14 rfl ?_ (by rw [hmc, hms]; omega)
      rw [hφY]
      exact Or.inr ⟨_, hE, by rw [u_cd1]⟩
  · obtain ⟨r, f, rfl, hr, ho⟩ := hφ v h' hv
    refine zt_i2l hY eL_mayChallenge_7 hr ?_
    refine zt_lastore hY eL_mayChallenge_8 ho (by omega) ?_
    refine zt_goto hY eL_mayChallenge_9 ?_
    refine zt_const hY eL_mayChallenge_15 ?_
    refine zt_ireturn hY eL_mayChallenge_16 rfl ?_ (by rw [hmc, hms]; omega)
    rw [hφY]
    exact Or.inl ⟨r, f, h', hv, hr, ho, rfl, rfl⟩
theorem u_setReach {G : z_G} {H : z_H} {q o d1 mc ms : Nat} {x0 : Int} {φ1 : Option Value → z_H → Prop} {ψ1 : String → z_H → Prop} {fs : List Value} (hG : z_OK G) (hN : z_NC G) (hb : H q = some (z_ob 7 fs)) (ht : z_T G mX7_setReach [.ref q, z_i x0] H d1 mc ms φ1 ψ1)
    (hφ : ∀ v h', φ1 v h' → ∃ (r : Int) (f : Int → Int), v = some (z_i r) ∧ (-2147483648 ≤ r ∧ r ≤ 2147483647) ∧ h' o = some (z_la 1 f)) (hψ : ∀ E h', ψ1 E h' → E = "java/lang/IllegalArgumentException") :
    z_TH G mL_setReach hL_setReach [.ref q, z_i x0, .ref o] H (d1 + 1) mc ms (u_P o "java/lang/IllegalArgumentException" φ1 ψ1) := by
  refine z_TH_of hG pL_setReach (Nat.le_of_ble_eq_true rfl) rfl (fun Y hY hg hmc hms hφY hψY => ?_)
  refine zt_aload hY eL_setReach_0 2 rfl ?_
  refine zt_const hY eL_setReach_1 ?_
  refine zt_aload hY eL_setReach_2 0 rfl ?_
  refine zt_iload hY eL_setReach_3 1 rfl ?_
  refine zt_callV (M' := mX7_setReach) (As := [z_i x0]) (rest := [z_i 0, .ref o]) (φ1 := φ1) (ψ1 := ψ1) (d1 := d1) (mc1 := mc) (ms1 := ms) (by rw [hg]; exact hN) hY eL_setReach_4 (by rw [hg]; exact ht) hb (Nat.lt_succ_self _) (Nat.le_of_ble_eq_true rfl) (by rw [hmc, hms]; omega) (fun E h' hE => ?_) (fun v h' hv => ?_)
  · rcases hψ E h' hE with rfl
    · refine ⟨12, ⟨[], [], ⟨0, 9, 12, 19⟩, rfl, (fun z hz => by cases hz), by decide, by decide, rfl, by decide, kL_19, kc_IllegalArgument⟩, fun q1 => ?_⟩
      refine zt_astore hY eL_setReach_12 rfl ?_
      refine zt_const hY eL_setReach_13 ?_
      refine zt_ireturn hY eL_setReach_14 rfl ?_ (by rw [hmc, hms]; omega)
      rw [hφY]
      exact Or.inr ⟨_, hE, by rw [u_cd1]⟩
  · obtain ⟨r, f, rfl, hr, ho⟩ := hφ v h' hv
    refine zt_i2l hY eL_setReach_7 hr ?_
    refine zt_lastore hY eL_setReach_8 ho (by omega) ?_
    refine zt_goto hY eL_setReach_9 ?_
    refine zt_const hY eL_setReach_15 ?_
    refine zt_ireturn hY eL_setReach_16 rfl ?_ (by rw [hmc, hms]; omega)
    rw [hφY]
    exact Or.inl ⟨r, f, h', hv, hr, ho, rfl, rfl⟩
theorem u_setPatience {G : z_G} {H : z_H} {q o d1 mc ms : Nat} {x0 : Int} {φ1 : Option Value → z_H → Prop} {ψ1 : String → z_H → Prop} {fs : List Value} (hG : z_OK G) (hN : z_NC G) (hb : H q = some (z_ob 7 fs)) (ht : z_T G mX7_setPatience [.ref q, z_i x0] H d1 mc ms φ1 ψ1)
    (hφ : ∀ v h', φ1 v h' → ∃ (r : Int) (f : Int → Int), v = some (z_i r) ∧ (-2147483648 ≤ r ∧ r ≤ 2147483647) ∧ h' o = some (z_la 1 f)) (hψ : ∀ E h', ψ1 E h' → E = "java/lang/IllegalArgumentException") :
    z_TH G mL_setPatience hL_setPatience [.ref q, z_i x0, .ref o] H (d1 + 1) mc ms (u_P o "java/lang/IllegalArgumentException" φ1 ψ1) := by
  refine z_TH_of hG pL_setPatience (Nat.le_of_ble_eq_true rfl) rfl (fun Y hY hg hmc hms hφY hψY => ?_)
  refine zt_aload hY eL_setPatience_0 2 rfl ?_
  refine zt_const hY eL_setPatience_1 ?_
  refine zt_aload hY eL_setPatience_2 0 rfl ?_
  refine zt_iload hY eL_setPatience_3 1 rfl ?_
  refine zt_callV (M' := mX7_setPatience) (As := [z_i x0]) (rest := [z_i 0, .ref o]) (φ1 := φ1) (ψ1 := ψ1) (d1 := d1) (mc1 := mc) (ms1 := ms) (by rw [hg]; exact hN) hY eL_setPatience_4 (by rw [hg]; exact ht) hb (Nat.lt_succ_self _) (Nat.le_of_ble_eq_true rfl) (by rw [hmc, hms]; omega) (fun E h' hE => ?_) (fun v h' hv => ?_)
  · rcases hψ E h' hE with rfl
    · refine ⟨12, ⟨[], [], ⟨0, 9, 12, 19⟩, rfl, (fun z hz => by cases hz), by decide, by decide, rfl, by decide, kL_19, kc_IllegalArgument⟩, fun q1 => ?_⟩
      refine zt_astore hY eL_setPatience_12 rfl ?_
      refine zt_const hY eL_setPatience_13 ?_
      refine zt_ireturn hY eL_setPatience_14 rfl ?_ (by rw [hmc, hms]; omega)
      rw [hφY]
      exact Or.inr ⟨_, hE, by rw [u_cd1]⟩
  · obtain ⟨r, f, rfl, hr, ho⟩ := hφ v h' hv
    refine zt_i2l hY eL_setPatience_7 hr ?_
    refine zt_lastore hY eL_setPatience_8 ho (by omega) ?_
    refine zt_goto hY eL_setPatience_9 ?_
    refine zt_const hY eL_setPatience_15 ?_
    refine zt_ireturn hY eL_setPatience_16 rfl ?_ (by rw [hmc, hms]; omega)
    rw [hφY]
    exact Or.inl ⟨r, f, h', hv, hr, ho, rfl, rfl⟩
theorem u_ladderAt {G : z_G} {H : z_H} {q o d1 mc ms : Nat} {x0 : Int} {φ1 : Option Value → z_H → Prop} {ψ1 : String → z_H → Prop} {fs : List Value} (hG : z_OK G) (hN : z_NC G) (hb : H q = some (z_ob 7 fs)) (ht : z_T G mX7_ladderAt [.ref q, z_i x0] H d1 mc ms φ1 ψ1)
    (hφ : ∀ v h', φ1 v h' → ∃ (r : Int) (f : Int → Int), v = some (z_i r) ∧ (-2147483648 ≤ r ∧ r ≤ 2147483647) ∧ h' o = some (z_la 1 f)) (hψ : ∀ E h', ψ1 E h' → E = "java/lang/IndexOutOfBoundsException") :
    z_TH G mL_ladderAt hL_ladderAt [.ref q, z_i x0, .ref o] H (d1 + 1) mc ms (u_P o "java/lang/IndexOutOfBoundsException" φ1 ψ1) := by
  refine z_TH_of hG pL_ladderAt (Nat.le_of_ble_eq_true rfl) rfl (fun Y hY hg hmc hms hφY hψY => ?_)
  refine zt_aload hY eL_ladderAt_0 2 rfl ?_
  refine zt_const hY eL_ladderAt_1 ?_
  refine zt_aload hY eL_ladderAt_2 0 rfl ?_
  refine zt_iload hY eL_ladderAt_3 1 rfl ?_
  refine zt_callV (M' := mX7_ladderAt) (As := [z_i x0]) (rest := [z_i 0, .ref o]) (φ1 := φ1) (ψ1 := ψ1) (d1 := d1) (mc1 := mc) (ms1 := ms) (by rw [hg]; exact hN) hY eL_ladderAt_4 (by rw [hg]; exact ht) hb (Nat.lt_succ_self _) (Nat.le_of_ble_eq_true rfl) (by rw [hmc, hms]; omega) (fun E h' hE => ?_) (fun v h' hv => ?_)
  · rcases hψ E h' hE with rfl
    · refine ⟨12, ⟨[], [], ⟨0, 9, 12, 25⟩, rfl, (fun z hz => by cases hz), by decide, by decide, rfl, by decide, kL_25, kc_IndexOutOfBounds⟩, fun q1 => ?_⟩
      refine zt_astore hY eL_ladderAt_12 rfl ?_
      refine zt_const hY eL_ladderAt_13 ?_
      refine zt_ireturn hY eL_ladderAt_14 rfl ?_ (by rw [hmc, hms]; omega)
      rw [hφY]
      exact Or.inr ⟨_, hE, by rw [u_cd1]⟩
  · obtain ⟨r, f, rfl, hr, ho⟩ := hφ v h' hv
    refine zt_i2l hY eL_ladderAt_7 hr ?_
    refine zt_lastore hY eL_ladderAt_8 ho (by omega) ?_
    refine zt_goto hY eL_ladderAt_9 ?_
    refine zt_const hY eL_ladderAt_15 ?_
    refine zt_ireturn hY eL_ladderAt_16 rfl ?_ (by rw [hmc, hms]; omega)
    rw [hφY]
    exact Or.inl ⟨r, f, h', hv, hr, ho, rfl, rfl⟩
theorem u_ladderPlace {G : z_G} {H : z_H} {q o d1 mc ms : Nat} {x0 : Int} {φ1 : Option Value → z_H → Prop} {ψ1 : String → z_H → Prop} {fs : List Value} (hG : z_OK G) (hN : z_NC G) (hb : H q = some (z_ob 7 fs)) (ht : z_T G mX7_ladderPlace [.ref q, z_i x0] H d1 mc ms φ1 ψ1)
    (hφ : ∀ v h', φ1 v h' → ∃ (r : Int) (f : Int → Int), v = some (z_i r) ∧ (-2147483648 ≤ r ∧ r ≤ 2147483647) ∧ h' o = some (z_la 1 f)) (hψ : ∀ E h', ψ1 E h' → E = "java/lang/IndexOutOfBoundsException") :
    z_TH G mL_ladderPlace hL_ladderPlace [.ref q, z_i x0, .ref o] H (d1 + 1) mc ms (u_P o "java/lang/IndexOutOfBoundsException" φ1 ψ1) := by
  refine z_TH_of hG pL_ladderPlace (Nat.le_of_ble_eq_true rfl) rfl (fun Y hY hg hmc hms hφY hψY => ?_)
  refine zt_aload hY eL_ladderPlace_0 2 rfl ?_
  refine zt_const hY eL_ladderPlace_1 ?_
  refine zt_aload hY eL_ladderPlace_2 0 rfl ?_
  refine zt_iload hY eL_ladderPlace_3 1 rfl ?_
  refine zt_callV (M' := mX7_ladderPlace) (As := [z_i x0]) (rest := [z_i 0, .ref o]) (φ1 := φ1) (ψ1 := ψ1) (d1 := d1) (mc1 := mc) (ms1 := ms) (by rw [hg]; exact hN) hY eL_ladderPlace_4 (by rw [hg]; exact ht) hb (Nat.lt_succ_self _) (Nat.le_of_ble_eq_true rfl) (by rw [hmc, hms]; omega) (fun E h' hE => ?_) (fun v h' hv => ?_)
  · rcases hψ E h' hE with rfl
    · refine ⟨12, ⟨[], [], ⟨0, 9, 12, 25⟩, rfl, (fun z hz => by cases hz), by decide, by decide, rfl, by decide, kL_25, kc_IndexOutOfBounds⟩, fun q1 => ?_⟩
      refine zt_astore hY eL_ladderPlace_12 rfl ?_
      refine zt_const hY eL_ladderPlace_13 ?_
      refine zt_ireturn hY eL_ladderPlace_14 rfl ?_ (by rw [hmc, hms]; omega)
      rw [hφY]
      exact Or.inr ⟨_, hE, by rw [u_cd1]⟩
  · obtain ⟨r, f, rfl, hr, ho⟩ := hφ v h' hv
    refine zt_i2l hY eL_ladderPlace_7 hr ?_
    refine zt_lastore hY eL_ladderPlace_8 ho (by omega) ?_
    refine zt_goto hY eL_ladderPlace_9 ?_
    refine zt_const hY eL_ladderPlace_15 ?_
    refine zt_ireturn hY eL_ladderPlace_16 rfl ?_ (by rw [hmc, hms]; omega)
    rw [hφY]
    exact Or.inl ⟨r, f, h', hv, hr, ho, rfl, rfl⟩
theorem u_endRound {G : z_G} {H : z_H} {q o d1 mc ms : Nat} {φ1 : Option Value → z_H → Prop} {ψ1 : String → z_H → Prop} {fs : List Value} (hG : z_OK G) (hN : z_NC G) (hb : H q = some (z_ob 7 fs)) (ht : z_T G mX7_endRound [.ref q] H d1 mc ms φ1 ψ1)
    (hφ : ∀ v h', φ1 v h' → ∃ (r : Int) (f : Int → Int), v = some (z_i r) ∧ (-2147483648 ≤ r ∧ r ≤ 2147483647) ∧ h' o = some (z_la 1 f)) (hψ : ∀ E h', ψ1 E h' → E = "java/lang/IllegalStateException") :
    z_TH G mL_endRound hL_endRound [.ref q, .ref o] H (d1 + 1) mc ms (u_P o "java/lang/IllegalStateException" φ1 ψ1) := by
  refine z_TH_of hG pL_endRound (Nat.le_of_ble_eq_true rfl) rfl (fun Y hY hg hmc hms hφY hψY => ?_)
  refine zt_aload hY eL_endRound_0 1 rfl ?_
  refine zt_const hY eL_endRound_1 ?_
  refine zt_aload hY eL_endRound_2 0 rfl ?_
  refine zt_callV (M' := mX7_endRound) (As := []) (rest := [z_i 0, .ref o]) (φ1 := φ1) (ψ1 := ψ1) (d1 := d1) (mc1 := mc) (ms1 := ms) (by rw [hg]; exact hN) hY eL_endRound_3 (by rw [hg]; exact ht) hb (Nat.lt_succ_self _) (Nat.le_of_ble_eq_true rfl) (by rw [hmc, hms]; omega) (fun E h' hE => ?_) (fun v h' hv => ?_)
  · rcases hψ E h' hE with rfl
    · refine ⟨11, ⟨[], [], ⟨0, 8, 11, 13⟩, rfl, (fun z hz => by cases hz), by decide, by decide, rfl, by decide, kL_13, kc_IllegalState⟩, fun q1 => ?_⟩
      refine zt_astore hY eL_endRound_11 rfl ?_
      refine zt_const hY eL_endRound_12 ?_
      refine zt_ireturn hY eL_endRound_13 rfl ?_ (by rw [hmc, hms]; omega)
      rw [hφY]
      exact Or.inr ⟨_, hE, by rw [u_cd1]⟩
  · obtain ⟨r, f, rfl, hr, ho⟩ := hφ v h' hv
    refine zt_i2l hY eL_endRound_6 hr ?_
    refine zt_lastore hY eL_endRound_7 ho (by omega) ?_
    refine zt_goto hY eL_endRound_8 ?_
    refine zt_const hY eL_endRound_14 ?_
    refine zt_ireturn hY eL_endRound_15 rfl ?_ (by rw [hmc, hms]; omega)
    rw [hφY]
    exact Or.inl ⟨r, f, h', hv, hr, ho, rfl, rfl⟩
theorem u_gain {G : z_G} {H : z_H} {q o d1 mc ms : Nat} {x0 : Int} {φ1 : Option Value → z_H → Prop} {ψ1 : String → z_H → Prop} {fs : List Value} (hG : z_OK G) (hN : z_NC G) (hb : H q = some (z_ob 7 fs)) (ht : z_T G mX7_gain [.ref q, z_i x0] H d1 mc ms φ1 ψ1)
    (hφ : ∀ v h', φ1 v h' → ∃ (r : Int) (f : Int → Int), v = some (z_i r) ∧ (-2147483648 ≤ r ∧ r ≤ 2147483647) ∧ h' o = some (z_la 1 f)) (hψ : ∀ E h', ψ1 E h' → E = "java/lang/IndexOutOfBoundsException") :
    z_TH G mL_gain hL_gain [.ref q, z_i x0, .ref o] H (d1 + 1) mc ms (u_P o "java/lang/IndexOutOfBoundsException" φ1 ψ1) := by
  refine z_TH_of hG pL_gain (Nat.le_of_ble_eq_true rfl) rfl (fun Y hY hg hmc hms hφY hψY => ?_)
  refine zt_aload hY eL_gain_0 2 rfl ?_
  refine zt_const hY eL_gain_1 ?_
  refine zt_aload hY eL_gain_2 0 rfl ?_
  refine zt_iload hY eL_gain_3 1 rfl ?_
  refine zt_callV (M' := mX7_gain) (As := [z_i x0]) (rest := [z_i 0, .ref o]) (φ1 := φ1) (ψ1 := ψ1) (d1 := d1) (mc1 := mc) (ms1 := ms) (by rw [hg]; exact hN) hY eL_gain_4 (by rw [hg]; exact ht) hb (Nat.lt_succ_self _) (Nat.le_of_ble_eq_true rfl) (by rw [hmc, hms]; omega) (fun E h' hE => ?_) (fun v h' hv => ?_)
  · rcases hψ E h' hE with rfl
    · refine ⟨12, ⟨[], [], ⟨0, 9, 12, 25⟩, rfl, (fun z hz => by cases hz), by decide, by decide, rfl, by decide, kL_25, kc_IndexOutOfBounds⟩, fun q1 => ?_⟩
      refine zt_astore hY eL_gain_12 rfl ?_
      refine zt_const hY eL_gain_13 ?_
      refine zt_ireturn hY eL_gain_14 rfl ?_ (by rw [hmc, hms]; omega)
      rw [hφY]
      exact Or.inr ⟨_, hE, by rw [u_cd1]⟩
  · obtain ⟨r, f, rfl, hr, ho⟩ := hφ v h' hv
    refine zt_i2l hY eL_gain_7 hr ?_
    refine zt_lastore hY eL_gain_8 ho (by omega) ?_
    refine zt_goto hY eL_gain_9 ?_
    refine zt_const hY eL_gain_15 ?_
    refine zt_ireturn hY eL_gain_16 rfl ?_ (by rw [hmc, hms]; omega)
    rw [hφY]
    exact Or.inl ⟨r, f, h', hv, hr, ho, rfl, rfl⟩
theorem u_form {G : z_G} {H : z_H} {q o d1 mc ms : Nat} {x0 x1 x2 : Int} {φ1 : Option Value → z_H → Prop} {ψ1 : String → z_H → Prop} {fs : List Value} (hG : z_OK G) (hN : z_NC G) (hb : H q = some (z_ob 7 fs)) (ht : z_T G mX7_form [.ref q, z_i x0, z_i x1, z_i x2] H d1 mc ms φ1 ψ1)
    (hφ : ∀ v h', φ1 v h' → ∃ (r : Int) (f : Int → Int), v = some (z_i r) ∧ (-2147483648 ≤ r ∧ r ≤ 2147483647) ∧ h' o = some (z_la 1 f)) (hψ : ∀ E h', ψ1 E h' → E = "java/lang/IndexOutOfBoundsException" ∨ E = "java/lang/IllegalArgumentException") :
    z_TH G mL_form hL_form [.ref q, z_i x0, z_i x1, z_i x2, .ref o] H (d1 + 1) mc ms (u_P o "java/lang/IndexOutOfBoundsException" φ1 ψ1) := by
  refine z_TH_of hG pL_form (Nat.le_of_ble_eq_true rfl) rfl (fun Y hY hg hmc hms hφY hψY => ?_)
  refine zt_aload hY eL_form_0 4 rfl ?_
  refine zt_const hY eL_form_2 ?_
  refine zt_aload hY eL_form_3 0 rfl ?_
  refine zt_iload hY eL_form_4 1 rfl ?_
  refine zt_iload hY eL_form_5 2 rfl ?_
  refine zt_iload hY eL_form_6 3 rfl ?_
  refine zt_callV (M' := mX7_form) (As := [z_i x0, z_i x1, z_i x2]) (rest := [z_i 0, .ref o]) (φ1 := φ1) (ψ1 := ψ1) (d1 := d1) (mc1 := mc) (ms1 := ms) (by rw [hg]; exact hN) hY eL_form_7 (by rw [hg]; exact ht) hb (Nat.lt_succ_self _) (Nat.le_of_ble_eq_true rfl) (by rw [hmc, hms]; omega) (fun E h' hE => ?_) (fun v h' hv => ?_)
  · rcases hψ E h' hE with rfl | rfl
    · refine ⟨15, ⟨[], [⟨0, 12, 19, 19⟩], ⟨0, 12, 15, 25⟩, rfl, (fun z hz => by cases hz), by decide, by decide, rfl, by decide, kL_25, kc_IndexOutOfBounds⟩, fun q1 => ?_⟩
      refine zt_astore hY eL_form_15 rfl ?_
      refine zt_const hY eL_form_17 ?_
      refine zt_ireturn hY eL_form_18 rfl ?_ (by rw [hmc, hms]; omega)
      rw [hφY]
      exact Or.inr ⟨_, hE, by rw [u_cd1]⟩
    · refine ⟨19, ⟨[⟨0, 12, 15, 25⟩], [], ⟨0, 12, 19, 19⟩, rfl, (fun z hz => by rw [List.mem_singleton.mp hz]; exact ⟨by decide, "java/lang/IndexOutOfBoundsException", by decide, by decide, kL_25⟩), by decide, by decide, rfl, by decide, kL_19, kc_IllegalArgument⟩, fun q1 => ?_⟩
      refine zt_astore hY eL_form_19 rfl ?_
      refine zt_const hY eL_form_21 ?_
      refine zt_ireturn hY eL_form_22 rfl ?_ (by rw [hmc, hms]; omega)
      rw [hφY]
      exact Or.inr ⟨_, hE, by rw [u_cd2 (by decide)]⟩
  · obtain ⟨r, f, rfl, hr, ho⟩ := hφ v h' hv
    refine zt_i2l hY eL_form_10 hr ?_
    refine zt_lastore hY eL_form_11 ho (by omega) ?_
    refine zt_goto hY eL_form_12 ?_
    refine zt_const hY eL_form_23 ?_
    refine zt_ireturn hY eL_form_24 rfl ?_ (by rw [hmc, hms]; omega)
    rw [hφY]
    exact Or.inl ⟨r, f, h', hv, hr, ho, rfl, rfl⟩
theorem u_inForm {G : z_G} {H : z_H} {q o d1 mc ms : Nat} {x0 x1 : Int} {φ1 : Option Value → z_H → Prop} {ψ1 : String → z_H → Prop} {fs : List Value} (hG : z_OK G) (hN : z_NC G) (hb : H q = some (z_ob 7 fs)) (ht : z_T G mX7_inForm [.ref q, z_i x0, z_i x1] H d1 mc ms φ1 ψ1)
    (hφ : ∀ v h', φ1 v h' → ∃ (r : Int) (f : Int → Int), v = some (z_i r) ∧ (-2147483648 ≤ r ∧ r ≤ 2147483647) ∧ h' o = some (z_la 1 f)) (hψ : ∀ E h', ψ1 E h' → E = "java/lang/IllegalArgumentException" ∨ E = "java/util/NoSuchElementException") :
    z_TH G mL_inForm hL_inForm [.ref q, z_i x0, z_i x1, .ref o] H (d1 + 1) mc ms (u_P o "java/lang/IllegalArgumentException" φ1 ψ1) := by
  refine z_TH_of hG pL_inForm (Nat.le_of_ble_eq_true rfl) rfl (fun Y hY hg hmc hms hφY hψY => ?_)
  refine zt_aload hY eL_inForm_0 3 rfl ?_
  refine zt_const hY eL_inForm_1 ?_
  refine zt_aload hY eL_inForm_2 0 rfl ?_
  refine zt_iload hY eL_inForm_3 1 rfl ?_
  refine zt_iload hY eL_inForm_4 2 rfl ?_
  refine zt_callV (M' := mX7_inForm) (As := [z_i x0, z_i x1]) (rest := [z_i 0, .ref o]) (φ1 := φ1) (ψ1 := ψ1) (d1 := d1) (mc1 := mc) (ms1 := ms) (by rw [hg]; exact hN) hY eL_inForm_5 (by rw [hg]; exact ht) hb (Nat.lt_succ_self _) (Nat.le_of_ble_eq_true rfl) (by rw [hmc, hms]; omega) (fun E h' hE => ?_) (fun v h' hv => ?_)
  · rcases hψ E h' hE with rfl | rfl
    · refine ⟨13, ⟨[], [⟨0, 10, 17, 68⟩], ⟨0, 10, 13, 19⟩, rfl, (fun z hz => by cases hz), by decide, by decide, rfl, by decide, kL_19, kc_IllegalArgument⟩, fun q1 => ?_⟩
      refine zt_astore hY eL_inForm_13 rfl ?_
      refine zt_const hY eL_inForm_15 ?_
      refine zt_ireturn hY eL_inForm_16 rfl ?_ (by rw [hmc, hms]; omega)
      rw [hφY]
      exact Or.inr ⟨_, hE, by rw [u_cd1]⟩
    · refine ⟨17, ⟨[⟨0, 10, 13, 19⟩], [], ⟨0, 10, 17, 68⟩, rfl, (fun z hz => by rw [List.mem_singleton.mp hz]; exact ⟨by decide, "java/lang/IllegalArgumentException", by decide, by decide, kL_19⟩), by decide, by decide, rfl, by decide, kL_68, kc_NoSuchElement⟩, fun q1 => ?_⟩
      refine zt_astore hY eL_inForm_17 rfl ?_
      refine zt_const hY eL_inForm_19 ?_
      refine zt_ireturn hY eL_inForm_20 rfl ?_ (by rw [hmc, hms]; omega)
      rw [hφY]
      exact Or.inr ⟨_, hE, by rw [u_cd2 (by decide)]⟩
  · obtain ⟨r, f, rfl, hr, ho⟩ := hφ v h' hv
    refine zt_i2l hY eL_inForm_8 hr ?_
    refine zt_lastore hY eL_inForm_9 ho (by omega) ?_
    refine zt_goto hY eL_inForm_10 ?_
    refine zt_const hY eL_inForm_21 ?_
    refine zt_ireturn hY eL_inForm_22 rfl ?_ (by rw [hmc, hms]; omega)
    rw [hφY]
    exact Or.inl ⟨r, f, h', hv, hr, ho, rfl, rfl⟩
theorem u_placeThen {G : z_G} {H : z_H} {q o d1 mc ms : Nat} {x0 x1 : Int} {φ1 : Option Value → z_H → Prop} {ψ1 : String → z_H → Prop} {fs : List Value} (hG : z_OK G) (hN : z_NC G) (hb : H q = some (z_ob 7 fs)) (ht : z_T G mX7_placeThen [.ref q, z_i x0, z_i x1] H d1 mc ms φ1 ψ1)
    (hφ : ∀ v h', φ1 v h' → ∃ (r : Int) (f : Int → Int), v = some (z_i r) ∧ (-2147483648 ≤ r ∧ r ≤ 2147483647) ∧ h' o = some (z_la 1 f)) (hψ : ∀ E h', ψ1 E h' → E = "java/util/NoSuchElementException" ∨ E = "java/lang/IllegalArgumentException") :
    z_TH G mL_placeThen hL_placeThen [.ref q, z_i x0, z_i x1, .ref o] H (d1 + 1) mc ms (u_P o "java/util/NoSuchElementException" φ1 ψ1) := by
  refine z_TH_of hG pL_placeThen (Nat.le_of_ble_eq_true rfl) rfl (fun Y hY hg hmc hms hφY hψY => ?_)
  refine zt_aload hY eL_placeThen_0 3 rfl ?_
  refine zt_const hY eL_placeThen_1 ?_
  refine zt_aload hY eL_placeThen_2 0 rfl ?_
  refine zt_iload hY eL_placeThen_3 1 rfl ?_
  refine zt_iload hY eL_placeThen_4 2 rfl ?_
  refine zt_callV (M' := mX7_placeThen) (As := [z_i x0, z_i x1]) (rest := [z_i 0, .ref o]) (φ1 := φ1) (ψ1 := ψ1) (d1 := d1) (mc1 := mc) (ms1 := ms) (by rw [hg]; exact hN) hY eL_placeThen_5 (by rw [hg]; exact ht) hb (Nat.lt_succ_self _) (Nat.le_of_ble_eq_true rfl) (by rw [hmc, hms]; omega) (fun E h' hE => ?_) (fun v h' hv => ?_)
  · rcases hψ E h' hE with rfl | rfl
    · refine ⟨13, ⟨[], [⟨0, 10, 17, 19⟩], ⟨0, 10, 13, 68⟩, rfl, (fun z hz => by cases hz), by decide, by decide, rfl, by decide, kL_68, kc_NoSuchElement⟩, fun q1 => ?_⟩
      refine zt_astore hY eL_placeThen_13 rfl ?_
      refine zt_const hY eL_placeThen_15 ?_
      refine zt_ireturn hY eL_placeThen_16 rfl ?_ (by rw [hmc, hms]; omega)
      rw [hφY]
      exact Or.inr ⟨_, hE, by rw [u_cd1]⟩
    · refine ⟨17, ⟨[⟨0, 10, 13, 68⟩], [], ⟨0, 10, 17, 19⟩, rfl, (fun z hz => by rw [List.mem_singleton.mp hz]; exact ⟨by decide, "java/util/NoSuchElementException", by decide, by decide, kL_68⟩), by decide, by decide, rfl, by decide, kL_19, kc_IllegalArgument⟩, fun q1 => ?_⟩
      refine zt_astore hY eL_placeThen_17 rfl ?_
      refine zt_const hY eL_placeThen_19 ?_
      refine zt_ireturn hY eL_placeThen_20 rfl ?_ (by rw [hmc, hms]; omega)
      rw [hφY]
      exact Or.inr ⟨_, hE, by rw [u_cd2 (by decide)]⟩
  · obtain ⟨r, f, rfl, hr, ho⟩ := hφ v h' hv
    refine zt_i2l hY eL_placeThen_8 hr ?_
    refine zt_lastore hY eL_placeThen_9 ho (by omega) ?_
    refine zt_goto hY eL_placeThen_10 ?_
    refine zt_const hY eL_placeThen_21 ?_
    refine zt_ireturn hY eL_placeThen_22 rfl ?_ (by rw [hmc, hms]; omega)
    rw [hφY]
    exact Or.inl ⟨r, f, h', hv, hr, ho, rfl, rfl⟩
theorem u_climb {G : z_G} {H : z_H} {q o d1 mc ms : Nat} {x0 : Int} {φ1 : Option Value → z_H → Prop} {ψ1 : String → z_H → Prop} {fs : List Value} (hG : z_OK G) (hN : z_NC G) (hb : H q = some (z_ob 7 fs)) (ht : z_T G mX7_climb [.ref q, z_i x0] H d1 mc ms φ1 ψ1)
    (hφ : ∀ v h', φ1 v h' → ∃ (r : Int) (f : Int → Int), v = some (z_i r) ∧ (-2147483648 ≤ r ∧ r ≤ 2147483647) ∧ h' o = some (z_la 1 f)) (hψ : ∀ E h', ψ1 E h' → E = "java/util/NoSuchElementException") :
    z_TH G mL_climb hL_climb [.ref q, z_i x0, .ref o] H (d1 + 1) mc ms (u_P o "java/util/NoSuchElementException" φ1 ψ1) := by
  refine z_TH_of hG pL_climb (Nat.le_of_ble_eq_true rfl) rfl (fun Y hY hg hmc hms hφY hψY => ?_)
  refine zt_aload hY eL_climb_0 2 rfl ?_
  refine zt_const hY eL_climb_1 ?_
  refine zt_aload hY eL_climb_2 0 rfl ?_
  refine zt_iload hY eL_climb_3 1 rfl ?_
  refine zt_callV (M' := mX7_climb) (As := [z_i x0]) (rest := [z_i 0, .ref o]) (φ1 := φ1) (ψ1 := ψ1) (d1 := d1) (mc1 := mc) (ms1 := ms) (by rw [hg]; exact hN) hY eL_climb_4 (by rw [hg]; exact ht) hb (Nat.lt_succ_self _) (Nat.le_of_ble_eq_true rfl) (by rw [hmc, hms]; omega) (fun E h' hE => ?_) (fun v h' hv => ?_)
  · rcases hψ E h' hE with rfl
    · refine ⟨12, ⟨[], [], ⟨0, 9, 12, 68⟩, rfl, (fun z hz => by cases hz), by decide, by decide, rfl, by decide, kL_68, kc_NoSuchElement⟩, fun q1 => ?_⟩
      refine zt_astore hY eL_climb_12 rfl ?_
      refine zt_const hY eL_climb_13 ?_
      refine zt_ireturn hY eL_climb_14 rfl ?_ (by rw [hmc, hms]; omega)
      rw [hφY]
      exact Or.inr ⟨_, hE, by rw [u_cd1]⟩
  · obtain ⟨r, f, rfl, hr, ho⟩ := hφ v h' hv
    refine zt_i2l hY eL_climb_7 hr ?_
    refine zt_lastore hY eL_climb_8 ho (by omega) ?_
    refine zt_goto hY eL_climb_9 ?_
    refine zt_const hY eL_climb_15 ?_
    refine zt_ireturn hY eL_climb_16 rfl ?_ (by rw [hmc, hms]; omega)
    rw [hφY]
    exact Or.inl ⟨r, f, h', hv, hr, ho, rfl, rfl⟩
theorem u_best {G : z_G} {H : z_H} {q o d1 mc ms : Nat} {x0 : Int} {φ1 : Option Value → z_H → Prop} {ψ1 : String → z_H → Prop} {fs : List Value} (hG : z_OK G) (hN : z_NC G) (hb : H q = some (z_ob 7 fs)) (ht : z_T G mX7_best [.ref q, z_i x0] H d1 mc ms φ1 ψ1)
    (hφ : ∀ v h', φ1 v h' → ∃ (r : Int) (f : Int → Int), v = some (z_i r) ∧ (-2147483648 ≤ r ∧ r ≤ 2147483647) ∧ h' o = some (z_la 1 f)) (hψ : ∀ E h', ψ1 E h' → E = "java/lang/IllegalArgumentException") :
    z_TH G mL_best hL_best [.ref q, z_i x0, .ref o] H (d1 + 1) mc ms (u_P o "java/lang/IllegalArgumentException" φ1 ψ1) := by
  refine z_TH_of hG pL_best (Nat.le_of_ble_eq_true rfl) rfl (fun Y hY hg hmc hms hφY hψY => ?_)
  refine zt_aload hY eL_best_0 2 rfl ?_
  refine zt_const hY eL_best_1 ?_
  refine zt_aload hY eL_best_2 0 rfl ?_
  refine zt_iload hY eL_best_3 1 rfl ?_
  refine zt_callV (M' := mX7_best) (As := [z_i x0]) (rest := [z_i 0, .ref o]) (φ1 := φ1) (ψ1 := ψ1) (d1 := d1) (mc1 := mc) (ms1 := ms) (by rw [hg]; exact hN) hY eL_best_4 (by rw [hg]; exact ht) hb (Nat.lt_succ_self _) (Nat.le_of_ble_eq_true rfl) (by rw [hmc, hms]; omega) (fun E h' hE => ?_) (fun v h' hv => ?_)
  · rcases hψ E h' hE with rfl
    · refine ⟨12, ⟨[], [], ⟨0, 9, 12, 19⟩, rfl, (fun z hz => by cases hz), by decide, by decide, rfl, by decide, kL_19, kc_IllegalArgument⟩, fun q1 => ?_⟩
      refine zt_astore hY eL_best_12 rfl ?_
      refine zt_const hY eL_best_13 ?_
      refine zt_ireturn hY eL_best_14 rfl ?_ (by rw [hmc, hms]; omega)
      rw [hφY]
      exact Or.inr ⟨_, hE, by rw [u_cd1]⟩
  · obtain ⟨r, f, rfl, hr, ho⟩ := hφ v h' hv
    refine zt_i2l hY eL_best_7 hr ?_
    refine zt_lastore hY eL_best_8 ho (by omega) ?_
    refine zt_goto hY eL_best_9 ?_
    refine zt_const hY eL_best_15 ?_
    refine zt_ireturn hY eL_best_16 rfl ?_ (by rw [hmc, hms]; omega)
    rw [hφY]
    exact Or.inl ⟨r, f, h', hv, hr, ho, rfl, rfl⟩
theorem u_members {G : z_G} {H : z_H} {q o d1 mc ms : Nat} {x0 : Int} {φ1 : Option Value → z_H → Prop} {ψ1 : String → z_H → Prop} {fs : List Value} (hG : z_OK G) (hN : z_NC G) (hb : H q = some (z_ob 7 fs)) (ht : z_T G mX7_members [.ref q, z_i x0] H d1 mc ms φ1 ψ1)
    (hφ : ∀ v h', φ1 v h' → ∃ (r : Int) (f : Int → Int), v = some (z_i r) ∧ (-2147483648 ≤ r ∧ r ≤ 2147483647) ∧ h' o = some (z_la 1 f)) (hψ : ∀ E h', ψ1 E h' → E = "java/lang/IllegalArgumentException") :
    z_TH G mL_members hL_members [.ref q, z_i x0, .ref o] H (d1 + 1) mc ms (u_P o "java/lang/IllegalArgumentException" φ1 ψ1) := by
  refine z_TH_of hG pL_members (Nat.le_of_ble_eq_true rfl) rfl (fun Y hY hg hmc hms hφY hψY => ?_)
  refine zt_aload hY eL_members_0 2 rfl ?_
  refine zt_const hY eL_members_1 ?_
  refine zt_aload hY eL_members_2 0 rfl ?_
  refine zt_iload hY eL_members_3 1 rfl ?_
  refine zt_callV (M' := mX7_members) (As := [z_i x0]) (rest := [z_i 0, .ref o]) (φ1 := φ1) (ψ1 := ψ1) (d1 := d1) (mc1 := mc) (ms1 := ms) (by rw [hg]; exact hN) hY eL_members_4 (by rw [hg]; exact ht) hb (Nat.lt_succ_self _) (Nat.le_of_ble_eq_true rfl) (by rw [hmc, hms]; omega) (fun E h' hE => ?_) (fun v h' hv => ?_)
  · rcases hψ E h' hE with rfl
    · refine ⟨12, ⟨[], [], ⟨0, 9, 12, 19⟩, rfl, (fun z hz => by cases hz), by decide, by decide, rfl, by decide, kL_19, kc_IllegalArgument⟩, fun q1 => ?_⟩
      refine zt_astore hY eL_members_12 rfl ?_
      refine zt_const hY eL_members_13 ?_
      refine zt_ireturn hY eL_members_14 rfl ?_ (by rw [hmc, hms]; omega)
      rw [hφY]
      exact Or.inr ⟨_, hE, by rw [u_cd1]⟩
  · obtain ⟨r, f, rfl, hr, ho⟩ := hφ v h' hv
    refine zt_i2l hY eL_members_7 hr ?_
    refine zt_lastore hY eL_members_8 ho (by omega) ?_
    refine zt_goto hY eL_members_9 ?_
    refine zt_const hY eL_members_15 ?_
    refine zt_ireturn hY eL_members_16 rfl ?_ (by rw [hmc, hms]; omega)
    rw [hφY]
    exact Or.inl ⟨r, f, h', hv, hr, ho, rfl, rfl⟩
theorem u_teamScore {G : z_G} {H : z_H} {q o d1 mc ms : Nat} {x0 : Int} {φ1 : Option Value → z_H → Prop} {ψ1 : String → z_H → Prop} {fs : List Value} (hG : z_OK G) (hN : z_NC G) (hb : H q = some (z_ob 7 fs)) (ht : z_T G mX7_teamScore [.ref q, z_i x0] H d1 mc ms φ1 ψ1)
    (hφ : ∀ v h', φ1 v h' → ∃ (r : Int) (f : Int → Int), v = some (z_i r) ∧ (-2147483648 ≤ r ∧ r ≤ 2147483647) ∧ h' o = some (z_la 1 f)) (hψ : ∀ E h', ψ1 E h' → E = "java/lang/IllegalArgumentException") :
    z_TH G mL_teamScore hL_teamScore [.ref q, z_i x0, .ref o] H (d1 + 1) mc ms (u_P o "java/lang/IllegalArgumentException" φ1 ψ1) := by
  refine z_TH_of hG pL_teamScore (Nat.le_of_ble_eq_true rfl) rfl (fun Y hY hg hmc hms hφY hψY => ?_)
  refine zt_aload hY eL_teamScore_0 2 rfl ?_
  refine zt_const hY eL_teamScore_1 ?_
  refine zt_aload hY eL_teamScore_2 0 rfl ?_
  refine zt_iload hY eL_teamScore_3 1 rfl ?_
  refine zt_callV (M' := mX7_teamScore) (As := [z_i x0]) (rest := [z_i 0, .ref o]) (φ1 := φ1) (ψ1 := ψ1) (d1 := d1) (mc1 := mc) (ms1 := ms) (by rw [hg]; exact hN) hY eL_teamScore_4 (by rw [hg]; exact ht) hb (Nat.lt_succ_self _) (Nat.le_of_ble_eq_true rfl) (by rw [hmc, hms]; omega) (fun E h' hE => ?_) (fun v h' hv => ?_)
  · rcases hψ E h' hE with rfl
    · refine ⟨12, ⟨[], [], ⟨0, 9, 12, 19⟩, rfl, (fun z hz => by cases hz), by decide, by decide, rfl, by decide, kL_19, kc_IllegalArgument⟩, fun q1 => ?_⟩
      refine zt_astore hY eL_teamScore_12 rfl ?_
      refine zt_const hY eL_teamScore_13 ?_
      refine zt_ireturn hY eL_teamScore_14 rfl ?_ (by rw [hmc, hms]; omega)
      rw [hφY]
      exact Or.inr ⟨_, hE, by rw [u_cd1]⟩
  · obtain ⟨r, f, rfl, hr, ho⟩ := hφ v h' hv
    refine zt_i2l hY eL_teamScore_7 hr ?_
    refine zt_lastore hY eL_teamScore_8 ho (by omega) ?_
    refine zt_goto hY eL_teamScore_9 ?_
    refine zt_const hY eL_teamScore_15 ?_
    refine zt_ireturn hY eL_teamScore_16 rfl ?_ (by rw [hmc, hms]; omega)
    rw [hφY]
    exact Or.inl ⟨r, f, h', hv, hr, ho, rfl, rfl⟩
theorem u_groupAt {G : z_G} {H : z_H} {q o d1 mc ms : Nat} {x0 : Int} {φ1 : Option Value → z_H → Prop} {ψ1 : String → z_H → Prop} {fs : List Value} (hG : z_OK G) (hN : z_NC G) (hb : H q = some (z_ob 7 fs)) (ht : z_T G mX7_groupAt [.ref q, z_i x0] H d1 mc ms φ1 ψ1)
    (hφ : ∀ v h', φ1 v h' → ∃ (r : Int) (f : Int → Int), v = some (z_i r) ∧ (-2147483648 ≤ r ∧ r ≤ 2147483647) ∧ h' o = some (z_la 1 f)) (hψ : ∀ E h', ψ1 E h' → E = "java/lang/IndexOutOfBoundsException") :
    z_TH G mL_groupAt hL_groupAt [.ref q, z_i x0, .ref o] H (d1 + 1) mc ms (u_P o "java/lang/IndexOutOfBoundsException" φ1 ψ1) := by
  refine z_TH_of hG pL_groupAt (Nat.le_of_ble_eq_true rfl) rfl (fun Y hY hg hmc hms hφY hψY => ?_)
  refine zt_aload hY eL_groupAt_0 2 rfl ?_
  refine zt_const hY eL_groupAt_1 ?_
  refine zt_aload hY eL_groupAt_2 0 rfl ?_
  refine zt_iload hY eL_groupAt_3 1 rfl ?_
  refine zt_callV (M' := mX7_groupAt) (As := [z_i x0]) (rest := [z_i 0, .ref o]) (φ1 := φ1) (ψ1 := ψ1) (d1 := d1) (mc1 := mc) (ms1 := ms) (by rw [hg]; exact hN) hY eL_groupAt_4 (by rw [hg]; exact ht) hb (Nat.lt_succ_self _) (Nat.le_of_ble_eq_true rfl) (by rw [hmc, hms]; omega) (fun E h' hE => ?_) (fun v h' hv => ?_)
  · rcases hψ E h' hE with rfl
    · refine ⟨12, ⟨[], [], ⟨0, 9, 12, 25⟩, rfl, (fun z hz => by cases hz), by decide, by decide, rfl, by decide, kL_25, kc_IndexOutOfBounds⟩, fun q1 => ?_⟩
      refine zt_astore hY eL_groupAt_12 rfl ?_
      refine zt_const hY eL_groupAt_13 ?_
      refine zt_ireturn hY eL_groupAt_14 rfl ?_ (by rw [hmc, hms]; omega)
      rw [hφY]
      exact Or.inr ⟨_, hE, by rw [u_cd1]⟩
  · obtain ⟨r, f, rfl, hr, ho⟩ := hφ v h' hv
    refine zt_i2l hY eL_groupAt_7 hr ?_
    refine zt_lastore hY eL_groupAt_8 ho (by omega) ?_
    refine zt_goto hY eL_groupAt_9 ?_
    refine zt_const hY eL_groupAt_15 ?_
    refine zt_ireturn hY eL_groupAt_16 rfl ?_ (by rw [hmc, hms]; omega)
    rw [hφY]
    exact Or.inl ⟨r, f, h', hv, hr, ho, rfl, rfl⟩
theorem u_inversions {G : z_G} {H : z_H} {q o d1 mc ms : Nat} {x0 x1 : Int} {φ1 : Option Value → z_H → Prop} {ψ1 : String → z_H → Prop} {fs : List Value} (hG : z_OK G) (hN : z_NC G) (hb : H q = some (z_ob 7 fs)) (ht : z_T G mX7_inversions [.ref q, z_i x0, z_i x1] H d1 mc ms φ1 ψ1)
    (hφ : ∀ v h', φ1 v h' → ∃ (r : Int) (f : Int → Int), v = some (z_i r) ∧ (-2147483648 ≤ r ∧ r ≤ 2147483647) ∧ h' o = some (z_la 1 f)) (hψ : ∀ E h', ψ1 E h' → E = "java/util/NoSuchElementException") :
    z_TH G mL_inversions hL_inversions [.ref q, z_i x0, z_i x1, .ref o] H (d1 + 1) mc ms (u_P o "java/util/NoSuchElementException" φ1 ψ1) := by
  refine z_TH_of hG pL_inversions (Nat.le_of_ble_eq_true rfl) rfl (fun Y hY hg hmc hms hφY hψY => ?_)
  refine zt_aload hY eL_inversions_0 3 rfl ?_
  refine zt_const hY eL_inversions_1 ?_
  refine zt_aload hY eL_inversions_2 0 rfl ?_
  refine zt_iload hY eL_inversions_3 1 rfl ?_
  refine zt_iload hY eL_inversions_4 2 rfl ?_
  refine zt_callV (M' := mX7_inversions) (As := [z_i x0, z_i x1]) (rest := [z_i 0, .ref o]) (φ1 := φ1) (ψ1 := ψ1) (d1 := d1) (mc1 := mc) (ms1 := ms) (by rw [hg]; exact hN) hY eL_inversions_5 (by rw [hg]; exact ht) hb (Nat.lt_succ_self _) (Nat.le_of_ble_eq_true rfl) (by rw [hmc, hms]; omega) (fun E h' hE => ?_) (fun v h' hv => ?_)
  · rcases hψ E h' hE with rfl
    · refine ⟨13, ⟨[], [], ⟨0, 10, 13, 68⟩, rfl, (fun z hz => by cases hz), by decide, by decide, rfl, by decide, kL_68, kc_NoSuchElement⟩, fun q1 => ?_⟩
      refine zt_astore hY eL_inversions_13 rfl ?_
      refine zt_const hY eL_inversions_15 ?_
      refine zt_ireturn hY eL_inversions_16 rfl ?_ (by rw [hmc, hms]; omega)
      rw [hφY]
      exact Or.inr ⟨_, hE, by rw [u_cd1]⟩
  · obtain ⟨r, f, rfl, hr, ho⟩ := hφ v h' hv
    refine zt_i2l hY eL_inversions_8 hr ?_
    refine zt_lastore hY eL_inversions_9 ho (by omega) ?_
    refine zt_goto hY eL_inversions_10 ?_
    refine zt_const hY eL_inversions_17 ?_
    refine zt_ireturn hY eL_inversions_18 rfl ?_ (by rw [hmc, hms]; omega)
    rw [hφY]
    exact Or.inl ⟨r, f, h', hv, hr, ho, rfl, rfl⟩
theorem u_swaps {G : z_G} {H : z_H} {q o d1 mc ms : Nat} {x0 x1 : Int} {φ1 : Option Value → z_H → Prop} {ψ1 : String → z_H → Prop} {fs : List Value} (hG : z_OK G) (hN : z_NC G) (hb : H q = some (z_ob 7 fs)) (ht : z_T G mX7_swaps [.ref q, z_i x0, z_i x1] H d1 mc ms φ1 ψ1)
    (hφ : ∀ v h', φ1 v h' → ∃ (r : Int) (f : Int → Int), v = some (z_i r) ∧ (-2147483648 ≤ r ∧ r ≤ 2147483647) ∧ h' o = some (z_la 1 f)) (hψ : ∀ E h', ψ1 E h' → E = "java/util/NoSuchElementException") :
    z_TH G mL_swaps hL_swaps [.ref q, z_i x0, z_i x1, .ref o] H (d1 + 1) mc ms (u_P o "java/util/NoSuchElementException" φ1 ψ1) := by
  refine z_TH_of hG pL_swaps (Nat.le_of_ble_eq_true rfl) rfl (fun Y hY hg hmc hms hφY hψY => ?_)
  refine zt_aload hY eL_swaps_0 3 rfl ?_
  refine zt_const hY eL_swaps_1 ?_
  refine zt_aload hY eL_swaps_2 0 rfl ?_
  refine zt_iload hY eL_swaps_3 1 rfl ?_
  refine zt_iload hY eL_swaps_4 2 rfl ?_
  refine zt_callV (M' := mX7_swaps) (As := [z_i x0, z_i x1]) (rest := [z_i 0, .ref o]) (φ1 := φ1) (ψ1 := ψ1) (d1 := d1) (mc1 := mc) (ms1 := ms) (by rw [hg]; exact hN) hY eL_swaps_5 (by rw [hg]; exact ht) hb (Nat.lt_succ_self _) (Nat.le_of_ble_eq_true rfl) (by rw [hmc, hms]; omega) (fun E h' hE => ?_) (fun v h' hv => ?_)
  · rcases hψ E h' hE with rfl
    · refine ⟨13, ⟨[], [], ⟨0, 10, 13, 68⟩, rfl, (fun z hz => by cases hz), by decide, by decide, rfl, by decide, kL_68, kc_NoSuchElement⟩, fun q1 => ?_⟩
      refine zt_astore hY eL_swaps_13 rfl ?_
      refine zt_const hY eL_swaps_15 ?_
      refine zt_ireturn hY eL_swaps_16 rfl ?_ (by rw [hmc, hms]; omega)
      rw [hφY]
      exact Or.inr ⟨_, hE, by rw [u_cd1]⟩
  · obtain ⟨r, f, rfl, hr, ho⟩ := hφ v h' hv
    refine zt_i2l hY eL_swaps_8 hr ?_
    refine zt_lastore hY eL_swaps_9 ho (by omega) ?_
    refine zt_goto hY eL_swaps_10 ?_
    refine zt_const hY eL_swaps_17 ?_
    refine zt_ireturn hY eL_swaps_18 rfl ?_ (by rw [hmc, hms]; omega)
    rw [hφY]
    exact Or.inl ⟨r, f, h', hv, hr, ho, rfl, rfl⟩
theorem u_beats {G : z_G} {H : z_H} {q o d1 mc ms : Nat} {x0 : Int} {φ1 : Option Value → z_H → Prop} {ψ1 : String → z_H → Prop} {fs : List Value} (hG : z_OK G) (hN : z_NC G) (hb : H q = some (z_ob 7 fs)) (ht : z_T G mX7_beats [.ref q, z_i x0] H d1 mc ms φ1 ψ1)
    (hφ : ∀ v h', φ1 v h' → ∃ (r : UInt32) (f : Int → UInt64), v = some (.float r) ∧ vf_n64 (FP.f2d r) ∧ h' o = some (z_da 1 f)) (hψ : ∀ E h', ψ1 E h' → E = "java/lang/IndexOutOfBoundsException") :
    z_TH G mL_beats hL_beats [.ref q, z_i x0, .ref o] H (d1 + 1) mc ms (u_Pd o "java/lang/IndexOutOfBoundsException" φ1 ψ1) := by
  refine z_TH_of hG pL_beats (Nat.le_of_ble_eq_true rfl) rfl (fun Y hY hg hmc hms hφY hψY => ?_)
  refine zt_aload hY eL_beats_0 2 rfl ?_
  refine zt_const hY eL_beats_1 ?_
  refine zt_aload hY eL_beats_2 0 rfl ?_
  refine zt_iload hY eL_beats_3 1 rfl ?_
  refine zt_callV (M' := mX7_beats) (As := [z_i x0]) (rest := [z_i 0, .ref o]) (φ1 := φ1) (ψ1 := ψ1) (d1 := d1) (mc1 := mc) (ms1 := ms) (by rw [hg]; exact hN) hY eL_beats_4 (by rw [hg]; exact ht) hb (Nat.lt_succ_self _) (Nat.le_of_ble_eq_true rfl) (by rw [hmc, hms]; omega) (fun E h' hE => ?_) (fun v h' hv => ?_)
  · rcases hψ E h' hE with rfl
    · refine ⟨12, ⟨[], [], ⟨0, 9, 12, 25⟩, rfl, (fun z hz => by cases hz), by decide, by decide, rfl, by decide, kL_25, kc_IndexOutOfBounds⟩, fun q1 => ?_⟩
      refine zt_astore hY eL_beats_12 rfl ?_
      refine zt_const hY eL_beats_13 ?_
      refine zt_ireturn hY eL_beats_14 rfl ?_ (by rw [hmc, hms]; omega)
      rw [hφY]
      exact Or.inr ⟨_, hE, by rw [u_cd1]⟩
  · obtain ⟨r, f, rfl, hr, ho⟩ := hφ v h' hv
    refine zt_f2d hY eL_beats_7 hr ?_
    refine zt_dastore hY eL_beats_8 ho (by omega) ?_
    refine zt_goto hY eL_beats_9 ?_
    refine zt_const hY eL_beats_15 ?_
    refine zt_ireturn hY eL_beats_16 rfl ?_ (by rw [hmc, hms]; omega)
    rw [hφY]
    exact Or.inl ⟨r, f, h', hv, hr, ho, rfl, rfl⟩
end LWR
