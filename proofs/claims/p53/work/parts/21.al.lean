/-! ArrayList's methods over a row of entrants (laid by wip/whole/gen/gm21.py). -/
section AL
def z_lf (l : Int → Nat) (s : Int) : Int → Option Nat := fun j => if 0 ≤ j ∧ j < s then some (l j) else none
theorem z_lf_at {l : Int → Nat} {s j : Int} (h : 0 ≤ j ∧ j < s) : z_lf l s j = some (l j) := if_pos h
theorem z_qa_congr {N : Nat} {f g : Int → Option Nat} (h : ∀ j : Int, 0 ≤ j → f j = g j) : z_qa N f = z_qa N g := by
  unfold z_qa
  rw [show (fun j : Nat => f j) = (fun j : Nat => g j) from funext fun j => h j (by omega)]
theorem z_oq {h : z_H} {a e ci N : Nat} {fs : List Value} {f : Int → Option Nat} (ha : h a = some (z_ob ci fs)) (he : h e = some (z_qa N f)) : a ≠ e := by
  intro q
  rw [q, he] at ha
  have := Option.some.inj ha
  unfold z_qa z_ob at this
  cases this
theorem z_on {h : z_H} {a e : Nat} {c : va_E} (ha : h a = some c) (he : h e = none) : a ≠ e := by
  intro q
  rw [q, he] at ha
  cases ha
theorem z_oo {h : z_H} {a e ci ci' : Nat} {fs fs' : List Value} (hc : ci ≠ ci') (ha : h a = some (z_ob ci fs)) (he : h e = some (z_ob ci' fs')) : a ≠ e := by
  intro q
  rw [q, he] at ha
  have := Option.some.inj ha
  unfold z_ob at this
  exact hc (congrArg Prod.fst (Sum.inr.inj this)).symm
variable {Y : z_Y} {d : Nat} {M : z_M} {pc pc' : Nat} {ls ls' : List (Nat × Value)} {st st' : List Value} {h : z_H} {k n : Nat}
theorem z_ishr1 {a : Int} (hY : z_ok Y d M) (dd : z_at M pc .ishr 1 pc') (hr : -2147483648 ≤ a ∧ a ≤ 2147483647) (kk : z_W Y pc' ls (z_i (a / 2) :: st) h k n) : z_W Y pc ls (z_i 1 :: z_i a :: st) h k n := by
  refine z_lift hY (fun p l e R s m args below meth c H locs cells slots Q lsA hx hb kk => ?_) kk
  obtain ⟨d1, rfl⟩ := dd
  refine lv_ishr hx hb d1 ?_
  rw [z_shr1 (x := a) (D := 2) (n := 1) hr (by decide) (by omega) rfl (by decide)]
  exact kk
theorem z_narB {x : Int} (h : x = 0 ∨ x = 1) : narrow .boolean (z_i x) = z_i x := by rcases h with rfl | rfl <;> decide +kernel
theorem z_lf_cpy {l : Int → Nat} {s : Int} {N n1 : Nat} (h : s ≤ N) : z_qa n1 (z_cpy (z_lf l s) (fun _ => none) 0 0 N) = z_qa n1 (z_lf l s) := z_qa_congr fun j hj => by
  unfold z_cpy z_lf
  rw [show (0 : Int) + (j - 0) = j by omega]
  split
  · rfl
  · rw [if_neg (by omega)]
theorem z_lf_none {l : Int → Nat} {n1 : Nat} : z_qa n1 (fun _ => none) = z_qa n1 (z_lf l 0) := z_qa_congr fun j hj => (if_neg (by omega)).symm
theorem z_lf_add {l : Int → Nat} {s : Int} {N y : Nat} (h : 0 ≤ s) : z_qa N (z_up (z_lf l s) s (some y)) = z_qa N (z_lf (z_up l s y) (s + 1)) := z_qa_congr fun j hj => by
  unfold z_up z_lf
  dsimp only
  by_cases c : j = s
  · rw [if_pos c, if_pos (by omega), if_pos c]
  · rw [if_neg c, if_neg c]
    by_cases c2 : 0 ≤ j ∧ j < s
    · rw [if_pos c2, if_pos (by omega)]
    · rw [if_neg c2, if_neg (by omega)]
/-- l with y put in at i; l without what stands at i -/
def z_ins (l : Int → Nat) (i : Int) (y : Nat) : Int → Nat := fun j => if j < i then l j else if j = i then y else l (j - 1)
def z_del (l : Int → Nat) (i : Int) : Int → Nat := fun j => if j < i then l j else l (j + 1)
theorem z_lf_ins {l : Int → Nat} {s i : Int} {N y : Nat} (h : 0 ≤ i ∧ i ≤ s) : z_qa N (z_up (z_cpy (z_lf l s) (z_lf l s) i (i + 1) (s - i)) i (some y)) = z_qa N (z_lf (z_ins l i y) (s + 1)) := z_qa_congr fun j hj => by
  unfold z_up z_cpy z_lf z_ins
  by_cases c : j = i
  · rw [if_pos c, if_pos (by omega), if_neg (by omega), if_pos c]
  · rw [if_neg c]
    by_cases c1 : i + 1 ≤ j ∧ j < i + 1 + (s - i)
    · rw [if_pos c1, if_pos (by omega), if_pos (by omega), if_neg (by omega), if_neg c]
      exact congrArg (fun q => some (l q)) (by omega)
    · rw [if_neg c1]
      by_cases c2 : 0 ≤ j ∧ j < s
      · rw [if_pos c2, if_pos (by omega), if_pos (by omega)]
      · rw [if_neg c2, if_neg (by omega)]
theorem z_lf_del {l : Int → Nat} {s i : Int} {N : Nat} (h : 0 ≤ i ∧ i < s) : z_qa N (z_up (z_cpy (z_lf l s) (z_lf l s) (i + 1) i (s - i - 1)) (s - 1) none) = z_qa N (z_lf (z_del l i) (s - 1)) := z_qa_congr fun j hj => by
  unfold z_up z_cpy z_lf z_del
  by_cases c : j = s - 1
  · rw [if_pos c, if_neg (by omega)]
  · rw [if_neg c]
    by_cases c1 : i ≤ j ∧ j < i + (s - i - 1)
    · rw [if_pos c1, if_pos (by omega), if_pos (by omega), if_neg (by omega)]
      exact congrArg (fun q => some (l q)) (by omega)
    · rw [if_neg c1]
      by_cases c2 : 0 ≤ j ∧ j < s
      · rw [if_pos c2, if_pos (by omega), if_pos (by omega)]
      · rw [if_neg c2, if_neg (by omega)]
theorem z_lf_del1 {l : Int → Nat} {s i : Int} {N : Nat} (h : 0 ≤ i ∧ i = s - 1) : z_qa N (z_up (z_lf l s) (s - 1) none) = z_qa N (z_lf (z_del l i) (s - 1)) := z_qa_congr fun j hj => by
  unfold z_up z_lf z_del
  by_cases c : j = s - 1
  · rw [if_pos c, if_neg (by omega)]
  · rw [if_neg c]
    by_cases c2 : 0 ≤ j ∧ j < s
    · rw [if_pos c2, if_pos (by omega), if_pos (by omega)]
    · rw [if_neg c2, if_neg (by omega)]
theorem z_lf_set {l : Int → Nat} {s i : Int} {N y : Nat} (h : 0 ≤ i ∧ i < s) : z_qa N (z_up (z_lf l s) i (some y)) = z_qa N (z_lf (z_up l i y) s) := z_qa_congr fun j hj => by
  unfold z_up z_lf
  dsimp only
  by_cases c : j = i
  · rw [if_pos c, if_pos (by omega), if_pos c]
  · rw [if_neg c, if_neg c]
/-- where a list's elements lie: nowhere yet, or in a row of N -/
def z_row (G : z_G) (h : z_H) (e N : Nat) (l : Int → Nat) (s : Int) : Prop := (N = 0 ∧ e = z_dc G ∧ s = 0) ∨ (0 < N ∧ h e = some (z_qa N (z_lf l s)))
/-- an end of a call that puts something in -/
def z_add (h : z_H) (a e N : Nat) (mo s : Int) (l' : Int → Nat) (h' : z_H) : Prop := ∃ e1 N1 : Nat, h' = z_set (z_set h e1 (z_qa N1 (z_lf l' (s + 1)))) a (z_ob 9 [z_i mo, .ref e1, z_i (s + 1)]) ∧ ((e1 = e ∧ N1 = N ∧ 0 < N) ∨ h e1 = none) ∧ s + 1 ≤ N1 ∧ N1 ≤ 45 ∧ 0 < N1

theorem al_size {G : z_G} {h : z_H} (hG : z_OK G) {a e : Nat} {mo s : Int} (ha : h a = some (z_ob 9 [z_i mo, .ref e, z_i s])) : z_Tr G mJx4a65c_size_8abf5 [.ref a] (h) 0 (z_i s) := by
  refine z_T_of hG pJx4a65c_size_8abf5 (Nat.le_of_ble_eq_true rfl) (ls0 := [(0, .ref a)]) rfl fun Y hY hg hmc hms hφ hψ => ?_
  subst hg
  refine z_aload hY eJx4a65c_size_8abf5_0 0 rfl ?_
  refine z_getfield hY eJx4a65c_size_8abf5_1 ha (v := z_i s) rfl ?_
  exact z_ireturn hY eJx4a65c_size_8abf5_4 rfl (by rw [hφ]; exact ⟨congrArg (fun q => some (z_i q)) (by first | rfl | omega | (simp only [z_bl]; split <;> omega)), rfl⟩) ⟨Nat.zero_le _, Nat.zero_le _⟩
theorem al_isEmpty {G : z_G} {h : z_H} (hG : z_OK G) {a e : Nat} {mo s : Int} (ha : h a = some (z_ob 9 [z_i mo, .ref e, z_i s])) (hs : 0 ≤ s ∧ s ≤ 1000) : z_Tr G mJx4a65c_isEmpty_aae02 [.ref a] (h) 0 (z_i (z_bl (s = 0))) := by
  refine z_T_of hG pJx4a65c_isEmpty_aae02 (Nat.le_of_ble_eq_true rfl) (ls0 := [(0, .ref a)]) rfl fun Y hY hg hmc hms hφ hψ => ?_
  subst hg
  refine z_aload hY eJx4a65c_isEmpty_aae02_0 0 rfl ?_
  refine z_getfield hY eJx4a65c_isEmpty_aae02_1 ha (v := z_i s) rfl ?_
  refine z_ifne hY eJx4a65c_isEmpty_aae02_4 (by omega) (fun c4 => ?_) (fun c4 => ?_)
  · refine z_const hY eJx4a65c_isEmpty_aae02_11 ?_
    exact z_zreturn hY eJx4a65c_isEmpty_aae02_12 rfl (by omega) (by rw [hφ]; exact ⟨congrArg (fun q => some (z_i q)) (by first | rfl | omega | (simp only [z_bl]; split <;> omega)), rfl⟩) ⟨Nat.zero_le _, Nat.zero_le _⟩
  · refine z_const hY eJx4a65c_isEmpty_aae02_7 ?_
    refine z_goto hY eJx4a65c_isEmpty_aae02_8 ?_
    exact z_zreturn hY eJx4a65c_isEmpty_aae02_12 rfl (by omega) (by rw [hφ]; exact ⟨congrArg (fun q => some (z_i q)) (by first | rfl | omega | (simp only [z_bl]; split <;> omega)), rfl⟩) ⟨Nat.zero_le _, Nat.zero_le _⟩
theorem al_elementData {G : z_G} {h : z_H} (hG : z_OK G) {a e N : Nat} {l : Int → Nat} {mo s : Int} (ha : h a = some (z_ob 9 [z_i mo, .ref e, z_i s])) (he : h e = some (z_qa N (z_lf l s))) (hs : 0 ≤ s ∧ s ≤ N ∧ N ≤ 100) {i : Int} (hi : 0 ≤ i ∧ i < s) : z_Tr G mJx4a65c_elementData_915e3 [.ref a, z_i i] (h) 0 (.ref (l i)) := by
  refine z_T_of hG pJx4a65c_elementData_915e3 (Nat.le_of_ble_eq_true rfl) (ls0 := [(0, .ref a), (1, z_i i)]) rfl fun Y hY hg hmc hms hφ hψ => ?_
  subst hg
  refine z_aload hY eJx4a65c_elementData_915e3_0 0 rfl ?_
  refine z_getfield hY eJx4a65c_elementData_915e3_1 ha (v := .ref e) rfl ?_
  refine z_iload hY eJx4a65c_elementData_915e3_4 1 rfl ?_
  refine z_aaload hY eJx4a65c_elementData_915e3_5 he (b := (l i)) (by omega) (z_lf_at hi) ?_
  exact z_areturn hY eJx4a65c_elementData_915e3_6 ⟨_, rfl, Or.inl ⟨_, rfl⟩⟩ (by rw [hφ]; exact ⟨rfl, rfl⟩) ⟨Nat.zero_le _, Nat.zero_le _⟩
theorem pc_checkIndex {G : z_G} {h : z_H} (hG : z_OK G) {i s : Int} (hi : 0 ≤ i ∧ i < s ∧ s ≤ 1000) : z_Tr G mJ3_checkIndex_8e157 [z_i i, z_i s, .null] (h) 0 (z_i i) := by
  refine z_T_of hG pJ3_checkIndex_8e157 (Nat.le_of_ble_eq_true rfl) (ls0 := [(0, z_i i), (1, z_i s), (2, .null)]) rfl fun Y hY hg hmc hms hφ hψ => ?_
  subst hg
  refine z_iload hY eJ3_checkIndex_8e157_0 0 rfl ?_
  refine z_iflt hY eJ3_checkIndex_8e157_1 (by omega) (fun c => by exfalso; omega) (fun c1 => ?_)
  refine z_iload hY eJ3_checkIndex_8e157_4 0 rfl ?_
  refine z_iload hY eJ3_checkIndex_8e157_5 1 rfl ?_
  refine z_icmplt hY eJ3_checkIndex_8e157_6 (by omega) (fun c6 => ?_) (fun c => by exfalso; omega)
  refine z_iload hY eJ3_checkIndex_8e157_16 0 rfl ?_
  exact z_ireturn hY eJ3_checkIndex_8e157_17 rfl (by rw [hφ]; exact ⟨congrArg (fun q => some (z_i q)) (by first | rfl | omega | (simp only [z_bl]; split <;> omega)), rfl⟩) ⟨Nat.zero_le _, Nat.zero_le _⟩
theorem ob_checkIndex {G : z_G} {h : z_H} (hG : z_OK G) {i s : Int} (hi : 0 ≤ i ∧ i < s ∧ s ≤ 1000) : z_Tr G mJ15_checkIndex_7cf53 [z_i i, z_i s] (h) 1 (z_i i) := by
  refine z_T_of hG pJ15_checkIndex_7cf53 (Nat.le_of_ble_eq_true rfl) (ls0 := [(0, z_i i), (1, z_i s)]) rfl fun Y hY hg hmc hms hφ hψ => ?_
  subst hg
  refine z_iload hY eJ15_checkIndex_7cf53_0 0 rfl ?_
  refine z_iload hY eJ15_checkIndex_7cf53_1 1 rfl ?_
  refine z_null hY eJ15_checkIndex_7cf53_2 ?_
  refine z_callSr (As := [z_i i, z_i s, .null]) (rest := []) (r := z_i i) hY eJ15_checkIndex_7cf53_3 (pc_checkIndex hG (by omega)) (by decide) (Nat.le_of_ble_eq_true rfl) ⟨Nat.zero_le _, Nat.zero_le _⟩ ?_
  exact z_ireturn hY eJ15_checkIndex_7cf53_6 rfl (by rw [hφ]; exact ⟨congrArg (fun q => some (z_i q)) (by first | rfl | omega | (simp only [z_bl]; split <;> omega)), rfl⟩) ⟨Nat.zero_le _, Nat.zero_le _⟩
theorem al_get {G : z_G} {h : z_H} (hG : z_OK G) {a e N : Nat} {l : Int → Nat} {mo s : Int} (ha : h a = some (z_ob 9 [z_i mo, .ref e, z_i s])) (he : h e = some (z_qa N (z_lf l s))) (hs : 0 ≤ s ∧ s ≤ N ∧ N ≤ 100) {i : Int} (hi : 0 ≤ i ∧ i < s) : z_Tr G mJx4a65c_get_915e3 [.ref a, z_i i] (h) 2 (.ref (l i)) := by
  refine z_T_of hG pJx4a65c_get_915e3 (Nat.le_of_ble_eq_true rfl) (ls0 := [(0, .ref a), (1, z_i i)]) rfl fun Y hY hg hmc hms hφ hψ => ?_
  subst hg
  refine z_iload hY eJx4a65c_get_915e3_0 1 rfl ?_
  refine z_aload hY eJx4a65c_get_915e3_1 0 rfl ?_
  refine z_getfield hY eJx4a65c_get_915e3_2 ha (v := z_i s) rfl ?_
  refine z_callSr (As := [z_i i, z_i s]) (rest := []) (r := z_i i) hY eJx4a65c_get_915e3_5 (ob_checkIndex hG (by omega)) (by decide) (Nat.le_of_ble_eq_true rfl) ⟨Nat.zero_le _, Nat.zero_le _⟩ ?_
  refine z_pop hY eJx4a65c_get_915e3_8 rfl ?_
  refine z_aload hY eJx4a65c_get_915e3_9 0 rfl ?_
  refine z_iload hY eJx4a65c_get_915e3_10 1 rfl ?_
  refine z_callVr (As := [z_i i]) (rest := []) (r := .ref (l i)) hY eJx4a65c_get_915e3_11 (al_elementData hG ha he hs (by omega)) ha (by decide) (Nat.le_of_ble_eq_true rfl) ⟨Nat.zero_le _, Nat.zero_le _⟩ ?_
  exact z_areturn hY eJx4a65c_get_915e3_14 ⟨_, rfl, Or.inl ⟨_, rfl⟩⟩ (by rw [hφ]; exact ⟨rfl, rfl⟩) ⟨Nat.zero_le _, Nat.zero_le _⟩
theorem ma_max {G : z_G} {h : z_H} (hG : z_OK G) {x y : Int} (hr : -2147483648 ≤ x ∧ x ≤ 2147483647 ∧ -2147483648 ≤ y ∧ y ≤ 2147483647) : z_Tr G mJ9_max_7cf53 [z_i x, z_i y] (h) 0 (z_i (if x < y then y else x)) := by
  refine z_T_of hG pJ9_max_7cf53 (Nat.le_of_ble_eq_true rfl) (ls0 := [(0, z_i x), (1, z_i y)]) rfl fun Y hY hg hmc hms hφ hψ => ?_
  subst hg
  refine z_iload hY eJ9_max_7cf53_0 0 rfl ?_
  refine z_iload hY eJ9_max_7cf53_1 1 rfl ?_
  refine z_icmplt hY eJ9_max_7cf53_2 (by omega) (fun c2 => ?_) (fun c2 => ?_)
  · refine z_iload hY eJ9_max_7cf53_9 1 rfl ?_
    exact z_ireturn hY eJ9_max_7cf53_10 rfl (by rw [hφ]; exact ⟨congrArg (fun q => some (z_i q)) (by split <;> omega), rfl⟩) ⟨Nat.zero_le _, Nat.zero_le _⟩
  · refine z_iload hY eJ9_max_7cf53_5 0 rfl ?_
    refine z_goto hY eJ9_max_7cf53_6 ?_
    exact z_ireturn hY eJ9_max_7cf53_10 rfl (by rw [hφ]; exact ⟨congrArg (fun q => some (z_i q)) (by split <;> omega), rfl⟩) ⟨Nat.zero_le _, Nat.zero_le _⟩
theorem ma_min {G : z_G} {h : z_H} (hG : z_OK G) {x y : Int} (hr : -2147483648 ≤ x ∧ x ≤ 2147483647 ∧ -2147483648 ≤ y ∧ y ≤ 2147483647) : z_Tr G mJ9_min_7cf53 [z_i x, z_i y] (h) 0 (z_i (if y < x then y else x)) := by
  refine z_T_of hG pJ9_min_7cf53 (Nat.le_of_ble_eq_true rfl) (ls0 := [(0, z_i x), (1, z_i y)]) rfl fun Y hY hg hmc hms hφ hψ => ?_
  subst hg
  refine z_iload hY eJ9_min_7cf53_0 0 rfl ?_
  refine z_iload hY eJ9_min_7cf53_1 1 rfl ?_
  refine z_icmpgt hY eJ9_min_7cf53_2 (by omega) (fun c2 => ?_) (fun c2 => ?_)
  · refine z_iload hY eJ9_min_7cf53_9 1 rfl ?_
    exact z_ireturn hY eJ9_min_7cf53_10 rfl (by rw [hφ]; exact ⟨congrArg (fun q => some (z_i q)) (by split <;> omega), rfl⟩) ⟨Nat.zero_le _, Nat.zero_le _⟩
  · refine z_iload hY eJ9_min_7cf53_5 0 rfl ?_
    refine z_goto hY eJ9_min_7cf53_6 ?_
    exact z_ireturn hY eJ9_min_7cf53_10 rfl (by rw [hφ]; exact ⟨congrArg (fun q => some (z_i q)) (by split <;> omega), rfl⟩) ⟨Nat.zero_le _, Nat.zero_le _⟩
theorem as_newLength {G : z_G} {h : z_H} (hG : z_OK G) {o m p : Int} (hr : 0 ≤ o ∧ o ≤ 1000 ∧ 0 ≤ m ∧ m ≤ 1000 ∧ 0 ≤ p ∧ p ≤ 1000) (h1 : 0 < o + m) : z_Tr G mJ8_newLength_cabcc [z_i o, z_i m, z_i p] (h) 1 (z_i (o + (if m < p then p else m))) := by
  refine z_T_of hG pJ8_newLength_cabcc (Nat.le_of_ble_eq_true rfl) (ls0 := [(0, z_i o), (1, z_i m), (2, z_i p)]) rfl fun Y hY hg hmc hms hφ hψ => ?_
  subst hg
  refine z_iload hY eJ8_newLength_cabcc_0 0 rfl ?_
  refine z_iload hY eJ8_newLength_cabcc_1 1 rfl ?_
  refine z_iload hY eJ8_newLength_cabcc_2 2 rfl ?_
  refine z_callSr (As := [z_i m, z_i p]) (rest := [z_i o]) (r := z_i (if m < p then p else m)) hY eJ8_newLength_cabcc_3 (ma_max hG (by omega)) (by decide) (Nat.le_of_ble_eq_true rfl) ⟨Nat.zero_le _, Nat.zero_le _⟩ ?_
  refine z_iadd hY eJ8_newLength_cabcc_6 ?_
  refine z_istore hY eJ8_newLength_cabcc_7 (ls' := [(3, z_i (o + (if m < p then p else m))), (0, z_i o), (1, z_i m), (2, z_i p)]) rfl ?_
  refine z_const hY eJ8_newLength_cabcc_8 ?_
  refine z_iload hY eJ8_newLength_cabcc_9 0 rfl ?_
  refine z_icmpge hY eJ8_newLength_cabcc_10 (by omega) (fun c => by exfalso; omega) (fun c10 => ?_)
  refine z_iload hY eJ8_newLength_cabcc_13 0 rfl ?_
  refine z_const hY eJ8_newLength_cabcc_14 ?_
  refine z_icmpgt hY eJ8_newLength_cabcc_16 (by omega) (fun c => by exfalso; omega) (fun c16 => ?_)
  refine z_iload hY eJ8_newLength_cabcc_19 0 rfl ?_
  exact z_ireturn hY eJ8_newLength_cabcc_20 rfl (by rw [hφ]; exact ⟨congrArg (fun q => some (z_i q)) (by omega), rfl⟩) ⟨Nat.zero_le _, Nat.zero_le _⟩
theorem ar_copyOf3 {G : z_G} {h : z_H} (hG : z_OK G) {mi e N n1 : Nat} {f : Int → Option Nat} (hM : va_Mi "[Ljava/lang/Object;" mi G.2.1) (he : h e = some (z_qa N f)) (hn : N ≤ n1 ∧ n1 ≤ 1000) (hel : ∀ j y, 0 ≤ j → j < (N : Int) → f j = some y → ∃ fs, h y = some (z_ob 0 fs)) : z_T G mJ7_copyOf_6403c [.ref e, z_i (n1 : Int), .ref mi] (h) 1 1 n1 (fun v h' => ∃ q : Nat, v = some (.ref q) ∧ h q = none ∧ h' = z_set h q (z_qa n1 (z_cpy f (fun _ => none) 0 0 N))) (z_no) := by
  refine z_T_of hG pJ7_copyOf_6403c (Nat.le_of_ble_eq_true rfl) (ls0 := [(0, .ref e), (1, z_i (n1 : Int)), (2, .ref mi)]) rfl fun Y hY hg hmc hms hφ hψ => ?_
  subst hg
  refine z_aload hY eJ7_copyOf_6403c_0 2 rfl ?_
  refine z_ldcM hY rfl hM eJ7_copyOf_6403c_1 ?_
  refine z_acmpne hY eJ7_copyOf_6403c_3 (fun c => absurd rfl c) (fun _ => ?_)
  refine z_iload hY eJ7_copyOf_6403c_6 1 rfl ?_
  refine z_newQ (N := n1) hY eJ7_copyOf_6403c_7 wA2 (by omega) (by rw [hmc, hms]; omega) (fun q1 hnq1 => ?_)
  have hxq1 : ∀ y c, h y = some c → y ≠ q1 := fun y c hy => z_on hy hnq1
  refine z_goto hY eJ7_copyOf_6403c_10 ?_
  refine z_astore hY eJ7_copyOf_6403c_24 (ls' := [(3, .ref q1), (0, .ref e), (1, z_i (n1 : Int)), (2, .ref mi)]) rfl ?_
  refine z_aload hY eJ7_copyOf_6403c_25 1 rfl ?_
  refine z_const hY eJ7_copyOf_6403c_26 ?_
  refine z_aload hY eJ7_copyOf_6403c_27 0 rfl ?_
  refine z_const hY eJ7_copyOf_6403c_28 ?_
  refine z_aload hY eJ7_copyOf_6403c_29 1 rfl ?_
  refine z_arrlen hY eJ7_copyOf_6403c_30 (t := 2) (N := N) ((z_set_ne (hxq1 _ _ he)).trans he) (by decide) ?_
  refine z_iload hY eJ7_copyOf_6403c_31 2 rfl ?_
  refine z_callSr (As := [z_i (N : Int), z_i (n1 : Int)]) (rest := [z_i 0, .ref q1, z_i 0, .ref e]) (r := z_i (if (n1 : Int) < (N : Int) then (n1 : Int) else (N : Int))) hY eJ7_copyOf_6403c_32 (ma_min hG (by omega)) (by decide) (Nat.le_of_ble_eq_true rfl) (by rw [hmc, hms]; omega) ?_
  refine z_top (b := (N : Int)) (by split <;> omega) ?_
  refine z_arraycopy hY eJ7_copyOf_6403c_35 wAC150 ((z_set_ne (hxq1 _ _ he)).trans he) z_set_at (by omega) (fun i h1 h2 y hy => by obtain ⟨fs, hfs⟩ := hel i y h1 (by omega) (by rw [Int.zero_add] at hy; exact hy); exact ⟨fs, (z_set_ne (hxq1 _ _ hfs)).trans hfs⟩) (Nat.le_of_ble_eq_true rfl) ?_
  refine z_heq (show _ = z_set h q1 (z_qa n1 (z_cpy f (fun _ => none) 0 0 (N : Int))) from z_set_o) ?_
  refine z_aload hY eJ7_copyOf_6403c_38 0 rfl ?_
  exact z_areturn hY eJ7_copyOf_6403c_39 ⟨_, rfl, Or.inr ⟨_, rfl⟩⟩ (by rw [hφ]; exact ⟨q1, rfl, hnq1, rfl⟩) (by rw [hmc, hms]; omega)
theorem ar_copyOf2 {G : z_G} {h : z_H} (hG : z_OK G) {mi e N n1 : Nat} {f : Int → Option Nat} (hM : va_Mi "[Ljava/lang/Object;" mi G.2.1) (he : h e = some (z_qa N f)) (hn : N ≤ n1 ∧ n1 ≤ 1000) (hel : ∀ j y, 0 ≤ j → j < (N : Int) → f j = some y → ∃ fs, h y = some (z_ob 0 fs)) : z_T G mJ7_copyOf_1904c [.ref e, z_i (n1 : Int)] (h) 2 1 n1 (fun v h' => ∃ q : Nat, v = some (.ref q) ∧ h q = none ∧ h' = z_set h q (z_qa n1 (z_cpy f (fun _ => none) 0 0 N))) (z_no) := by
  refine z_T_of hG pJ7_copyOf_1904c (Nat.le_of_ble_eq_true rfl) (ls0 := [(0, .ref e), (1, z_i (n1 : Int))]) rfl fun Y hY hg hmc hms hφ hψ => ?_
  subst hg
  refine z_aload hY eJ7_copyOf_1904c_0 0 rfl ?_
  refine z_iload hY eJ7_copyOf_1904c_1 1 rfl ?_
  refine z_aload hY eJ7_copyOf_1904c_2 0 rfl ?_
  refine z_getC hY rfl hM eJ7_copyOf_1904c_3 he (Nat.le_of_ble_eq_true rfl) ?_
  refine z_callS (As := [.ref e, z_i (n1 : Int), .ref mi]) (rest := []) hY eJ7_copyOf_1904c_6 (ar_copyOf3 hG hM he hn hel) (by decide) (Nat.le_of_ble_eq_true rfl) (by rw [hmc, hms]; omega) (fun _ _ q => q.elim) (fun vv1 hh1 q1 => ?_)
  obtain ⟨q, rfl, hqn, rfl⟩ := q1
  exact z_areturn hY eJ7_copyOf_1904c_9 ⟨_, rfl, Or.inr ⟨_, rfl⟩⟩ (by rw [hφ]; exact ⟨q, rfl, hqn, rfl⟩) (by rw [hmc, hms]; omega)
theorem al_grow1 {G : z_G} {h : z_H} (hG : z_OK G) {a N mi : Nat} {l : Int → Nat} {mo s : Int} (hM : va_Mi "[Ljava/lang/Object;" mi G.2.1) (hs : 0 ≤ s ∧ s ≤ N ∧ s ≤ 30 ∧ N ≤ 45) {e : Nat} (ha : h a = some (z_ob 9 [z_i mo, .ref e, z_i s])) (he : h e = some (z_qa N (z_lf l s))) (hel : ∀ j : Int, 0 ≤ j → j < s → ∃ fs, h (l j) = some (z_ob 0 fs)) (h0 : 0 < N) {m : Int} (hm : m = N + 1) (hsN : s = N) : z_T G mJx4a65c_grow_92f84 [.ref a, z_i m] (h) 3 1 45 (fun v h' => ∃ q n1 : Nat, v = some (.ref q) ∧ h q = none ∧ (N < n1 ∧ n1 ≤ 45) ∧ h' = z_set (z_set h q (z_qa n1 (z_lf l s))) a (z_ob 9 [z_i mo, .ref q, z_i s])) (z_no) := by
  have hae : a ≠ e := z_oq ha he
  refine z_T_of hG pJx4a65c_grow_92f84 (Nat.le_of_ble_eq_true rfl) (ls0 := [(0, .ref a), (1, z_i m)]) rfl fun Y hY hg hmc hms hφ hψ => ?_
  subst hg
  refine z_aload hY eJx4a65c_grow_92f84_0 0 rfl ?_
  refine z_getfield hY eJx4a65c_grow_92f84_1 ha (v := .ref e) rfl ?_
  refine z_arrlen hY eJx4a65c_grow_92f84_4 (t := 2) (N := N) he (by decide) ?_
  refine z_istore hY eJx4a65c_grow_92f84_5 (ls' := [(2, z_i (N : Int)), (0, .ref a), (1, z_i m)]) rfl ?_
  refine z_iload hY eJx4a65c_grow_92f84_6 0 rfl ?_
  refine z_ifgt hY eJx4a65c_grow_92f84_7 (by omega) (fun c7 => ?_) (fun c => by exfalso; omega)
  refine z_iload hY eJx4a65c_grow_92f84_20 0 rfl ?_
  refine z_iload hY eJx4a65c_grow_92f84_21 2 rfl ?_
  refine z_iload hY eJx4a65c_grow_92f84_22 0 rfl ?_
  refine z_isub hY eJx4a65c_grow_92f84_23 ?_
  refine z_iload hY eJx4a65c_grow_92f84_24 0 rfl ?_
  refine z_const hY eJx4a65c_grow_92f84_25 ?_
  refine z_ishr1 hY eJx4a65c_grow_92f84_26 (by omega) ?_
  refine z_callSr (As := [z_i (N : Int), z_i (m - (N : Int)), z_i ((N : Int) / 2)]) (rest := []) (r := z_i ((N : Int) + (if (m - (N : Int)) < ((N : Int) / 2) then ((N : Int) / 2) else (m - (N : Int))))) hY eJx4a65c_grow_92f84_27 (as_newLength hG (o := (N : Int)) (m := (m - (N : Int))) (p := ((N : Int) / 2)) (by omega) (by omega)) (by decide) (Nat.le_of_ble_eq_true rfl) ⟨Nat.zero_le _, Nat.zero_le _⟩ ?_
  obtain ⟨n1, hn1⟩ : ∃ n1 : Nat, (n1 : Int) = (N : Int) + (if (m - (N : Int)) < ((N : Int) / 2) then ((N : Int) / 2) else (m - (N : Int))) := ⟨((N : Int) + (if (m - (N : Int)) < ((N : Int) / 2) then ((N : Int) / 2) else (m - (N : Int)))).toNat, Int.toNat_of_nonneg (by split <;> omega)⟩
  refine z_top (b := (n1 : Int)) hn1.symm ?_
  have hn2 : N < n1 ∧ n1 ≤ 45 := by split at hn1 <;> omega
  refine z_istore hY eJx4a65c_grow_92f84_30 (ls' := [(3, z_i (n1 : Int)), (2, z_i (N : Int)), (0, .ref a), (1, z_i m)]) rfl ?_
  refine z_aload hY eJx4a65c_grow_92f84_31 2 rfl ?_
  refine z_aload hY eJx4a65c_grow_92f84_32 2 rfl ?_
  refine z_getfield hY eJx4a65c_grow_92f84_33 ha (v := .ref e) rfl ?_
  refine z_iload hY eJx4a65c_grow_92f84_36 0 rfl ?_
  refine z_callS (As := [.ref e, z_i (n1 : Int)]) (rest := [.ref a]) hY eJx4a65c_grow_92f84_37 (ar_copyOf2 (n1 := n1) hG hM he (by omega) (fun j y h1 h2 hy => by unfold z_lf at hy; split at hy; (cases hy; exact hel j h1 (by omega)); cases hy)) (by decide) (Nat.le_of_ble_eq_true rfl) (by rw [hmc, hms]; omega) (fun _ _ q => q.elim) (fun vv1 hh1 q1 => ?_)
  obtain ⟨q, rfl, hqn, rfl⟩ := q1
  have hxq : ∀ y c, h y = some c → y ≠ q := fun y c hy => z_on hy hqn
  refine z_heq (show _ = z_set h q (z_qa n1 (z_lf l s)) from congrArg (z_set h q) (z_lf_cpy (by omega))) ?_
  refine z_dup_x1 hY eJx4a65c_grow_92f84_40 rfl rfl ?_
  refine z_putfield hY eJx4a65c_grow_92f84_41 ((z_set_ne (hxq _ _ ha)).trans ha) rfl rfl (Nat.le_of_ble_eq_true rfl) ?_
  refine z_heq (show _ = z_set (z_set h q (z_qa n1 (z_lf l s))) a (z_ob 9 [z_i mo, .ref q, z_i s]) from rfl) ?_
  exact z_areturn hY eJx4a65c_grow_92f84_44 ⟨_, rfl, Or.inr ⟨_, rfl⟩⟩ (by rw [hφ]; exact ⟨q, n1, rfl, hqn, hn2, rfl⟩) (by rw [hmc, hms]; omega)
theorem al_grow0 {G : z_G} {h : z_H} (hG : z_OK G) {a N mi : Nat} {l : Int → Nat} {mo s : Int} (hM : va_Mi "[Ljava/lang/Object;" mi G.2.1) (hs : 0 ≤ s ∧ s ≤ N ∧ s ≤ 30 ∧ N ≤ 45) (ha : h a = some (z_ob 9 [z_i mo, .ref (z_dc G), z_i s])) (h0 : N = 0) (hs0 : s = 0) {m : Int} (hm : m = 1) : z_T G mJx4a65c_grow_92f84 [.ref a, z_i m] (h) 3 1 45 (fun v h' => ∃ q n1 : Nat, v = some (.ref q) ∧ h q = none ∧ (N < n1 ∧ n1 ≤ 45) ∧ h' = z_set (z_set h q (z_qa n1 (z_lf l s))) a (z_ob 9 [z_i mo, .ref q, z_i s])) (z_no) := by
  refine z_T_of hG pJx4a65c_grow_92f84 (Nat.le_of_ble_eq_true rfl) (ls0 := [(0, .ref a), (1, z_i m)]) rfl fun Y hY hg hmc hms hφ hψ => ?_
  subst hg
  refine z_aload hY eJx4a65c_grow_92f84_0 0 rfl ?_
  refine z_getfield hY eJx4a65c_grow_92f84_1 ha (v := .ref (z_dc (z_gg Y))) rfl ?_
  refine z_arrlenD hY eJx4a65c_grow_92f84_4 ?_
  refine z_istore hY eJx4a65c_grow_92f84_5 (ls' := [(2, z_i 0), (0, .ref a), (1, z_i m)]) rfl ?_
  refine z_iload hY eJx4a65c_grow_92f84_6 0 rfl ?_
  refine z_ifgt hY eJx4a65c_grow_92f84_7 (by omega) (fun c => absurd c (by omega)) (fun _ => ?_)
  refine z_aload hY eJx4a65c_grow_92f84_10 1 rfl ?_
  refine z_getfield hY eJx4a65c_grow_92f84_11 ha (v := .ref (z_dc (z_gg Y))) rfl ?_
  refine z_getsD hY eJx4a65c_grow_92f84_14 rfl ?_
  refine z_acmpeq hY eJx4a65c_grow_92f84_17 (fun _ => ?_) (fun c => absurd rfl c)
  refine z_aload hY eJx4a65c_grow_92f84_45 1 rfl ?_
  refine z_const hY eJx4a65c_grow_92f84_46 ?_
  refine z_iload hY eJx4a65c_grow_92f84_48 2 rfl ?_
  refine z_callSr (As := [z_i 10, z_i m]) (rest := [.ref a]) (r := z_i (if 10 < m then m else 10)) hY eJx4a65c_grow_92f84_49 (ma_max hG (by omega)) (by decide) (Nat.le_of_ble_eq_true rfl) ⟨Nat.zero_le _, Nat.zero_le _⟩ ?_
  refine z_top (b := ((10 : Nat) : Int)) (by split <;> omega) ?_
  refine z_newQ (N := 10) hY eJx4a65c_grow_92f84_52 wL7 (by omega) (by rw [hmc, hms]; omega) (fun q1 hnq1 => ?_)
  have hxq1 : ∀ y c, h y = some c → y ≠ q1 := fun y c hy => z_on hy hnq1
  refine z_dup_x1 hY eJx4a65c_grow_92f84_55 rfl rfl ?_
  refine z_putfield hY eJx4a65c_grow_92f84_56 ((z_set_ne (hxq1 _ _ ha)).trans ha) rfl rfl (Nat.le_of_ble_eq_true rfl) ?_
  refine z_heq (show _ = z_set (z_set h q1 (z_qa 10 (fun _ => none))) a (z_ob 9 [z_i mo, .ref q1, z_i s]) from rfl) ?_
  exact z_areturn hY eJx4a65c_grow_92f84_59 ⟨_, rfl, Or.inr ⟨_, rfl⟩⟩ (by rw [hφ]; subst hs0; exact ⟨q1, 10, rfl, hnq1, by omega, congrArg (fun c => z_set (z_set h q1 c) a (z_ob 9 [z_i mo, .ref q1, z_i 0])) z_lf_none⟩) (by rw [hmc, hms]; omega)
theorem al_grow {G : z_G} {h : z_H} (hG : z_OK G) {a e N mi : Nat} {l : Int → Nat} {mo s : Int} (hM : va_Mi "[Ljava/lang/Object;" mi G.2.1) (hs : 0 ≤ s ∧ s ≤ N ∧ s ≤ 30 ∧ N ≤ 45) (ha : h a = some (z_ob 9 [z_i mo, .ref e, z_i s])) (he : z_row G h e N l s) (hel : ∀ j : Int, 0 ≤ j → j < s → ∃ fs, h (l j) = some (z_ob 0 fs)) {m : Int} (hm : m = s + 1) (hsN : s = N) : z_T G mJx4a65c_grow_92f84 [.ref a, z_i m] h 3 1 45 (fun v h' => ∃ q n1 : Nat, v = some (.ref q) ∧ h q = none ∧ (N < n1 ∧ n1 ≤ 45) ∧ h' = z_set (z_set h q (z_qa n1 (z_lf l s))) a (z_ob 9 [z_i mo, .ref q, z_i s])) z_no := by
  rcases he with ⟨h1, h2, h3⟩ | ⟨h1, h2⟩
  · subst h2
    exact al_grow0 hG hM hs ha h1 h3 (by omega)
  · exact al_grow1 hG hM hs ha h2 hel h1 (by omega) hsN
theorem al_growN {G : z_G} {h : z_H} (hG : z_OK G) {a e N mi : Nat} {l : Int → Nat} {mo s : Int} (hM : va_Mi "[Ljava/lang/Object;" mi G.2.1) (hs : 0 ≤ s ∧ s ≤ N ∧ s ≤ 30 ∧ N ≤ 45) (ha : h a = some (z_ob 9 [z_i mo, .ref e, z_i s])) (he : z_row G h e N l s) (hel : ∀ j : Int, 0 ≤ j → j < s → ∃ fs, h (l j) = some (z_ob 0 fs)) (hsN : s = N) : z_T G mJx4a65c_grow_d5877 [.ref a] (h) 4 1 45 (fun v h' => ∃ q n1 : Nat, v = some (.ref q) ∧ h q = none ∧ (N < n1 ∧ n1 ≤ 45) ∧ h' = z_set (z_set h q (z_qa n1 (z_lf l s))) a (z_ob 9 [z_i mo, .ref q, z_i s])) (z_no) := by
  refine z_T_of hG pJx4a65c_grow_d5877 (Nat.le_of_ble_eq_true rfl) (ls0 := [(0, .ref a)]) rfl fun Y hY hg hmc hms hφ hψ => ?_
  subst hg
  refine z_aload hY eJx4a65c_grow_d5877_0 0 rfl ?_
  refine z_aload hY eJx4a65c_grow_d5877_1 0 rfl ?_
  refine z_getfield hY eJx4a65c_grow_d5877_2 ha (v := z_i s) rfl ?_
  refine z_const hY eJx4a65c_grow_d5877_5 ?_
  refine z_iadd hY eJx4a65c_grow_d5877_6 ?_
  refine z_callV (As := [z_i (s + 1)]) (rest := []) hY eJx4a65c_grow_d5877_7 (al_grow (l := l) hG hM hs ha he hel (by omega) hsN) ha (by decide) (Nat.le_of_ble_eq_true rfl) (by rw [hmc, hms]; omega) (fun _ _ q => q.elim) (fun vv1 hh1 q1 => ?_)
  obtain ⟨q, n1, rfl, hqn, hn2, rfl⟩ := q1
  have haq : a ≠ q := z_on ha hqn
  exact z_areturn hY eJx4a65c_grow_d5877_10 ⟨_, rfl, Or.inr ⟨_, rfl⟩⟩ (by rw [hφ]; exact ⟨q, n1, rfl, hqn, hn2, rfl⟩) (by rw [hmc, hms]; omega)
theorem al_add3a {G : z_G} {h : z_H} (hG : z_OK G) {a e N mi : Nat} {l : Int → Nat} {mo s : Int} (hM : va_Mi "[Ljava/lang/Object;" mi G.2.1) (hs : 0 ≤ s ∧ s ≤ N ∧ s ≤ 30 ∧ N ≤ 45) (ha : h a = some (z_ob 9 [z_i mo, .ref e, z_i s])) (he : z_row G h e N l s) (hel : ∀ j : Int, 0 ≤ j → j < s → ∃ fs, h (l j) = some (z_ob 0 fs)) {y : Nat} {ys : List Value} (hy : h y = some (z_ob 0 ys)) (h1 : 0 < N ∧ h e = some (z_qa N (z_lf l s))) (h2 : s < N) : z_T G mJx4a65c_add_72be8 [.ref a, .ref y, .ref e, z_i s] (h) 5 1 45 (fun v h' => v = none ∧ z_add h a e N mo s (z_up l s y) h') (z_no) := by
  have hae : a ≠ e := z_oq ha h1.2
  have hye : y ≠ e := z_oq hy h1.2
  have hya : y ≠ a := z_oo (by decide) hy ha
  refine z_T_of hG pJx4a65c_add_72be8 (Nat.le_of_ble_eq_true rfl) (ls0 := [(0, .ref a), (1, .ref y), (2, .ref e), (3, z_i s)]) rfl fun Y hY hg hmc hms hφ hψ => ?_
  subst hg
  refine z_iload hY eJx4a65c_add_72be8_0 3 rfl ?_
  refine z_aload hY eJx4a65c_add_72be8_1 2 rfl ?_
  refine z_arrlen hY eJx4a65c_add_72be8_2 (t := 2) (N := N) h1.2 (by decide) ?_
  refine z_icmpne hY eJx4a65c_add_72be8_3 (by omega) (fun c3 => ?_) (fun c => by exfalso; omega)
  refine z_aload hY eJx4a65c_add_72be8_11 2 rfl ?_
  refine z_iload hY eJx4a65c_add_72be8_12 3 rfl ?_
  refine z_aload hY eJx4a65c_add_72be8_13 1 rfl ?_
  refine z_aastore hY eJx4a65c_add_72be8_14 h1.2 hy (by omega) ?_
  refine z_heq (show _ = z_set h e (z_qa N (z_up (z_lf l s) s (some y))) from rfl) ?_
  refine z_aload hY eJx4a65c_add_72be8_15 0 rfl ?_
  refine z_iload hY eJx4a65c_add_72be8_16 3 rfl ?_
  refine z_const hY eJx4a65c_add_72be8_17 ?_
  refine z_iadd hY eJx4a65c_add_72be8_18 ?_
  refine z_putfield hY eJx4a65c_add_72be8_19 ((z_set_ne hae).trans ha) rfl rfl (Nat.le_of_ble_eq_true rfl) ?_
  refine z_heq (show _ = z_set (z_set h e (z_qa N (z_up (z_lf l s) s (some y)))) a (z_ob 9 [z_i mo, .ref e, z_i (s + 1)]) from rfl) ?_
  exact z_return hY eJx4a65c_add_72be8_22 rfl (by rw [hφ]; exact ⟨rfl, e, N, by rw [← z_lf_add hs.1], Or.inl ⟨rfl, rfl, h1.1⟩, by omega, by omega, h1.1⟩) ⟨Nat.zero_le _, Nat.zero_le _⟩
theorem al_add3b {G : z_G} {h : z_H} (hG : z_OK G) {a e N mi : Nat} {l : Int → Nat} {mo s : Int} (hM : va_Mi "[Ljava/lang/Object;" mi G.2.1) (hs : 0 ≤ s ∧ s ≤ N ∧ s ≤ 30 ∧ N ≤ 45) (ha : h a = some (z_ob 9 [z_i mo, .ref e, z_i s])) (he : z_row G h e N l s) (hel : ∀ j : Int, 0 ≤ j → j < s → ∃ fs, h (l j) = some (z_ob 0 fs)) {y : Nat} {ys : List Value} (hy : h y = some (z_ob 0 ys)) (h1 : 0 < N ∧ h e = some (z_qa N (z_lf l s))) (hsN : s = N) : z_T G mJx4a65c_add_72be8 [.ref a, .ref y, .ref e, z_i s] (h) 5 1 45 (fun v h' => v = none ∧ z_add h a e N mo s (z_up l s y) h') (z_no) := by
  have hya : y ≠ a := z_oo (by decide) hy ha
  refine z_T_of hG pJx4a65c_add_72be8 (Nat.le_of_ble_eq_true rfl) (ls0 := [(0, .ref a), (1, .ref y), (2, .ref e), (3, z_i s)]) rfl fun Y hY hg hmc hms hφ hψ => ?_
  subst hg
  refine z_iload hY eJx4a65c_add_72be8_0 3 rfl ?_
  refine z_aload hY eJx4a65c_add_72be8_1 2 rfl ?_
  refine z_arrlen hY eJx4a65c_add_72be8_2 (t := 2) (N := N) h1.2 (by decide) ?_
  refine z_icmpne hY eJx4a65c_add_72be8_3 (by omega) (fun c => by exfalso; omega) (fun c3 => ?_)
  refine z_aload hY eJx4a65c_add_72be8_6 0 rfl ?_
  refine z_callV (As := []) (rest := []) hY eJx4a65c_add_72be8_7 (al_growN (l := l) hG hM hs ha he hel hsN) ha (by decide) (Nat.le_of_ble_eq_true rfl) (by rw [hmc, hms]; omega) (fun _ _ q => q.elim) (fun vv1 hh1 q1 => ?_)
  obtain ⟨q, n1, rfl, hqn, hn2, rfl⟩ := q1
  have hxq : ∀ y c, h y = some c → y ≠ q := fun y c hy => z_on hy hqn
  refine z_astore hY eJx4a65c_add_72be8_10 (ls' := [(2, .ref q), (0, .ref a), (1, .ref y), (3, z_i s)]) rfl ?_
  refine z_aload hY eJx4a65c_add_72be8_11 0 rfl ?_
  refine z_iload hY eJx4a65c_add_72be8_12 3 rfl ?_
  refine z_aload hY eJx4a65c_add_72be8_13 2 rfl ?_
  refine z_aastore hY eJx4a65c_add_72be8_14 ((z_set_ne (Ne.symm (hxq _ _ ha))).trans z_set_at) ((z_set_ne hya).trans ((z_set_ne (hxq _ _ hy)).trans hy)) (by omega) ?_
  refine z_heq (show _ = z_set (z_set h a (z_ob 9 [z_i mo, .ref q, z_i s])) q (z_qa n1 (z_up (z_lf l s) s (some y))) from by rw [z_set_c (a := q) (b := a) (Ne.symm (hxq _ _ ha)), z_set_o]; first | done | rfl) ?_
  refine z_aload hY eJx4a65c_add_72be8_15 1 rfl ?_
  refine z_iload hY eJx4a65c_add_72be8_16 3 rfl ?_
  refine z_const hY eJx4a65c_add_72be8_17 ?_
  refine z_iadd hY eJx4a65c_add_72be8_18 ?_
  refine z_putfield hY eJx4a65c_add_72be8_19 ((z_set_ne (hxq _ _ ha)).trans z_set_at) rfl rfl (Nat.le_of_ble_eq_true rfl) ?_
  refine z_heq (show _ = z_set (z_set h q (z_qa n1 (z_up (z_lf l s) s (some y)))) a (z_ob 9 [z_i mo, .ref q, z_i (s + 1)]) from by rw [z_set_c (a := a) (b := q) (hxq _ _ ha), z_set_o]; first | done | rfl) ?_
  exact z_return hY eJx4a65c_add_72be8_22 rfl (by rw [hφ]; exact ⟨rfl, q, n1, by rw [← z_lf_add hs.1], Or.inr hqn, by omega, by omega, by omega⟩) (by rw [hmc, hms]; omega)
theorem al_add3c {G : z_G} {h : z_H} (hG : z_OK G) {a N mi : Nat} {l : Int → Nat} {mo s : Int} (hM : va_Mi "[Ljava/lang/Object;" mi G.2.1) (hs : 0 ≤ s ∧ s ≤ N ∧ s ≤ 30 ∧ N ≤ 45) (ha : h a = some (z_ob 9 [z_i mo, .ref (z_dc G), z_i s])) (he : z_row G h (z_dc G) N l s) (hel : ∀ j : Int, 0 ≤ j → j < s → ∃ fs, h (l j) = some (z_ob 0 fs)) {y : Nat} {ys : List Value} (hy : h y = some (z_ob 0 ys)) (h0 : N = 0) (hsN : s = N) : z_T G mJx4a65c_add_72be8 [.ref a, .ref y, .ref (z_dc G), z_i s] (h) 5 1 45 (fun v h' => v = none ∧ z_add h a (z_dc G) N mo s (z_up l s y) h') (z_no) := by
  have hya : y ≠ a := z_oo (by decide) hy ha
  refine z_T_of hG pJx4a65c_add_72be8 (Nat.le_of_ble_eq_true rfl) (ls0 := [(0, .ref a), (1, .ref y), (2, .ref (z_dc G)), (3, z_i s)]) rfl fun Y hY hg hmc hms hφ hψ => ?_
  subst hg
  refine z_iload hY eJx4a65c_add_72be8_0 3 rfl ?_
  refine z_aload hY eJx4a65c_add_72be8_1 2 rfl ?_
  refine z_arrlenD hY eJx4a65c_add_72be8_2 ?_
  refine z_icmpne hY eJx4a65c_add_72be8_3 (by omega) (fun c => by exfalso; omega) (fun c3 => ?_)
  refine z_aload hY eJx4a65c_add_72be8_6 0 rfl ?_
  refine z_callV (As := []) (rest := []) hY eJx4a65c_add_72be8_7 (al_growN (l := l) hG hM hs ha he hel hsN) ha (by decide) (Nat.le_of_ble_eq_true rfl) (by rw [hmc, hms]; omega) (fun _ _ q => q.elim) (fun vv1 hh1 q1 => ?_)
  obtain ⟨q, n1, rfl, hqn, hn2, rfl⟩ := q1
  have hxq : ∀ y c, h y = some c → y ≠ q := fun y c hy => z_on hy hqn
  refine z_astore hY eJx4a65c_add_72be8_10 (ls' := [(2, .ref q), (0, .ref a), (1, .ref y), (3, z_i s)]) rfl ?_
  refine z_aload hY eJx4a65c_add_72be8_11 0 rfl ?_
  refine z_iload hY eJx4a65c_add_72be8_12 3 rfl ?_
  refine z_aload hY eJx4a65c_add_72be8_13 2 rfl ?_
  refine z_aastore hY eJx4a65c_add_72be8_14 ((z_set_ne (Ne.symm (hxq _ _ ha))).trans z_set_at) ((z_set_ne hya).trans ((z_set_ne (hxq _ _ hy)).trans hy)) (by omega) ?_
  refine z_heq (show _ = z_set (z_set h a (z_ob 9 [z_i mo, .ref q, z_i s])) q (z_qa n1 (z_up (z_lf l s) s (some y))) from by rw [z_set_c (a := q) (b := a) (Ne.symm (hxq _ _ ha)), z_set_o]; first | done | rfl) ?_
  refine z_aload hY eJx4a65c_add_72be8_15 1 rfl ?_
  refine z_iload hY eJx4a65c_add_72be8_16 3 rfl ?_
  refine z_const hY eJx4a65c_add_72be8_17 ?_
  refine z_iadd hY eJx4a65c_add_72be8_18 ?_
  refine z_putfield hY eJx4a65c_add_72be8_19 ((z_set_ne (hxq _ _ ha)).trans z_set_at) rfl rfl (Nat.le_of_ble_eq_true rfl) ?_
  refine z_heq (show _ = z_set (z_set h q (z_qa n1 (z_up (z_lf l s) s (some y)))) a (z_ob 9 [z_i mo, .ref q, z_i (s + 1)]) from by rw [z_set_c (a := a) (b := q) (hxq _ _ ha), z_set_o]; first | done | rfl) ?_
  exact z_return hY eJx4a65c_add_72be8_22 rfl (by rw [hφ]; exact ⟨rfl, q, n1, by rw [← z_lf_add hs.1], Or.inr hqn, by omega, by omega, by omega⟩) (by rw [hmc, hms]; omega)
theorem al_add3 {G : z_G} {h : z_H} (hG : z_OK G) {a e N mi : Nat} {l : Int → Nat} {mo s : Int} (hM : va_Mi "[Ljava/lang/Object;" mi G.2.1) (hs : 0 ≤ s ∧ s ≤ N ∧ s ≤ 30 ∧ N ≤ 45) (ha : h a = some (z_ob 9 [z_i mo, .ref e, z_i s])) (he : z_row G h e N l s) (hel : ∀ j : Int, 0 ≤ j → j < s → ∃ fs, h (l j) = some (z_ob 0 fs)) {y : Nat} {ys : List Value} (hy : h y = some (z_ob 0 ys)) (h3 : s < N ∨ s = N) : z_T G mJx4a65c_add_72be8 [.ref a, .ref y, .ref e, z_i s] h 5 1 45 (fun v h' => v = none ∧ z_add h a e N mo s (z_up l s y) h') z_no := by
  rcases h3 with h3 | h3
  · rcases he with ⟨h1, h2, h4⟩ | h1
    · omega
    · exact al_add3a hG hM hs ha (Or.inr h1) hel hy h1 h3
  · rcases id he with ⟨h1, h2, h4⟩ | h1
    · subst h2
      exact al_add3c hG hM hs ha he hel hy h1 h3
    · exact al_add3b hG hM hs ha he hel hy h1 h3
theorem z_row_set {G : z_G} {h : z_H} {a e N : Nat} {l : Int → Nat} {s : Int} {fs fs' : List Value} {ci : Nat} (ha : h a = some (z_ob ci fs)) (he : z_row G h e N l s) : z_row G (z_set h a (z_ob ci fs')) e N l s := by
  rcases he with h1 | ⟨h1, h2⟩
  · exact Or.inl h1
  · exact Or.inr ⟨h1, (z_set_ne (z_oq ha h2).symm).trans h2⟩
theorem z_hel_set {h : z_H} {a : Nat} {l : Int → Nat} {s : Int} {fs fs' : List Value} (ha : h a = some (z_ob 9 fs)) (hel : ∀ j : Int, 0 ≤ j → j < s → ∃ fs, h (l j) = some (z_ob 0 fs)) : ∀ j : Int, 0 ≤ j → j < s → ∃ fs, (z_set h a (z_ob 9 fs')) (l j) = some (z_ob 0 fs) := by
  intro j h1 h2
  obtain ⟨fs, hfs⟩ := hel j h1 h2
  exact ⟨fs, (z_set_ne (z_oo (by decide) hfs ha)).trans hfs⟩
/-- the end of a call that puts in, over a heap where only the list's count was changed before -/
theorem z_add_set {h : z_H} {a e N : Nat} {mo' s : Int} {l' : Int → Nat} {fs fs' : List Value} {h' : z_H} (ha : h a = some (z_ob 9 fs)) (hA : z_add (z_set h a (z_ob 9 fs')) a e N mo' s l' h') : z_add h a e N mo' s l' h' := by
  obtain ⟨e1, N1, h1, h2, h3⟩ := hA
  have hne : N = N1 ∧ e1 = e ∧ 0 < N ∨ h e1 = none ∧ a ≠ e1 := by
    rcases h2 with ⟨q1, q2, q3⟩ | q
    · exact Or.inl ⟨q2.symm, q1, q3⟩
    · exact Or.inr ⟨(z_set_new q).2, (z_set_new q).1.symm⟩
  by_cases hae : a = e1
  · rcases h2 with q | q
    · refine ⟨e1, N1, ?_, Or.inl q, h3⟩
      subst hae
      rw [h1, z_set_o, z_set_o, z_set_o]
    · exact absurd hae (z_set_new q).1.symm
  · refine ⟨e1, N1, ?_, ?_, h3⟩
    · rw [h1, z_set_c hae, z_set_o]
    · rcases h2 with q | q
      · exact Or.inl q
      · exact Or.inr (z_set_new q).2
theorem al_add {G : z_G} {h : z_H} (hG : z_OK G) {a e N mi : Nat} {l : Int → Nat} {mo s : Int} (hM : va_Mi "[Ljava/lang/Object;" mi G.2.1) (hs : 0 ≤ s ∧ s ≤ N ∧ s ≤ 30 ∧ N ≤ 45) (ha : h a = some (z_ob 9 [z_i mo, .ref e, z_i s])) (he : z_row G h e N l s) (hel : ∀ j : Int, 0 ≤ j → j < s → ∃ fs, h (l j) = some (z_ob 0 fs)) {y : Nat} {ys : List Value} (hy : h y = some (z_ob 0 ys)) : z_T G mJx4a65c_add_9ea2d [.ref a, .ref y] (h) 6 1 45 (fun v h' => v = some (z_i 1) ∧ z_add h a e N (mo + 1) s (z_up l s y) h') (z_no) := by
  have hya : y ≠ a := z_oo (by decide) hy ha
  refine z_T_of hG pJx4a65c_add_9ea2d (Nat.le_of_ble_eq_true rfl) (ls0 := [(0, .ref a), (1, .ref y)]) rfl fun Y hY hg hmc hms hφ hψ => ?_
  subst hg
  refine z_aload hY eJx4a65c_add_9ea2d_0 0 rfl ?_
  refine z_dup hY eJx4a65c_add_9ea2d_1 rfl ?_
  refine z_getfield hY eJx4a65c_add_9ea2d_2 ha (v := z_i mo) rfl ?_
  refine z_const hY eJx4a65c_add_9ea2d_5 ?_
  refine z_iadd hY eJx4a65c_add_9ea2d_6 ?_
  refine z_putfield hY eJx4a65c_add_9ea2d_7 ha rfl rfl (Nat.le_of_ble_eq_true rfl) ?_
  refine z_heq (show _ = z_set h a (z_ob 9 [z_i (mo + 1), .ref e, z_i s]) from rfl) ?_
  refine z_aload hY eJx4a65c_add_9ea2d_10 0 rfl ?_
  refine z_aload hY eJx4a65c_add_9ea2d_11 1 rfl ?_
  refine z_aload hY eJx4a65c_add_9ea2d_12 0 rfl ?_
  refine z_getfield hY eJx4a65c_add_9ea2d_13 z_set_at (v := .ref e) rfl ?_
  refine z_aload hY eJx4a65c_add_9ea2d_16 0 rfl ?_
  refine z_getfield hY eJx4a65c_add_9ea2d_17 z_set_at (v := z_i s) rfl ?_
  refine z_callV (As := [.ref y, .ref e, z_i s]) (rest := []) hY eJx4a65c_add_9ea2d_20 (al_add3 (mo := mo + 1) (l := l) hG hM hs z_set_at (z_row_set ha he) (z_hel_set ha hel) ((z_set_ne hya).trans hy) (by omega)) z_set_at (by decide) (Nat.le_of_ble_eq_true rfl) (by rw [hmc, hms]; omega) (fun _ _ q => q.elim) (fun vv1 hh1 q1 => ?_)
  obtain ⟨rfl, hadd⟩ := q1
  refine z_const hY eJx4a65c_add_9ea2d_23 ?_
  exact z_zreturn hY eJx4a65c_add_9ea2d_24 rfl (by omega) (by rw [hφ]; exact ⟨rfl, z_add_set ha hadd⟩) (by rw [hmc, hms]; omega)
theorem al_range {G : z_G} {h : z_H} (hG : z_OK G) {a e : Nat} {mo s : Int} (ha : h a = some (z_ob 9 [z_i mo, .ref e, z_i s])) {i : Int} (hi : 0 ≤ i ∧ i ≤ s ∧ s ≤ 1000) : z_T G mJx4a65c_rangeCheckForAdd_d00df [.ref a, z_i i] (h) 0 0 0 (fun v h' => v = none ∧ h' = h) (z_no) := by
  refine z_T_of hG pJx4a65c_rangeCheckForAdd_d00df (Nat.le_of_ble_eq_true rfl) (ls0 := [(0, .ref a), (1, z_i i)]) rfl fun Y hY hg hmc hms hφ hψ => ?_
  subst hg
  refine z_iload hY eJx4a65c_rangeCheckForAdd_d00df_0 1 rfl ?_
  refine z_aload hY eJx4a65c_rangeCheckForAdd_d00df_1 0 rfl ?_
  refine z_getfield hY eJx4a65c_rangeCheckForAdd_d00df_2 ha (v := z_i s) rfl ?_
  refine z_icmpgt hY eJx4a65c_rangeCheckForAdd_d00df_5 (by omega) (fun c => by exfalso; omega) (fun c5 => ?_)
  refine z_iload hY eJx4a65c_rangeCheckForAdd_d00df_8 1 rfl ?_
  refine z_ifge hY eJx4a65c_rangeCheckForAdd_d00df_9 (by omega) (fun c9 => ?_) (fun c => by exfalso; omega)
  exact z_return hY eJx4a65c_rangeCheckForAdd_d00df_25 rfl (by rw [hφ]; exact ⟨rfl, rfl⟩) ⟨Nat.zero_le _, Nat.zero_le _⟩
theorem al_ins_a {G : z_G} {h : z_H} (hG : z_OK G) {a e N mi : Nat} {l : Int → Nat} {mo s : Int} (hM : va_Mi "[Ljava/lang/Object;" mi G.2.1) (hs : 0 ≤ s ∧ s ≤ N ∧ s ≤ 30 ∧ N ≤ 45) (ha : h a = some (z_ob 9 [z_i mo, .ref e, z_i s])) (he : z_row G h e N l s) (hel : ∀ j : Int, 0 ≤ j → j < s → ∃ fs, h (l j) = some (z_ob 0 fs)) {y : Nat} {ys : List Value} (hy : h y = some (z_ob 0 ys)) {i : Int} (hi : 0 ≤ i ∧ i ≤ s) (h1 : 0 < N ∧ h e = some (z_qa N (z_lf l s))) (h2 : s < N) : z_T G mJx4a65c_add_7a177 [.ref a, z_i i, .ref y] (h) 6 1 45 (fun v h' => v = none ∧ z_add h a e N (mo + 1) s (z_ins l i y) h') (z_no) := by
  have hae : a ≠ e := z_oq ha h1.2
  have hye : y ≠ e := z_oq hy h1.2
  have hya : y ≠ a := z_oo (by decide) hy ha
  refine z_T_of hG pJx4a65c_add_7a177 (Nat.le_of_ble_eq_true rfl) (ls0 := [(0, .ref a), (1, z_i i), (2, .ref y)]) rfl fun Y hY hg hmc hms hφ hψ => ?_
  subst hg
  refine z_aload hY eJx4a65c_add_7a177_0 0 rfl ?_
  refine z_iload hY eJx4a65c_add_7a177_1 1 rfl ?_
  refine z_callV (As := [z_i i]) (rest := []) hY eJx4a65c_add_7a177_2 (al_range hG ha (by omega)) ha (by decide) (Nat.le_of_ble_eq_true rfl) ⟨Nat.zero_le _, Nat.zero_le _⟩ (fun _ _ q => q.elim) (fun vv1 hh1 q1 => ?_)
  obtain ⟨rfl, e9⟩ := q1
  refine z_heq e9 ?_
  refine z_aload hY eJx4a65c_add_7a177_5 0 rfl ?_
  refine z_dup hY eJx4a65c_add_7a177_6 rfl ?_
  refine z_getfield hY eJx4a65c_add_7a177_7 ha (v := z_i mo) rfl ?_
  refine z_const hY eJx4a65c_add_7a177_10 ?_
  refine z_iadd hY eJx4a65c_add_7a177_11 ?_
  refine z_putfield hY eJx4a65c_add_7a177_12 ha rfl rfl (Nat.le_of_ble_eq_true rfl) ?_
  refine z_heq (show _ = z_set h a (z_ob 9 [z_i (mo + 1), .ref e, z_i s]) from rfl) ?_
  refine z_aload hY eJx4a65c_add_7a177_15 0 rfl ?_
  refine z_getfield hY eJx4a65c_add_7a177_16 z_set_at (v := z_i s) rfl ?_
  refine z_dup hY eJx4a65c_add_7a177_19 rfl ?_
  refine z_istore hY eJx4a65c_add_7a177_20 (ls' := [(3, z_i s), (0, .ref a), (1, z_i i), (2, .ref y)]) rfl ?_
  refine z_aload hY eJx4a65c_add_7a177_21 1 rfl ?_
  refine z_getfield hY eJx4a65c_add_7a177_22 z_set_at (v := .ref e) rfl ?_
  refine z_dup hY eJx4a65c_add_7a177_25 rfl ?_
  refine z_astore hY eJx4a65c_add_7a177_26 (ls' := [(4, .ref e), (3, z_i s), (0, .ref a), (1, z_i i), (2, .ref y)]) rfl ?_
  refine z_arrlen hY eJx4a65c_add_7a177_28 (t := 2) (N := N) ((z_set_ne (Ne.symm hae)).trans h1.2) (by decide) ?_
  refine z_icmpne hY eJx4a65c_add_7a177_29 (by omega) (fun c29 => ?_) (fun c => by exfalso; omega)
  refine z_aload hY eJx4a65c_add_7a177_38 0 rfl ?_
  refine z_iload hY eJx4a65c_add_7a177_40 3 rfl ?_
  refine z_aload hY eJx4a65c_add_7a177_41 0 rfl ?_
  refine z_iload hY eJx4a65c_add_7a177_43 3 rfl ?_
  refine z_const hY eJx4a65c_add_7a177_44 ?_
  refine z_iadd hY eJx4a65c_add_7a177_45 ?_
  refine z_iload hY eJx4a65c_add_7a177_46 1 rfl ?_
  refine z_iload hY eJx4a65c_add_7a177_47 3 rfl ?_
  refine z_isub hY eJx4a65c_add_7a177_48 ?_
  refine z_arraycopy hY eJx4a65c_add_7a177_49 wAC112 ((z_set_ne (Ne.symm hae)).trans h1.2) ((z_set_ne (Ne.symm hae)).trans h1.2) (by omega) (fun j h1 h2 y0 hy0 => by unfold z_lf at hy0; split at hy0; (cases hy0; obtain ⟨fs, hfs⟩ := hel (i + j) (by omega) (by omega); exact ⟨fs, (z_set_ne (z_oo (by decide) hfs ha)).trans hfs⟩); cases hy0) (Nat.le_of_ble_eq_true rfl) ?_
  refine z_heq (show _ = z_set (z_set h a (z_ob 9 [z_i (mo + 1), .ref e, z_i s])) e (z_qa N (z_cpy (z_lf l s) (z_lf l s) i (i + 1) (s - i))) from rfl) ?_
  refine z_aload hY eJx4a65c_add_7a177_52 0 rfl ?_
  refine z_iload hY eJx4a65c_add_7a177_54 3 rfl ?_
  refine z_aload hY eJx4a65c_add_7a177_55 4 rfl ?_
  refine z_aastore hY eJx4a65c_add_7a177_56 z_set_at ((z_set_ne hye).trans ((z_set_ne hya).trans hy)) (by omega) ?_
  refine z_heq (show _ = z_set (z_set h a (z_ob 9 [z_i (mo + 1), .ref e, z_i s])) e (z_qa N (z_up (z_cpy (z_lf l s) (z_lf l s) i (i + 1) (s - i)) i (some y))) from z_set_o) ?_
  refine z_aload hY eJx4a65c_add_7a177_57 2 rfl ?_
  refine z_iload hY eJx4a65c_add_7a177_58 1 rfl ?_
  refine z_const hY eJx4a65c_add_7a177_59 ?_
  refine z_iadd hY eJx4a65c_add_7a177_60 ?_
  refine z_putfield hY eJx4a65c_add_7a177_61 ((z_set_ne hae).trans z_set_at) rfl rfl (Nat.le_of_ble_eq_true rfl) ?_
  refine z_heq (show _ = z_set (z_set h e (z_qa N (z_up (z_cpy (z_lf l s) (z_lf l s) i (i + 1) (s - i)) i (some y)))) a (z_ob 9 [z_i (mo + 1), .ref e, z_i (s + 1)]) from by rw [z_set_c (a := a) (b := e) hae, z_set_o]; first | done | rfl) ?_
  exact z_return hY eJx4a65c_add_7a177_64 rfl (by rw [hφ]; exact ⟨rfl, e, N, by rw [← z_lf_ins hi], Or.inl ⟨rfl, rfl, h1.1⟩, by omega, by omega, h1.1⟩) ⟨Nat.zero_le _, Nat.zero_le _⟩
theorem al_ins_b {G : z_G} {h : z_H} (hG : z_OK G) {a e N mi : Nat} {l : Int → Nat} {mo s : Int} (hM : va_Mi "[Ljava/lang/Object;" mi G.2.1) (hs : 0 ≤ s ∧ s ≤ N ∧ s ≤ 30 ∧ N ≤ 45) (ha : h a = some (z_ob 9 [z_i mo, .ref e, z_i s])) (he : z_row G h e N l s) (hel : ∀ j : Int, 0 ≤ j → j < s → ∃ fs, h (l j) = some (z_ob 0 fs)) {y : Nat} {ys : List Value} (hy : h y = some (z_ob 0 ys)) {i : Int} (hi : 0 ≤ i ∧ i ≤ s) (h1 : 0 < N ∧ h e = some (z_qa N (z_lf l s))) (hsN : s = N) : z_T G mJx4a65c_add_7a177 [.ref a, z_i i, .ref y] (h) 6 1 45 (fun v h' => v = none ∧ z_add h a e N (mo + 1) s (z_ins l i y) h') (z_no) := by
  have hya : y ≠ a := z_oo (by decide) hy ha
  have hae : a ≠ e := z_oq ha h1.2
  refine z_T_of hG pJx4a65c_add_7a177 (Nat.le_of_ble_eq_true rfl) (ls0 := [(0, .ref a), (1, z_i i), (2, .ref y)]) rfl fun Y hY hg hmc hms hφ hψ => ?_
  subst hg
  refine z_aload hY eJx4a65c_add_7a177_0 0 rfl ?_
  refine z_iload hY eJx4a65c_add_7a177_1 1 rfl ?_
  refine z_callV (As := [z_i i]) (rest := []) hY eJx4a65c_add_7a177_2 (al_range hG ha (by omega)) ha (by decide) (Nat.le_of_ble_eq_true rfl) ⟨Nat.zero_le _, Nat.zero_le _⟩ (fun _ _ q => q.elim) (fun vv1 hh1 q1 => ?_)
  obtain ⟨rfl, e9⟩ := q1
  refine z_heq e9 ?_
  refine z_aload hY eJx4a65c_add_7a177_5 0 rfl ?_
  refine z_dup hY eJx4a65c_add_7a177_6 rfl ?_
  refine z_getfield hY eJx4a65c_add_7a177_7 ha (v := z_i mo) rfl ?_
  refine z_const hY eJx4a65c_add_7a177_10 ?_
  refine z_iadd hY eJx4a65c_add_7a177_11 ?_
  refine z_putfield hY eJx4a65c_add_7a177_12 ha rfl rfl (Nat.le_of_ble_eq_true rfl) ?_
  refine z_heq (show _ = z_set h a (z_ob 9 [z_i (mo + 1), .ref e, z_i s]) from rfl) ?_
  refine z_aload hY eJx4a65c_add_7a177_15 0 rfl ?_
  refine z_getfield hY eJx4a65c_add_7a177_16 z_set_at (v := z_i s) rfl ?_
  refine z_dup hY eJx4a65c_add_7a177_19 rfl ?_
  refine z_istore hY eJx4a65c_add_7a177_20 (ls' := [(3, z_i s), (0, .ref a), (1, z_i i), (2, .ref y)]) rfl ?_
  refine z_aload hY eJx4a65c_add_7a177_21 1 rfl ?_
  refine z_getfield hY eJx4a65c_add_7a177_22 z_set_at (v := .ref e) rfl ?_
  refine z_dup hY eJx4a65c_add_7a177_25 rfl ?_
  refine z_astore hY eJx4a65c_add_7a177_26 (ls' := [(4, .ref e), (3, z_i s), (0, .ref a), (1, z_i i), (2, .ref y)]) rfl ?_
  refine z_arrlen hY eJx4a65c_add_7a177_28 (t := 2) (N := N) ((z_set_ne hae.symm).trans h1.2) (by decide) ?_
  refine z_icmpne hY eJx4a65c_add_7a177_29 (by omega) (fun c => by exfalso; omega) (fun c29 => ?_)
  refine z_aload hY eJx4a65c_add_7a177_32 2 rfl ?_
  refine z_callV (As := []) (rest := []) hY eJx4a65c_add_7a177_33 (al_growN (mo := mo + 1) (l := l) hG hM hs z_set_at (z_row_set ha he) (z_hel_set ha hel) hsN) z_set_at (by decide) (Nat.le_of_ble_eq_true rfl) (by rw [hmc, hms]; omega) (fun _ _ q => q.elim) (fun vv2 hh2 q2 => ?_)
  obtain ⟨q, n1, rfl, hqn0, hn2, rfl⟩ := q2
  have haq : a ≠ q := (z_set_new hqn0).1.symm
  have hqn : h q = none := (z_set_new hqn0).2
  have hxq : ∀ y c, h y = some c → y ≠ q := fun y c hy => z_on hy hqn
  refine z_heq (show _ = z_set (z_set h q (z_qa n1 (z_lf l s))) a (z_ob 9 [z_i (mo + 1), .ref q, z_i s]) from by rw [z_set_c haq, z_set_o]) ?_
  refine z_astore hY eJx4a65c_add_7a177_36 (ls' := [(4, .ref q), (3, z_i s), (0, .ref a), (1, z_i i), (2, .ref y)]) rfl ?_
  refine z_aload hY eJx4a65c_add_7a177_38 0 rfl ?_
  refine z_iload hY eJx4a65c_add_7a177_40 3 rfl ?_
  refine z_aload hY eJx4a65c_add_7a177_41 0 rfl ?_
  refine z_iload hY eJx4a65c_add_7a177_43 3 rfl ?_
  refine z_const hY eJx4a65c_add_7a177_44 ?_
  refine z_iadd hY eJx4a65c_add_7a177_45 ?_
  refine z_iload hY eJx4a65c_add_7a177_46 1 rfl ?_
  refine z_iload hY eJx4a65c_add_7a177_47 3 rfl ?_
  refine z_isub hY eJx4a65c_add_7a177_48 ?_
  refine z_arraycopy hY eJx4a65c_add_7a177_49 wAC112 ((z_set_ne (Ne.symm haq)).trans z_set_at) ((z_set_ne (Ne.symm haq)).trans z_set_at) (by omega) (fun j h1 h2 y0 hy0 => by unfold z_lf at hy0; split at hy0; (cases hy0; obtain ⟨fs, hfs⟩ := hel (i + j) (by omega) (by omega); exact ⟨fs, (z_set_ne (z_oo (by decide) hfs ha)).trans ((z_set_ne (hxq _ _ hfs)).trans hfs)⟩); cases hy0) (Nat.le_of_ble_eq_true rfl) ?_
  refine z_heq (show _ = z_set (z_set h a (z_ob 9 [z_i (mo + 1), .ref q, z_i s])) q (z_qa n1 (z_cpy (z_lf l s) (z_lf l s) i (i + 1) (s - i))) from by rw [z_set_c (a := q) (b := a) (Ne.symm haq), z_set_o]; first | done | rfl) ?_
  refine z_aload hY eJx4a65c_add_7a177_52 0 rfl ?_
  refine z_iload hY eJx4a65c_add_7a177_54 3 rfl ?_
  refine z_aload hY eJx4a65c_add_7a177_55 4 rfl ?_
  refine z_aastore hY eJx4a65c_add_7a177_56 z_set_at ((z_set_ne (hxq _ _ hy)).trans ((z_set_ne hya).trans hy)) (by omega) ?_
  refine z_heq (show _ = z_set (z_set h a (z_ob 9 [z_i (mo + 1), .ref q, z_i s])) q (z_qa n1 (z_up (z_cpy (z_lf l s) (z_lf l s) i (i + 1) (s - i)) i (some y))) from z_set_o) ?_
  refine z_aload hY eJx4a65c_add_7a177_57 2 rfl ?_
  refine z_iload hY eJx4a65c_add_7a177_58 1 rfl ?_
  refine z_const hY eJx4a65c_add_7a177_59 ?_
  refine z_iadd hY eJx4a65c_add_7a177_60 ?_
  refine z_putfield hY eJx4a65c_add_7a177_61 ((z_set_ne haq).trans z_set_at) rfl rfl (Nat.le_of_ble_eq_true rfl) ?_
  refine z_heq (show _ = z_set (z_set h q (z_qa n1 (z_up (z_cpy (z_lf l s) (z_lf l s) i (i + 1) (s - i)) i (some y)))) a (z_ob 9 [z_i (mo + 1), .ref q, z_i (s + 1)]) from by rw [z_set_c (a := a) (b := q) haq, z_set_o]; first | done | rfl) ?_
  exact z_return hY eJx4a65c_add_7a177_64 rfl (by rw [hφ]; exact ⟨rfl, q, n1, by rw [← z_lf_ins hi], Or.inr hqn, by omega, by omega, by omega⟩) (by rw [hmc, hms]; omega)
theorem al_ins_c {G : z_G} {h : z_H} (hG : z_OK G) {a N mi : Nat} {l : Int → Nat} {mo s : Int} (hM : va_Mi "[Ljava/lang/Object;" mi G.2.1) (hs : 0 ≤ s ∧ s ≤ N ∧ s ≤ 30 ∧ N ≤ 45) (ha : h a = some (z_ob 9 [z_i mo, .ref (z_dc G), z_i s])) (he : z_row G h (z_dc G) N l s) (hel : ∀ j : Int, 0 ≤ j → j < s → ∃ fs, h (l j) = some (z_ob 0 fs)) {y : Nat} {ys : List Value} (hy : h y = some (z_ob 0 ys)) {i : Int} (hi : 0 ≤ i ∧ i ≤ s) (h0 : N = 0) (hsN : s = N) : z_T G mJx4a65c_add_7a177 [.ref a, z_i i, .ref y] (h) 6 1 45 (fun v h' => v = none ∧ z_add h a (z_dc G) N (mo + 1) s (z_ins l i y) h') (z_no) := by
  have hya : y ≠ a := z_oo (by decide) hy ha
  refine z_T_of hG pJx4a65c_add_7a177 (Nat.le_of_ble_eq_true rfl) (ls0 := [(0, .ref a), (1, z_i i), (2, .ref y)]) rfl fun Y hY hg hmc hms hφ hψ => ?_
  subst hg
  refine z_aload hY eJx4a65c_add_7a177_0 0 rfl ?_
  refine z_iload hY eJx4a65c_add_7a177_1 1 rfl ?_
  refine z_callV (As := [z_i i]) (rest := []) hY eJx4a65c_add_7a177_2 (al_range hG ha (by omega)) ha (by decide) (Nat.le_of_ble_eq_true rfl) ⟨Nat.zero_le _, Nat.zero_le _⟩ (fun _ _ q => q.elim) (fun vv1 hh1 q1 => ?_)
  obtain ⟨rfl, e9⟩ := q1
  refine z_heq e9 ?_
  refine z_aload hY eJx4a65c_add_7a177_5 0 rfl ?_
  refine z_dup hY eJx4a65c_add_7a177_6 rfl ?_
  refine z_getfield hY eJx4a65c_add_7a177_7 ha (v := z_i mo) rfl ?_
  refine z_const hY eJx4a65c_add_7a177_10 ?_
  refine z_iadd hY eJx4a65c_add_7a177_11 ?_
  refine z_putfield hY eJx4a65c_add_7a177_12 ha rfl rfl (Nat.le_of_ble_eq_true rfl) ?_
  refine z_heq (show _ = z_set h a (z_ob 9 [z_i (mo + 1), .ref (z_dc (z_gg Y)), z_i s]) from rfl) ?_
  refine z_aload hY eJx4a65c_add_7a177_15 0 rfl ?_
  refine z_getfield hY eJx4a65c_add_7a177_16 z_set_at (v := z_i s) rfl ?_
  refine z_dup hY eJx4a65c_add_7a177_19 rfl ?_
  refine z_istore hY eJx4a65c_add_7a177_20 (ls' := [(3, z_i s), (0, .ref a), (1, z_i i), (2, .ref y)]) rfl ?_
  refine z_aload hY eJx4a65c_add_7a177_21 1 rfl ?_
  refine z_getfield hY eJx4a65c_add_7a177_22 z_set_at (v := .ref (z_dc (z_gg Y))) rfl ?_
  refine z_dup hY eJx4a65c_add_7a177_25 rfl ?_
  refine z_astore hY eJx4a65c_add_7a177_26 (ls' := [(4, .ref (z_dc (z_gg Y))), (3, z_i s), (0, .ref a), (1, z_i i), (2, .ref y)]) rfl ?_
  refine z_arrlenD hY eJx4a65c_add_7a177_28 ?_
  refine z_icmpne hY eJx4a65c_add_7a177_29 (by omega) (fun c => by exfalso; omega) (fun c29 => ?_)
  refine z_aload hY eJx4a65c_add_7a177_32 2 rfl ?_
  refine z_callV (As := []) (rest := []) hY eJx4a65c_add_7a177_33 (al_growN (mo := mo + 1) (l := l) hG hM hs z_set_at (z_row_set ha he) (z_hel_set ha hel) hsN) z_set_at (by decide) (Nat.le_of_ble_eq_true rfl) (by rw [hmc, hms]; omega) (fun _ _ q => q.elim) (fun vv2 hh2 q2 => ?_)
  obtain ⟨q, n1, rfl, hqn0, hn2, rfl⟩ := q2
  have haq : a ≠ q := (z_set_new hqn0).1.symm
  have hqn : h q = none := (z_set_new hqn0).2
  have hxq : ∀ y c, h y = some c → y ≠ q := fun y c hy => z_on hy hqn
  refine z_heq (show _ = z_set (z_set h q (z_qa n1 (z_lf l s))) a (z_ob 9 [z_i (mo + 1), .ref q, z_i s]) from by rw [z_set_c haq, z_set_o]) ?_
  refine z_astore hY eJx4a65c_add_7a177_36 (ls' := [(4, .ref q), (3, z_i s), (0, .ref a), (1, z_i i), (2, .ref y)]) rfl ?_
  refine z_aload hY eJx4a65c_add_7a177_38 0 rfl ?_
  refine z_iload hY eJx4a65c_add_7a177_40 3 rfl ?_
  refine z_aload hY eJx4a65c_add_7a177_41 0 rfl ?_
  refine z_iload hY eJx4a65c_add_7a177_43 3 rfl ?_
  refine z_const hY eJx4a65c_add_7a177_44 ?_
  refine z_iadd hY eJx4a65c_add_7a177_45 ?_
  refine z_iload hY eJx4a65c_add_7a177_46 1 rfl ?_
  refine z_iload hY eJx4a65c_add_7a177_47 3 rfl ?_
  refine z_isub hY eJx4a65c_add_7a177_48 ?_
  refine z_arraycopy hY eJx4a65c_add_7a177_49 wAC112 ((z_set_ne (Ne.symm haq)).trans z_set_at) ((z_set_ne (Ne.symm haq)).trans z_set_at) (by omega) (fun j h1 h2 y0 hy0 => by unfold z_lf at hy0; split at hy0; (cases hy0; obtain ⟨fs, hfs⟩ := hel (i + j) (by omega) (by omega); exact ⟨fs, (z_set_ne (z_oo (by decide) hfs ha)).trans ((z_set_ne (hxq _ _ hfs)).trans hfs)⟩); cases hy0) (Nat.le_of_ble_eq_true rfl) ?_
  refine z_heq (show _ = z_set (z_set h a (z_ob 9 [z_i (mo + 1), .ref q, z_i s])) q (z_qa n1 (z_cpy (z_lf l s) (z_lf l s) i (i + 1) (s - i))) from by rw [z_set_c (a := q) (b := a) (Ne.symm haq), z_set_o]; first | done | rfl) ?_
  refine z_aload hY eJx4a65c_add_7a177_52 0 rfl ?_
  refine z_iload hY eJx4a65c_add_7a177_54 3 rfl ?_
  refine z_aload hY eJx4a65c_add_7a177_55 4 rfl ?_
  refine z_aastore hY eJx4a65c_add_7a177_56 z_set_at ((z_set_ne (hxq _ _ hy)).trans ((z_set_ne hya).trans hy)) (by omega) ?_
  refine z_heq (show _ = z_set (z_set h a (z_ob 9 [z_i (mo + 1), .ref q, z_i s])) q (z_qa n1 (z_up (z_cpy (z_lf l s) (z_lf l s) i (i + 1) (s - i)) i (some y))) from z_set_o) ?_
  refine z_aload hY eJx4a65c_add_7a177_57 2 rfl ?_
  refine z_iload hY eJx4a65c_add_7a177_58 1 rfl ?_
  refine z_const hY eJx4a65c_add_7a177_59 ?_
  refine z_iadd hY eJx4a65c_add_7a177_60 ?_
  refine z_putfield hY eJx4a65c_add_7a177_61 ((z_set_ne haq).trans z_set_at) rfl rfl (Nat.le_of_ble_eq_true rfl) ?_
  refine z_heq (show _ = z_set (z_set h q (z_qa n1 (z_up (z_cpy (z_lf l s) (z_lf l s) i (i + 1) (s - i)) i (some y)))) a (z_ob 9 [z_i (mo + 1), .ref q, z_i (s + 1)]) from by rw [z_set_c (a := a) (b := q) haq, z_set_o]; first | done | rfl) ?_
  exact z_return hY eJx4a65c_add_7a177_64 rfl (by rw [hφ]; exact ⟨rfl, q, n1, by rw [← z_lf_ins hi], Or.inr hqn, by omega, by omega, by omega⟩) (by rw [hmc, hms]; omega)
theorem al_ins {G : z_G} {h : z_H} (hG : z_OK G) {a e N mi : Nat} {l : Int → Nat} {mo s : Int} (hM : va_Mi "[Ljava/lang/Object;" mi G.2.1) (hs : 0 ≤ s ∧ s ≤ N ∧ s ≤ 30 ∧ N ≤ 45) (ha : h a = some (z_ob 9 [z_i mo, .ref e, z_i s])) (he : z_row G h e N l s) (hel : ∀ j : Int, 0 ≤ j → j < s → ∃ fs, h (l j) = some (z_ob 0 fs)) {y : Nat} {ys : List Value} (hy : h y = some (z_ob 0 ys)) {i : Int} (hi : 0 ≤ i ∧ i ≤ s) : z_T G mJx4a65c_add_7a177 [.ref a, z_i i, .ref y] h 6 1 45 (fun v h' => v = none ∧ z_add h a e N (mo + 1) s (z_ins l i y) h') z_no := by
  by_cases h3 : s < N
  · rcases he with ⟨h1, h2, h4⟩ | h1
    · omega
    · exact al_ins_a hG hM hs ha (Or.inr h1) hel hy hi h1 h3
  · rcases id he with ⟨h1, h2, h4⟩ | h1
    · subst h2
      exact al_ins_c hG hM hs ha he hel hy hi h1 (by omega)
    · exact al_ins_b hG hM hs ha he hel hy hi h1 (by omega)
theorem al_fastRemove {G : z_G} {h : z_H} (hG : z_OK G) {a e N : Nat} {l : Int → Nat} {mo s : Int} (ha : h a = some (z_ob 9 [z_i mo, .ref e, z_i s])) (he : h e = some (z_qa N (z_lf l s))) (hs : 0 ≤ s ∧ s ≤ N ∧ N ≤ 100) (hel : ∀ j : Int, 0 ≤ j → j < s → ∃ fs, h (l j) = some (z_ob 0 fs)) {i : Int} (hi : 0 ≤ i ∧ i < s) : z_T G mJx4a65c_fastRemove_b59b0 [.ref a, .ref e, z_i i] (h) 0 0 0 (fun v h' => v = none ∧ h' = z_set (z_set h e (z_qa N (z_lf (z_del l i) (s - 1)))) a (z_ob 9 [z_i (mo + 1), .ref e, z_i (s - 1)])) (z_no) := by
  have hae : a ≠ e := z_oq ha he
  refine z_T_of hG pJx4a65c_fastRemove_b59b0 (Nat.le_of_ble_eq_true rfl) (ls0 := [(0, .ref a), (1, .ref e), (2, z_i i)]) rfl fun Y hY hg hmc hms hφ hψ => ?_
  subst hg
  refine z_aload hY eJx4a65c_fastRemove_b59b0_0 0 rfl ?_
  refine z_dup hY eJx4a65c_fastRemove_b59b0_1 rfl ?_
  refine z_getfield hY eJx4a65c_fastRemove_b59b0_2 ha (v := z_i mo) rfl ?_
  refine z_const hY eJx4a65c_fastRemove_b59b0_5 ?_
  refine z_iadd hY eJx4a65c_fastRemove_b59b0_6 ?_
  refine z_putfield hY eJx4a65c_fastRemove_b59b0_7 ha rfl rfl (Nat.le_of_ble_eq_true rfl) ?_
  refine z_heq (show _ = z_set h a (z_ob 9 [z_i (mo + 1), .ref e, z_i s]) from rfl) ?_
  refine z_aload hY eJx4a65c_fastRemove_b59b0_10 0 rfl ?_
  refine z_getfield hY eJx4a65c_fastRemove_b59b0_11 z_set_at (v := z_i s) rfl ?_
  refine z_const hY eJx4a65c_fastRemove_b59b0_14 ?_
  refine z_isub hY eJx4a65c_fastRemove_b59b0_15 ?_
  refine z_dup hY eJx4a65c_fastRemove_b59b0_16 rfl ?_
  refine z_istore hY eJx4a65c_fastRemove_b59b0_17 (ls' := [(3, z_i (s - 1)), (0, .ref a), (1, .ref e), (2, z_i i)]) rfl ?_
  refine z_iload hY eJx4a65c_fastRemove_b59b0_18 3 rfl ?_
  refine z_icmple hY eJx4a65c_fastRemove_b59b0_19 (by omega) (fun c19 => ?_) (fun c19 => ?_)
  · refine z_aload hY eJx4a65c_fastRemove_b59b0_34 2 rfl ?_
    refine z_aload hY eJx4a65c_fastRemove_b59b0_35 1 rfl ?_
    refine z_iload hY eJx4a65c_fastRemove_b59b0_36 0 rfl ?_
    refine z_dup_x1 hY eJx4a65c_fastRemove_b59b0_37 rfl rfl ?_
    refine z_putfield hY eJx4a65c_fastRemove_b59b0_38 z_set_at rfl rfl (Nat.le_of_ble_eq_true rfl) ?_
    refine z_heq (show _ = z_set h a (z_ob 9 [z_i (mo + 1), .ref e, z_i (s - 1)]) from z_set_o) ?_
    refine z_null hY eJx4a65c_fastRemove_b59b0_41 ?_
    refine z_aastoreN hY eJx4a65c_fastRemove_b59b0_42 ((z_set_ne (Ne.symm hae)).trans he) (by omega) ?_
    refine z_heq (show _ = z_set (z_set h a (z_ob 9 [z_i (mo + 1), .ref e, z_i (s - 1)])) e (z_qa N (z_up (z_lf l s) (s - 1) none)) from rfl) ?_
    exact z_return hY eJx4a65c_fastRemove_b59b0_43 rfl (by rw [hφ]; refine ⟨rfl, ?_⟩; first | (rw [z_set_c hae, ← z_lf_del hi]; done) | (rw [z_set_c hae, ← z_lf_del1 (i := i) (by omega)]; done) | (rw [← z_lf_del hi]; done) | (rw [← z_lf_del1 (i := i) (by omega)]; done)) ⟨Nat.zero_le _, Nat.zero_le _⟩
  · refine z_aload hY eJx4a65c_fastRemove_b59b0_22 2 rfl ?_
    refine z_iload hY eJx4a65c_fastRemove_b59b0_23 3 rfl ?_
    refine z_const hY eJx4a65c_fastRemove_b59b0_24 ?_
    refine z_iadd hY eJx4a65c_fastRemove_b59b0_25 ?_
    refine z_aload hY eJx4a65c_fastRemove_b59b0_26 2 rfl ?_
    refine z_iload hY eJx4a65c_fastRemove_b59b0_27 3 rfl ?_
    refine z_iload hY eJx4a65c_fastRemove_b59b0_28 0 rfl ?_
    refine z_iload hY eJx4a65c_fastRemove_b59b0_29 3 rfl ?_
    refine z_isub hY eJx4a65c_fastRemove_b59b0_30 ?_
    refine z_top (b := s - i - 1) (by omega) ?_
    refine z_arraycopy hY eJx4a65c_fastRemove_b59b0_31 wAC112 ((z_set_ne (Ne.symm hae)).trans he) ((z_set_ne (Ne.symm hae)).trans he) (by omega) (fun j h1 h2 y0 hy0 => by unfold z_lf at hy0; split at hy0; (cases hy0; obtain ⟨fs, hfs⟩ := hel (i + 1 + j) (by omega) (by omega); exact ⟨fs, (z_set_ne (z_oo (by decide) hfs ha)).trans hfs⟩); cases hy0) (Nat.le_of_ble_eq_true rfl) ?_
    refine z_heq (show _ = z_set (z_set h a (z_ob 9 [z_i (mo + 1), .ref e, z_i s])) e (z_qa N (z_cpy (z_lf l s) (z_lf l s) (i + 1) i (s - i - 1))) from rfl) ?_
    refine z_aload hY eJx4a65c_fastRemove_b59b0_34 2 rfl ?_
    refine z_aload hY eJx4a65c_fastRemove_b59b0_35 1 rfl ?_
    refine z_iload hY eJx4a65c_fastRemove_b59b0_36 0 rfl ?_
    refine z_dup_x1 hY eJx4a65c_fastRemove_b59b0_37 rfl rfl ?_
    refine z_putfield hY eJx4a65c_fastRemove_b59b0_38 ((z_set_ne hae).trans z_set_at) rfl rfl (Nat.le_of_ble_eq_true rfl) ?_
    refine z_heq (show _ = z_set (z_set h e (z_qa N (z_cpy (z_lf l s) (z_lf l s) (i + 1) i (s - i - 1)))) a (z_ob 9 [z_i (mo + 1), .ref e, z_i (s - 1)]) from by rw [z_set_c (a := a) (b := e) hae, z_set_o]; first | done | rfl) ?_
    refine z_null hY eJx4a65c_fastRemove_b59b0_41 ?_
    refine z_aastoreN hY eJx4a65c_fastRemove_b59b0_42 ((z_set_ne (Ne.symm hae)).trans z_set_at) (by omega) ?_
    refine z_heq (show _ = z_set (z_set h a (z_ob 9 [z_i (mo + 1), .ref e, z_i (s - 1)])) e (z_qa N (z_up (z_cpy (z_lf l s) (z_lf l s) (i + 1) i (s - i - 1)) (s - 1) none)) from by rw [z_set_c (a := e) (b := a) (Ne.symm hae), z_set_o]; first | done | rfl) ?_
    exact z_return hY eJx4a65c_fastRemove_b59b0_43 rfl (by rw [hφ]; refine ⟨rfl, ?_⟩; first | (rw [z_set_c hae, ← z_lf_del hi]; done) | (rw [z_set_c hae, ← z_lf_del1 (i := i) (by omega)]; done) | (rw [← z_lf_del hi]; done) | (rw [← z_lf_del1 (i := i) (by omega)]; done)) ⟨Nat.zero_le _, Nat.zero_le _⟩
theorem al_remove {G : z_G} {h : z_H} (hG : z_OK G) {a e N : Nat} {l : Int → Nat} {mo s : Int} (ha : h a = some (z_ob 9 [z_i mo, .ref e, z_i s])) (he : h e = some (z_qa N (z_lf l s))) (hs : 0 ≤ s ∧ s ≤ N ∧ N ≤ 100) (hel : ∀ j : Int, 0 ≤ j → j < s → ∃ fs, h (l j) = some (z_ob 0 fs)) {i : Int} (hi : 0 ≤ i ∧ i < s) : z_T G mJx4a65c_remove_915e3 [.ref a, z_i i] (h) 2 0 0 (fun v h' => v = some (.ref (l i)) ∧ h' = z_set (z_set h e (z_qa N (z_lf (z_del l i) (s - 1)))) a (z_ob 9 [z_i (mo + 1), .ref e, z_i (s - 1)])) (z_no) := by
  have hae : a ≠ e := z_oq ha he
  refine z_T_of hG pJx4a65c_remove_915e3 (Nat.le_of_ble_eq_true rfl) (ls0 := [(0, .ref a), (1, z_i i)]) rfl fun Y hY hg hmc hms hφ hψ => ?_
  subst hg
  refine z_iload hY eJx4a65c_remove_915e3_0 1 rfl ?_
  refine z_aload hY eJx4a65c_remove_915e3_1 0 rfl ?_
  refine z_getfield hY eJx4a65c_remove_915e3_2 ha (v := z_i s) rfl ?_
  refine z_callSr (As := [z_i i, z_i s]) (rest := []) (r := z_i i) hY eJx4a65c_remove_915e3_5 (ob_checkIndex hG (by omega)) (by decide) (Nat.le_of_ble_eq_true rfl) ⟨Nat.zero_le _, Nat.zero_le _⟩ ?_
  refine z_pop hY eJx4a65c_remove_915e3_8 rfl ?_
  refine z_aload hY eJx4a65c_remove_915e3_9 0 rfl ?_
  refine z_getfield hY eJx4a65c_remove_915e3_10 ha (v := .ref e) rfl ?_
  refine z_astore hY eJx4a65c_remove_915e3_13 (ls' := [(2, .ref e), (0, .ref a), (1, z_i i)]) rfl ?_
  refine z_aload hY eJx4a65c_remove_915e3_14 0 rfl ?_
  refine z_iload hY eJx4a65c_remove_915e3_15 2 rfl ?_
  refine z_aaload hY eJx4a65c_remove_915e3_16 he (b := (l i)) (by omega) (z_lf_at hi) ?_
  refine z_astore hY eJx4a65c_remove_915e3_17 (ls' := [(3, .ref (l i)), (2, .ref e), (0, .ref a), (1, z_i i)]) rfl ?_
  refine z_aload hY eJx4a65c_remove_915e3_18 2 rfl ?_
  refine z_aload hY eJx4a65c_remove_915e3_19 1 rfl ?_
  refine z_iload hY eJx4a65c_remove_915e3_20 3 rfl ?_
  refine z_callV (As := [.ref e, z_i i]) (rest := []) hY eJx4a65c_remove_915e3_21 (al_fastRemove hG ha he hs hel hi) ha (by decide) (Nat.le_of_ble_eq_true rfl) ⟨Nat.zero_le _, Nat.zero_le _⟩ (fun _ _ q => q.elim) (fun vv1 hh1 q1 => ?_)
  obtain ⟨rfl, rfl⟩ := q1
  refine z_aload hY eJx4a65c_remove_915e3_24 0 rfl ?_
  exact z_areturn hY eJx4a65c_remove_915e3_25 ⟨_, rfl, Or.inl ⟨_, rfl⟩⟩ (by rw [hφ]; exact ⟨rfl, rfl⟩) ⟨Nat.zero_le _, Nat.zero_le _⟩
theorem al_set {G : z_G} {h : z_H} (hG : z_OK G) {a e N : Nat} {l : Int → Nat} {mo s : Int} (ha : h a = some (z_ob 9 [z_i mo, .ref e, z_i s])) (he : h e = some (z_qa N (z_lf l s))) (hs : 0 ≤ s ∧ s ≤ N ∧ N ≤ 100) {y : Nat} {ys : List Value} (hy : h y = some (z_ob 0 ys)) {i : Int} (hi : 0 ≤ i ∧ i < s) : z_T G mJx4a65c_set_bcc79 [.ref a, z_i i, .ref y] (h) 2 0 0 (fun v h' => v = some (.ref (l i)) ∧ h' = z_set h e (z_qa N (z_lf (z_up l i y) s))) (z_no) := by
  have hae : a ≠ e := z_oq ha he
  refine z_T_of hG pJx4a65c_set_bcc79 (Nat.le_of_ble_eq_true rfl) (ls0 := [(0, .ref a), (1, z_i i), (2, .ref y)]) rfl fun Y hY hg hmc hms hφ hψ => ?_
  subst hg
  refine z_iload hY eJx4a65c_set_bcc79_0 1 rfl ?_
  refine z_aload hY eJx4a65c_set_bcc79_1 0 rfl ?_
  refine z_getfield hY eJx4a65c_set_bcc79_2 ha (v := z_i s) rfl ?_
  refine z_callSr (As := [z_i i, z_i s]) (rest := []) (r := z_i i) hY eJx4a65c_set_bcc79_5 (ob_checkIndex hG (by omega)) (by decide) (Nat.le_of_ble_eq_true rfl) ⟨Nat.zero_le _, Nat.zero_le _⟩ ?_
  refine z_pop hY eJx4a65c_set_bcc79_8 rfl ?_
  refine z_aload hY eJx4a65c_set_bcc79_9 0 rfl ?_
  refine z_iload hY eJx4a65c_set_bcc79_10 1 rfl ?_
  refine z_callVr (As := [z_i i]) (rest := []) (r := .ref (l i)) hY eJx4a65c_set_bcc79_11 (al_elementData hG ha he hs (by omega)) ha (by decide) (Nat.le_of_ble_eq_true rfl) ⟨Nat.zero_le _, Nat.zero_le _⟩ ?_
  refine z_astore hY eJx4a65c_set_bcc79_14 (ls' := [(3, .ref (l i)), (0, .ref a), (1, z_i i), (2, .ref y)]) rfl ?_
  refine z_aload hY eJx4a65c_set_bcc79_15 1 rfl ?_
  refine z_getfield hY eJx4a65c_set_bcc79_16 ha (v := .ref e) rfl ?_
  refine z_iload hY eJx4a65c_set_bcc79_19 2 rfl ?_
  refine z_aload hY eJx4a65c_set_bcc79_20 3 rfl ?_
  refine z_aastore hY eJx4a65c_set_bcc79_21 he hy (by omega) ?_
  refine z_heq (show _ = z_set h e (z_qa N (z_up (z_lf l s) i (some y))) from rfl) ?_
  refine z_aload hY eJx4a65c_set_bcc79_22 0 rfl ?_
  exact z_areturn hY eJx4a65c_set_bcc79_23 ⟨_, rfl, Or.inl ⟨_, rfl⟩⟩ (by rw [hφ]; exact ⟨rfl, by rw [← z_lf_set hi]⟩) ⟨Nat.zero_le _, Nat.zero_le _⟩
theorem z_lf_clr {l : Int → Nat} {s i : Int} {N : Nat} (h : 0 ≤ i ∧ i < s) : z_qa N (z_up (fun j => if j < i then none else z_lf l s j) i none) = z_qa N (fun j => if j < i + 1 then none else z_lf l s j) := z_qa_congr fun j hj => by
  unfold z_up
  dsimp only
  by_cases c : j = i
  · rw [if_pos c, if_pos (by omega)]
  · rw [if_neg c]
    by_cases c2 : j < i
    · rw [if_pos c2, if_pos (by omega)]
    · rw [if_neg c2, if_neg (by omega)]
theorem z_lf_clr0 {l : Int → Nat} {s : Int} {N : Nat} : z_qa N (z_lf l s) = z_qa N (fun j => if j < 0 then none else z_lf l s j) := z_qa_congr fun j hj => (if_neg (by omega)).symm
theorem z_lf_clr1 {l l' : Int → Nat} {s i : Int} {N : Nat} (h : s ≤ i) : z_qa N (fun j => if j < i then none else z_lf l s j) = z_qa N (z_lf l' 0) := z_qa_congr fun j hj => by
  unfold z_lf
  rw [if_neg (show ¬ (0 ≤ j ∧ j < (0 : Int)) by omega)]
  split
  · rfl
  · exact if_neg (by omega)
theorem al_abs0 {G : z_G} {h : z_H} (hG : z_OK G) {a : Nat} : z_T G mJxa1e45_init_da8c8 [.ref a] h 0 0 0 (fun v h' => v = none ∧ h' = h) z_no := by
  refine z_T_of hG pJxa1e45_init_da8c8 (Nat.le_of_ble_eq_true rfl) (ls0 := [(0, .ref a)]) rfl fun Y hY hg hmc hms hφ hψ => ?_
  subst hg
  refine z_aload hY eJxa1e45_init_da8c8_0 0 rfl ?_
  refine z_objInit hY eJxa1e45_init_da8c8_1 ⟨wOI, wOC⟩ (Nat.le_of_ble_eq_true rfl) ?_
  exact z_return hY eJxa1e45_init_da8c8_4 rfl (by rw [hφ]; exact ⟨rfl, rfl⟩) ⟨Nat.zero_le _, Nat.zero_le _⟩
theorem al_abs1 {G : z_G} {h : z_H} (hG : z_OK G) {a : Nat} {v1 v2 v3 : Value} (ha : h a = some (z_ob 9 [v1, v2, v3])) : z_T G mJxc12de_init_da8c8 [.ref a] (h) 1 0 0 (fun v h' => v = none ∧ h' = z_set h a (z_ob 9 [z_i 0, v2, v3])) (z_no) := by
  refine z_T_of hG pJxc12de_init_da8c8 (Nat.le_of_ble_eq_true rfl) (ls0 := [(0, .ref a)]) rfl fun Y hY hg hmc hms hφ hψ => ?_
  subst hg
  refine z_aload hY eJxc12de_init_da8c8_0 0 rfl ?_
  refine z_callI (As := []) (b := a) (rest := []) hY eJxc12de_init_da8c8_1 (al_abs0 hG) (by decide) (Nat.le_of_ble_eq_true rfl) ⟨Nat.zero_le _, Nat.zero_le _⟩ (fun _ _ q => q.elim) (fun vv1 hh1 q1 => ?_)
  obtain ⟨rfl, e9⟩ := q1
  refine z_heq e9 ?_
  refine z_aload hY eJxc12de_init_da8c8_4 0 rfl ?_
  refine z_const hY eJxc12de_init_da8c8_5 ?_
  refine z_putfield hY eJxc12de_init_da8c8_6 ha rfl rfl (Nat.le_of_ble_eq_true rfl) ?_
  refine z_heq (show _ = z_set h a (z_ob 9 [z_i 0, v2, v3]) from rfl) ?_
  exact z_return hY eJxc12de_init_da8c8_9 rfl (by rw [hφ]; exact ⟨rfl, rfl⟩) ⟨Nat.zero_le _, Nat.zero_le _⟩
theorem al_init {G : z_G} {h : z_H} (hG : z_OK G) {a : Nat} (ha : h a = some (z_ob 9 [z_i 0, .null, z_i 0])) : z_T G mJx4a65c_init_da8c8 [.ref a] (h) 2 0 0 (fun v h' => v = none ∧ h' = z_set h a (z_ob 9 [z_i 0, .ref (z_dc G), z_i 0])) (z_no) := by
  refine z_T_of hG pJx4a65c_init_da8c8 (Nat.le_of_ble_eq_true rfl) (ls0 := [(0, .ref a)]) rfl fun Y hY hg hmc hms hφ hψ => ?_
  subst hg
  refine z_aload hY eJx4a65c_init_da8c8_0 0 rfl ?_
  refine z_callI (As := []) (b := a) (rest := []) hY eJx4a65c_init_da8c8_1 (al_abs1 hG ha) (by decide) (Nat.le_of_ble_eq_true rfl) ⟨Nat.zero_le _, Nat.zero_le _⟩ (fun _ _ q => q.elim) (fun vv1 hh1 q1 => ?_)
  obtain ⟨rfl, rfl⟩ := q1
  refine z_aload hY eJx4a65c_init_da8c8_4 0 rfl ?_
  refine z_getsD hY eJx4a65c_init_da8c8_5 rfl ?_
  refine z_putfield hY eJx4a65c_init_da8c8_8 z_set_at rfl rfl (Nat.le_of_ble_eq_true rfl) ?_
  refine z_heq (show _ = z_set h a (z_ob 9 [z_i 0, .ref (z_dc (z_gg Y)), z_i 0]) from z_set_o) ?_
  exact z_return hY eJx4a65c_init_da8c8_11 rfl (by rw [hφ]; exact ⟨rfl, rfl⟩) ⟨Nat.zero_le _, Nat.zero_le _⟩
theorem al_clear0 {G : z_G} {h : z_H} (hG : z_OK G) {a e : Nat} {mo s : Int} (ha : h a = some (z_ob 9 [z_i mo, .ref e, z_i s])) (h0 : s = 0) : z_T G mJx4a65c_clear_da8c8 [.ref a] (h) 0 0 0 (fun v h' => v = none ∧ h' = z_set h a (z_ob 9 [z_i (mo + 1), .ref e, z_i 0])) (z_no) := by
  refine z_T_of hG pJx4a65c_clear_da8c8 (Nat.le_of_ble_eq_true rfl) (ls0 := [(0, .ref a)]) rfl fun Y hY hg hmc hms hφ hψ => ?_
  subst hg
  refine z_aload hY eJx4a65c_clear_da8c8_0 0 rfl ?_
  refine z_dup hY eJx4a65c_clear_da8c8_1 rfl ?_
  refine z_getfield hY eJx4a65c_clear_da8c8_2 ha (v := z_i mo) rfl ?_
  refine z_const hY eJx4a65c_clear_da8c8_5 ?_
  refine z_iadd hY eJx4a65c_clear_da8c8_6 ?_
  refine z_putfield hY eJx4a65c_clear_da8c8_7 ha rfl rfl (Nat.le_of_ble_eq_true rfl) ?_
  refine z_heq (show _ = z_set h a (z_ob 9 [z_i (mo + 1), .ref e, z_i s]) from rfl) ?_
  refine z_aload hY eJx4a65c_clear_da8c8_10 0 rfl ?_
  refine z_getfield hY eJx4a65c_clear_da8c8_11 z_set_at (v := .ref e) rfl ?_
  refine z_astore hY eJx4a65c_clear_da8c8_14 (ls' := [(1, .ref e), (0, .ref a)]) rfl ?_
  refine z_aload hY eJx4a65c_clear_da8c8_15 1 rfl ?_
  refine z_getfield hY eJx4a65c_clear_da8c8_16 z_set_at (v := z_i s) rfl ?_
  refine z_istore hY eJx4a65c_clear_da8c8_19 (ls' := [(2, z_i s), (1, .ref e), (0, .ref a)]) rfl ?_
  refine z_aload hY eJx4a65c_clear_da8c8_20 2 rfl ?_
  refine z_const hY eJx4a65c_clear_da8c8_21 ?_
  refine z_dup_x1 hY eJx4a65c_clear_da8c8_22 rfl rfl ?_
  refine z_putfield hY eJx4a65c_clear_da8c8_23 z_set_at rfl rfl (Nat.le_of_ble_eq_true rfl) ?_
  refine z_heq (show _ = z_set h a (z_ob 9 [z_i (mo + 1), .ref e, z_i 0]) from z_set_o) ?_
  refine z_istore hY eJx4a65c_clear_da8c8_26 (ls' := [(3, z_i 0), (2, z_i s), (1, .ref e), (0, .ref a)]) rfl ?_
  refine z_iload hY eJx4a65c_clear_da8c8_27 0 rfl ?_
  refine z_iload hY eJx4a65c_clear_da8c8_28 1 rfl ?_
  refine z_icmpge hY eJx4a65c_clear_da8c8_29 (by omega) (fun c29 => ?_) (fun c => by exfalso; omega)
  exact z_return hY eJx4a65c_clear_da8c8_42 rfl (by rw [hφ]; exact ⟨rfl, rfl⟩) ⟨Nat.zero_le _, Nat.zero_le _⟩
theorem al_clear1 {G : z_G} {h : z_H} (hG : z_OK G) {a e N : Nat} {l : Int → Nat} {mo s : Int} (ha : h a = some (z_ob 9 [z_i mo, .ref e, z_i s])) (he : h e = some (z_qa N (z_lf l s))) (hs : 0 ≤ s ∧ s ≤ N ∧ N ≤ 100) : z_T G mJx4a65c_clear_da8c8 [.ref a] (h) 0 0 0 (fun v h' => v = none ∧ h' = z_set (z_set h e (z_qa N (z_lf l 0))) a (z_ob 9 [z_i (mo + 1), .ref e, z_i 0])) (z_no) := by
  have hae : a ≠ e := z_oq ha he
  refine z_T_of hG pJx4a65c_clear_da8c8 (Nat.le_of_ble_eq_true rfl) (ls0 := [(0, .ref a)]) rfl fun Y hY hg hmc hms hφ hψ => ?_
  subst hg
  refine z_aload hY eJx4a65c_clear_da8c8_0 0 rfl ?_
  refine z_dup hY eJx4a65c_clear_da8c8_1 rfl ?_
  refine z_getfield hY eJx4a65c_clear_da8c8_2 ha (v := z_i mo) rfl ?_
  refine z_const hY eJx4a65c_clear_da8c8_5 ?_
  refine z_iadd hY eJx4a65c_clear_da8c8_6 ?_
  refine z_putfield hY eJx4a65c_clear_da8c8_7 ha rfl rfl (Nat.le_of_ble_eq_true rfl) ?_
  refine z_heq (show _ = z_set h a (z_ob 9 [z_i (mo + 1), .ref e, z_i s]) from rfl) ?_
  refine z_aload hY eJx4a65c_clear_da8c8_10 0 rfl ?_
  refine z_getfield hY eJx4a65c_clear_da8c8_11 z_set_at (v := .ref e) rfl ?_
  refine z_astore hY eJx4a65c_clear_da8c8_14 (ls' := [(1, .ref e), (0, .ref a)]) rfl ?_
  refine z_aload hY eJx4a65c_clear_da8c8_15 1 rfl ?_
  refine z_getfield hY eJx4a65c_clear_da8c8_16 z_set_at (v := z_i s) rfl ?_
  refine z_istore hY eJx4a65c_clear_da8c8_19 (ls' := [(2, z_i s), (1, .ref e), (0, .ref a)]) rfl ?_
  refine z_aload hY eJx4a65c_clear_da8c8_20 2 rfl ?_
  refine z_const hY eJx4a65c_clear_da8c8_21 ?_
  refine z_dup_x1 hY eJx4a65c_clear_da8c8_22 rfl rfl ?_
  refine z_putfield hY eJx4a65c_clear_da8c8_23 z_set_at rfl rfl (Nat.le_of_ble_eq_true rfl) ?_
  refine z_heq (show _ = z_set h a (z_ob 9 [z_i (mo + 1), .ref e, z_i 0]) from z_set_o) ?_
  refine z_istore hY eJx4a65c_clear_da8c8_26 (ls' := [(3, z_i 0), (2, z_i s), (1, .ref e), (0, .ref a)]) rfl ?_
  refine z_heq (show _ = z_set (z_set h e (z_qa N (fun j => if j < 0 then none else z_lf l s j))) a (z_ob 9 [z_i (mo + 1), .ref e, z_i 0]) from by rw [← z_lf_clr0, z_set_s he]) ?_
  refine z_sub [3, 2, 1, 0] (ls' := [(0, .ref a), (1, .ref e), (2, z_i s), (3, z_i 0)]) rfl ?_
  have lp : ∀ (fu : Nat) (i : Int), (s - i).toNat < fu → (0 ≤ i ∧ i ≤ s) → z_W Y 27 [(0, .ref a), (1, .ref e), (2, z_i s), (3, z_i i)] [] (z_set (z_set h e (z_qa N (fun j => if j < i then none else z_lf l s j))) a (z_ob 9 [z_i (mo + 1), .ref e, z_i 0])) 0 0 := by
    intro fu
    induction fu with
    | zero => intro i hf; exact absurd hf (Nat.not_lt_zero _)
    | succ fu ih =>
      intro i hf h0
      refine z_iload hY eJx4a65c_clear_da8c8_27 3 rfl ?_
      refine z_iload hY eJx4a65c_clear_da8c8_28 2 rfl ?_
      refine z_icmpge hY eJx4a65c_clear_da8c8_29 (by omega) (fun c29 => ?_) (fun c29 => ?_)
      · exact z_return hY eJx4a65c_clear_da8c8_42 rfl (by rw [hφ]; exact ⟨rfl, by rw [z_lf_clr1 (l' := l) (by omega)]⟩) ⟨Nat.zero_le _, Nat.zero_le _⟩
      · refine z_aload hY eJx4a65c_clear_da8c8_32 1 rfl ?_
        refine z_iload hY eJx4a65c_clear_da8c8_33 3 rfl ?_
        refine z_null hY eJx4a65c_clear_da8c8_34 ?_
        refine z_aastoreN hY eJx4a65c_clear_da8c8_35 ((z_set_ne (Ne.symm hae)).trans z_set_at) (by omega) ?_
        refine z_heq (show _ = z_set (z_set h a (z_ob 9 [z_i (mo + 1), .ref e, z_i 0])) e (z_qa N (z_up (fun j => if j < i then none else z_lf l s j) i none)) from by rw [z_set_c (a := e) (b := a) (Ne.symm hae), z_set_o]; first | done | rfl) ?_
        refine z_iinc hY eJx4a65c_clear_da8c8_36 3 rfl (ls' := [(3, z_i (i + 1)), (0, .ref a), (1, .ref e), (2, z_i s)]) rfl ?_
        refine z_goto hY eJx4a65c_clear_da8c8_39 ?_
        refine z_sub [1, 2, 3, 0] (ls' := [(0, .ref a), (1, .ref e), (2, z_i s), (3, z_i (i + 1))]) rfl ?_
        refine z_heq (show z_set (z_set h a (z_ob 9 [z_i (mo + 1), .ref e, z_i 0])) e (z_qa N (z_up (fun j => if j < i then none else z_lf l s j) i none)) = z_set (z_set h e (z_qa N (fun j => if j < i + 1 then none else z_lf l s j))) a (z_ob 9 [z_i (mo + 1), .ref e, z_i 0]) from by first | (rw [z_set_c hae, z_lf_clr (by omega)]; done) | (rw [z_lf_clr (by omega)]; done)) ?_
        exact ih (i + 1) (by omega) (by omega)
  exact lp _ 0 (Nat.lt_succ_self _) (by omega)
theorem al_clear {G : z_G} {h : z_H} (hG : z_OK G) {a e N : Nat} {l : Int → Nat} {mo s : Int} (ha : h a = some (z_ob 9 [z_i mo, .ref e, z_i s])) (he : z_row G h e N l s) (hs : 0 ≤ s ∧ s ≤ N ∧ N ≤ 100) : z_T G mJx4a65c_clear_da8c8 [.ref a] h 0 0 0 (fun v h' => v = none ∧ ((N = 0 ∧ h' = z_set h a (z_ob 9 [z_i (mo + 1), .ref e, z_i 0])) ∨ (0 < N ∧ h' = z_set (z_set h e (z_qa N (z_lf l 0))) a (z_ob 9 [z_i (mo + 1), .ref e, z_i 0])))) z_no := by
  rcases he with ⟨h1, h2, h3⟩ | ⟨h1, h2⟩
  · exact z_T.mono (al_clear0 hG ha h3) (fun v h' q => ⟨q.1, Or.inl ⟨h1, q.2⟩⟩) (fun _ _ q => q)
  · exact z_T.mono (al_clear1 hG ha h2 hs) (fun v h' q => ⟨q.1, Or.inr ⟨h1, q.2⟩⟩) (fun _ _ q => q)
end AL
