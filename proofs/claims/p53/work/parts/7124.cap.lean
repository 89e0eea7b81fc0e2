/-! THE BUILDER: newCapacity. -/
section LVF
section
variable {Y : z_Y} {d : Nat} {M : z_M} {pc pc' : Nat} {ls : List (Nat × Value)} {st : List Value} {h : z_H} {k n : Nat}
theorem z_ishl0 {a : Int} (hY : z_ok Y d M) (dd : z_at M pc .ishl 1 pc') (kk : z_W Y pc' ls (z_i a :: st) h k n) : z_W Y pc ls (z_i 0 :: z_i a :: st) h k n := by
  refine z_lift hY (fun p l e R s m args below meth c H locs cells slots Q lsA hx hb kk => ?_) kk
  obtain ⟨d1, rfl⟩ := dd
  refine lv_ishl hx hb d1 ?_
  have e : Int32.ofInt a <<< (Int32.ofInt 0 &&& 31) = Int32.ofInt a := by
    rw [show (Int32.ofInt 0 &&& 31) = 0 by decide]
    apply Int32.toBitVec_inj.mp
    show (BitVec.ofInt 32 a) <<< ((0 : Int32).toBitVec.smod 32) = BitVec.ofInt 32 a
    rw [show (0 : Int32).toBitVec.smod 32 = 0#32 by decide]
    exact BitVec.shiftLeft_zero _
  rw [e]
  exact kk
end
variable {G : z_G} {H : z_H} {b a N : Nat} {n m : Int} {g : Int → Int}
theorem sq_newCapacity {ml : Int} (hG : z_OK G) (hb : H b = some (z_ob 10 [.ref a, z_i 0, z_i ml, z_i n])) (ha : H a = some (z_ya N g)) (hN : N ≤ 200) (hm : N < m ∧ m ≤ 200) : z_Tr G mJ5_newCapacity_0f7a4 [.ref b, z_i m] H 2 (z_i (N + (if m - N < N + 2 then (N : Int) + 2 else m - N))) := by
  refine z_T_of hG pJ5_newCapacity_0f7a4 (Nat.le_of_ble_eq_true rfl) (ls0 := [(0, .ref b), (1, z_i m)]) rfl fun Y hY hg hmc hms hφ hψ => ?_
  subst hg
  refine z_aload hY eJ5_newCapacity_0f7a4_0 0 rfl ?_
  refine z_getfield hY eJ5_newCapacity_0f7a4_1 hb rfl ?_
  refine z_arrlen hY eJ5_newCapacity_0f7a4_4 ha (by decide) ?_
  refine z_istore hY eJ5_newCapacity_0f7a4_5 (ls' := [(2, z_i N), (0, .ref b), (1, z_i m)]) rfl ?_
  refine z_iload hY eJ5_newCapacity_0f7a4_6 2 rfl ?_
  refine z_aload hY eJ5_newCapacity_0f7a4_7 1 rfl ?_
  refine z_getfield hY eJ5_newCapacity_0f7a4_8 hb rfl ?_
  refine z_ishl0 hY eJ5_newCapacity_0f7a4_11 ?_
  refine z_istore hY eJ5_newCapacity_0f7a4_12 (ls' := [(3, z_i m), (2, z_i N), (0, .ref b), (1, z_i m)]) rfl ?_
  refine z_iload hY eJ5_newCapacity_0f7a4_13 0 rfl ?_
  refine z_iload hY eJ5_newCapacity_0f7a4_14 1 rfl ?_
  refine z_isub hY eJ5_newCapacity_0f7a4_15 ?_
  refine z_istore hY eJ5_newCapacity_0f7a4_16 (ls' := [(4, z_i (m - N)), (3, z_i m), (2, z_i N), (0, .ref b), (1, z_i m)]) rfl ?_
  refine z_iload hY eJ5_newCapacity_0f7a4_18 2 rfl ?_
  refine z_iload hY eJ5_newCapacity_0f7a4_19 0 rfl ?_
  refine z_iload hY eJ5_newCapacity_0f7a4_21 2 rfl ?_
  refine z_const hY eJ5_newCapacity_0f7a4_22 ?_
  refine z_aload hY eJ5_newCapacity_0f7a4_23 3 rfl ?_
  refine z_getfield hY eJ5_newCapacity_0f7a4_24 hb rfl ?_
  refine z_ishl0 hY eJ5_newCapacity_0f7a4_27 ?_
  refine z_iadd hY eJ5_newCapacity_0f7a4_28 ?_
  refine z_callSr (As := [z_i N, z_i (m - N), z_i (N + 2)]) (rest := []) (r := z_i (N + (if m - N < N + 2 then (N : Int) + 2 else m - N))) hY eJ5_newCapacity_0f7a4_29 (as_newLength hG (by omega) (by omega)) (by decide) (Nat.le_of_ble_eq_true rfl) ⟨Nat.zero_le _, Nat.zero_le _⟩ ?_
  have hr : 0 ≤ (N : Int) + (if m - N < N + 2 then (N : Int) + 2 else m - N) ∧ (N : Int) + (if m - N < N + 2 then (N : Int) + 2 else m - N) ≤ 1000 := by split <;> omega
  refine z_istore hY eJ5_newCapacity_0f7a4_32 (ls' := [(5, z_i (N + (if m - N < N + 2 then (N : Int) + 2 else m - N))), (4, z_i (m - N)), (3, z_i m), (2, z_i N), (0, .ref b), (1, z_i m)]) rfl ?_
  refine z_iload hY eJ5_newCapacity_0f7a4_34 0 rfl ?_
  refine z_const hY eJ5_newCapacity_0f7a4_36 ?_
  refine z_icmpne hY eJ5_newCapacity_0f7a4_38 (by omega) (fun _ => ?_) (fun c => by exfalso; omega)
  refine z_iload hY eJ5_newCapacity_0f7a4_51 0 rfl ?_
  refine z_aload hY eJ5_newCapacity_0f7a4_53 4 rfl ?_
  refine z_getfield hY eJ5_newCapacity_0f7a4_54 hb rfl ?_
  refine z_ishr hY eJ5_newCapacity_0f7a4_57 (by omega) (Or.inl ⟨rfl, rfl⟩) ?_
  rw [Int.ediv_one]
  exact z_ireturn hY eJ5_newCapacity_0f7a4_58 rfl (by rw [hφ]; exact ⟨rfl, rfl⟩) ⟨Nat.zero_le _, Nat.zero_le _⟩
end LVF
