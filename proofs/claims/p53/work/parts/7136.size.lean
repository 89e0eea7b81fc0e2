/-! THE BUILDER: the size of a digit. -/
section LVK
theorem z_ineg {Y : z_Y} {d : Nat} {M : z_M} {pc pc' : Nat} {ls : List (Nat × Value)} {st : List Value} {h : z_H} {k n : Nat} {a : Int} (hY : z_ok Y d M) (dd : z_at M pc .ineg 1 pc') (kk : z_W Y pc' ls (z_i (-a) :: st) h k n) : z_W Y pc ls (z_i a :: st) h k n := by
  refine z_lift hY (fun p l e R s m args below meth c H locs cells slots Q lsA hx hb kk => ?_) kk
  obtain ⟨d1, rfl⟩ := dd
  have e : -Int32.ofInt a = Int32.ofInt (-a) := by rw [Int32.ofInt_neg]
  rw [z_i, ← e] at kk
  exact lv_ineg hx hb d1 kk
variable {G : z_G} {H : z_H}
theorem sq_stringSize (hG : z_OK G) {v : Int} (hv : 0 ≤ v ∧ v ≤ 4) : z_Tr G mJ6_stringSize_0f7a4 [z_i v] H 0 (z_i 1) := by
  refine z_T_of hG pJ6_stringSize_0f7a4 (Nat.le_of_ble_eq_true rfl) (ls0 := [(0, z_i v)]) rfl fun Y hY hg hmc hms hφ hψ => ?_
  subst hg
  refine z_const hY eJ6_stringSize_0f7a4_0 ?_
  refine z_istore hY eJ6_stringSize_0f7a4_1 (ls' := [(1, z_i 1), (0, z_i v)]) rfl ?_
  refine z_iload hY eJ6_stringSize_0f7a4_2 1 rfl ?_
  refine z_iflt hY eJ6_stringSize_0f7a4_3 (by omega) (fun c => by exfalso; omega) (fun _ => ?_)
  refine z_const hY eJ6_stringSize_0f7a4_6 ?_
  refine z_istore hY eJ6_stringSize_0f7a4_7 (ls' := [(1, z_i 0), (0, z_i v)]) rfl ?_
  refine z_iload hY eJ6_stringSize_0f7a4_8 1 rfl ?_
  refine z_ineg hY eJ6_stringSize_0f7a4_9 ?_
  refine z_istore hY eJ6_stringSize_0f7a4_10 (ls' := [(0, z_i (-v)), (1, z_i 0)]) rfl ?_
  refine z_const hY eJ6_stringSize_0f7a4_11 ?_
  refine z_istore hY eJ6_stringSize_0f7a4_13 (ls' := [(2, z_i (-10)), (0, z_i (-v)), (1, z_i 0)]) rfl ?_
  refine z_const hY eJ6_stringSize_0f7a4_14 ?_
  refine z_istore hY eJ6_stringSize_0f7a4_15 (ls' := [(3, z_i 1), (2, z_i (-10)), (0, z_i (-v)), (1, z_i 0)]) rfl ?_
  refine z_iload hY eJ6_stringSize_0f7a4_16 0 rfl ?_
  refine z_const hY eJ6_stringSize_0f7a4_17 ?_
  refine z_icmpge hY eJ6_stringSize_0f7a4_19 (by decide) (fun c => by exfalso; omega) (fun _ => ?_)
  refine z_iload hY eJ6_stringSize_0f7a4_22 2 rfl ?_
  refine z_iload hY eJ6_stringSize_0f7a4_23 1 rfl ?_
  refine z_icmple hY eJ6_stringSize_0f7a4_24 (by omega) (fun c => by exfalso; omega) (fun _ => ?_)
  refine z_iload hY eJ6_stringSize_0f7a4_27 0 rfl ?_
  refine z_iload hY eJ6_stringSize_0f7a4_28 3 rfl ?_
  refine z_iadd hY eJ6_stringSize_0f7a4_29 ?_
  exact z_ireturn hY eJ6_stringSize_0f7a4_30 rfl (by rw [hφ]; exact ⟨rfl, rfl⟩) ⟨Nat.zero_le _, Nat.zero_le _⟩
end LVK
