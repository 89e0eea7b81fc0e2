/-! THE BUILDER: a digit's letter. -/
section LVM
variable {G : z_G} {H : z_H}
theorem sq_getChars {a N : Nat} {g : Int → Int} {v p : Int} (hG : z_OK G) (hD : z_SBd G) (ha : H a = some (z_ya N g)) (hv : 0 ≤ v ∧ v ≤ 4) (hp : 1 ≤ p ∧ p ≤ N ∧ N ≤ 1000) : z_T G mJ6_getChars_ba4f3 [z_i v, z_i p, .ref a] H 0 0 0 (fun r H' => r = some (z_i (p - 1)) ∧ H' = z_set H a (z_ya N (z_up g (p - 1) (48 + v)))) z_no := by
  refine z_T_of hG pJ6_getChars_ba4f3 (Nat.le_of_ble_eq_true rfl) (ls0 := [(0, z_i v), (1, z_i p), (2, .ref a)]) rfl fun Y hY hg hmc hms hφ hψ => ?_
  subst hg
  obtain ⟨q, N9, dg, d1, d2, d3, d4, d5⟩ := hD
  refine z_iload hY eJ6_getChars_ba4f3_0 1 rfl ?_
  refine z_istore hY eJ6_getChars_ba4f3_1 (ls' := [(5, z_i p), (0, z_i v), (1, z_i p), (2, .ref a)]) rfl ?_
  refine z_iload hY eJ6_getChars_ba4f3_3 1 rfl ?_
  refine z_ifge hY eJ6_getChars_ba4f3_4 (by omega) (fun _ => ?_) (fun c => by exfalso; omega)
  refine z_const hY eJ6_getChars_ba4f3_11 ?_
  refine z_istore hY eJ6_getChars_ba4f3_12 (ls' := [(6, z_i 0), (5, z_i p), (0, z_i v), (1, z_i p), (2, .ref a)]) rfl ?_
  refine z_iload hY eJ6_getChars_ba4f3_14 0 rfl ?_
  refine z_ifne hY eJ6_getChars_ba4f3_16 (by decide) (fun c => absurd rfl c) (fun _ => ?_)
  refine z_iload hY eJ6_getChars_ba4f3_19 2 rfl ?_
  refine z_ineg hY eJ6_getChars_ba4f3_20 ?_
  refine z_istore hY eJ6_getChars_ba4f3_21 (ls' := [(0, z_i (-v)), (6, z_i 0), (5, z_i p), (1, z_i p), (2, .ref a)]) rfl ?_
  refine z_iload hY eJ6_getChars_ba4f3_22 0 rfl ?_
  refine z_const hY eJ6_getChars_ba4f3_23 ?_
  refine z_icmpgt hY eJ6_getChars_ba4f3_25 (by omega) (fun _ => ?_) (fun c => by exfalso; omega)
  refine z_aload hY eJ6_getChars_ba4f3_72 4 rfl ?_
  refine z_iinc hY eJ6_getChars_ba4f3_73 2 rfl (ls' := [(5, z_i (p + -1)), (0, z_i (-v)), (6, z_i 0), (1, z_i p), (2, .ref a)]) rfl ?_
  refine z_iload hY eJ6_getChars_ba4f3_76 0 rfl ?_
  refine z_gets hY eJ6_getChars_ba4f3_78 wG_Integer_83 d1 ?_
  refine z_iload hY eJ6_getChars_ba4f3_81 1 rfl ?_
  refine z_ineg hY eJ6_getChars_ba4f3_82 ?_
  refine z_yloadR hY eJ6_getChars_ba4f3_83 (z_sr_low d2) (by omega) ?_
  rw [show dg (- -v) = 48 + v by rw [Int.neg_neg]; exact d5 v hv.1 hv.2]
  refine z_ystore hY eJ6_getChars_ba4f3_84 ha (by omega) (by omega) ?_
  refine z_iload hY eJ6_getChars_ba4f3_85 1 rfl ?_
  refine z_const hY eJ6_getChars_ba4f3_86 ?_
  refine z_icmpge hY eJ6_getChars_ba4f3_88 (by omega) (fun _ => ?_) (fun c => by exfalso; omega)
  refine z_iload hY eJ6_getChars_ba4f3_104 2 rfl ?_
  refine z_ifeq hY eJ6_getChars_ba4f3_106 (by decide) (fun _ => ?_) (fun c => absurd rfl c)
  refine z_iload hY eJ6_getChars_ba4f3_118 0 rfl ?_
  exact z_ireturn hY eJ6_getChars_ba4f3_120 rfl (by rw [hφ]; exact ⟨rfl, rfl⟩) (by rw [hmc, hms]; omega)
end LVM
