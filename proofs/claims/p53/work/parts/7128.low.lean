/-! THE BUILDER: a byte read out of a row that may lie below what the call makes. -/
section LVL
theorem z_yloadR {Y : z_Y} {d : Nat} {M : z_M} {pc pc' : Nat} {ls : List (Nat × Value)} {st : List Value} {h : z_H} {k n : Nat} {a N : Nat} {i : Int} {f : Int → Int} (hY : z_ok Y d M) (dd : z_at M pc .baload 1 pc') (ha : z_sr (z_gg Y) h a N f) (hi : 0 ≤ i ∧ i < N ∧ N ≤ 2147483647) (kk : z_W Y pc' ls (z_i (f i) :: st) h k n) : z_W Y pc ls (z_i i :: .ref a :: st) h k n := by
  obtain ⟨G, ⟨p, e, R, s, m, args, below, meth, c⟩, nL, mc, ms, φ, ψ⟩ := Y
  obtain ⟨hG, hx, hb, -, -, hown, -, -, hW, -⟩ := hY
  obtain ⟨d1, rfl⟩ := dd
  intro H locs lsA hR hL hlv
  have kk := kk H locs lsA hR hL hlv
  obtain ⟨v1, v2⟩ := z_nat (i := i) (N := N) (by omega) (by omega)
  obtain ⟨cell, h1, h2, h3, h4, -, h6⟩ := ha H hR
  have hlt : (Int32.ofInt i).toNatClampNeg < N := by rw [v2]; omega
  refine W.bald (v := z_i (f i)) hx hb h1 (State.isArrayOf_alike hW.alike h2) h3 (fun q => ?_) ?_ rfl rfl d1 kk
  · rcases q with q | q
    · exact v1 (Or.inl q)
    · omega
  · rw [h6 _ hlt, v2, Int.toNat_of_nonneg hi.1]; rfl
theorem z_arrlenR {Y : z_Y} {d : Nat} {M : z_M} {pc pc' : Nat} {ls : List (Nat × Value)} {st : List Value} {h : z_H} {k n : Nat} {a N : Nat} {f : Int → Int} (hY : z_ok Y d M) (dd : z_at M pc .arraylength 1 pc') (ha : z_sr (z_gg Y) h a N f) (kk : z_W Y pc' ls (z_i N :: st) h k n) : z_W Y pc ls (.ref a :: st) h k n := by
  obtain ⟨G, ⟨p, e, R, s, m, args, below, meth, c⟩, nL, mc, ms, φ, ψ⟩ := Y
  obtain ⟨hG, hx, hb, -, -, hown, -, -, hW, -⟩ := hY
  obtain ⟨d1, rfl⟩ := dd
  intro H locs lsA hR hL hlv
  have kk := kk H locs lsA hR hL hlv
  obtain ⟨cell, h1, h2, h3, h4, h5, -⟩ := ha H hR
  have hn : Int32.ofNat N = Int32.ofInt N := Int32.ofInt_eq_ofNat.symm
  exact W.alen (n := Int32.ofInt N) hx hb h1 (State.isArrayOf_alike hW.alike h2) (h5.trans hn) rfl rfl d1 kk
end LVL
