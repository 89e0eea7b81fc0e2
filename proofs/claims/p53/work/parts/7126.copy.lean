/-! THE BUILDER: rows of bytes copied. The source may lie below what the call makes (a constant's). -/
section LVH
/-- a row of bytes that stands in every heap of the view -/
def z_sr (G : z_G) (h : z_H) (a n : Nat) (f : Int → Int) : Prop := ∀ H : Heap, z_R G h H → ∃ cell : Cell, H[a]? = some cell ∧ G.2.1.isArrayOf cell .byte ∧ cell.vm ≠ .unknown ∧ n ≤ cell.slots.size ∧ cell.slots.size.toInt32 = Int32.ofNat n ∧ ∀ j : Nat, j < n → cell.slots[j]? = some (.int (Int32.ofInt (f j)))
theorem z_sr_of {G : z_G} {h : z_H} {a n : Nat} {f : Int → Int} (hG : z_OK G) (ha : h a = some (z_ya n f)) : z_sr G h a n f := fun H hR =>
  ⟨_, hR.at ha 0 _ rfl, (hG.2.1.2 3 (G.2.2.2.1 3, .byte) rfl).1 n (fun j => .int (Int32.ofInt (f j))), (fun h => by cases h), by show n ≤ (arrV _ n (fun j : Nat => .int (Int32.ofInt (f j)))).slots.size; rw [arrV_size]; exact Nat.le_refl _, by show (arrV _ n (fun j : Nat => .int (Int32.ofInt (f j)))).slots.size.toInt32 = _; rw [arrV_size], fun j hj => by show (arrV _ n (fun j : Nat => .int (Int32.ofInt (f j)))).slots[j]? = _; rw [arrV_read _ _ hj]⟩
theorem z_sr_low {G : z_G} {h : z_H} {a n : Nat} {f : Int → Int} (hT : z_TT G a n f) : z_sr G h a n f := fun H hR => by
  obtain ⟨cell, h1, h2, h3, h4, h5, h6, -⟩ := hT
  exact ⟨cell, (hR.2.2 a (Array.getElem?_eq_some_iff.mp h1).1).trans h1, h2, h3, h4, h5, h6⟩
def z_cpY (f g : Int → Int) (sp dp n : Int) : Int → Int := fun j => if dp ≤ j ∧ j < dp + n then f (sp + (j - dp)) else g j
theorem z_cpYE {f g : Int → Int} {sp dp n : Int} (h : 0 ≤ sp ∧ 0 ≤ dp ∧ 0 ≤ n) : va_cpy (fun j : Nat => Int32.ofInt (f j)) (fun j : Nat => Int32.ofInt (g j)) sp.toNat dp.toNat n.toNat = fun j : Nat => Int32.ofInt (z_cpY f g sp dp n j) := by
  funext j
  unfold va_cpy z_cpY
  by_cases hc : dp.toNat ≤ j ∧ j < dp.toNat + n.toNat
  · rw [if_pos hc, if_pos (by omega)]
    exact congrArg (fun q => Int32.ofInt (f q)) (by omega)
  · rw [if_neg hc, if_neg (by omega)]
theorem z_f8 {r : Int} (h1 : -128 ≤ r) (h2 : r ≤ 127) : fits .byte (.int (Int32.ofInt r)) = true := by
  have e : (Int32.ofInt r).toInt = r := z_toInt ⟨by omega, by omega⟩
  simp only [fits, Bool.and_eq_true, decide_eq_true_eq, Int32.le_iff_toInt_le, e]
  exact ⟨h1, h2⟩
theorem z_copyY {Y : z_Y} {d : Nat} {M : z_M} {pc pc' : Nat} {ls : List (Nat × Value)} {st : List Value} {h : z_H} {k n : Nat} {a0 a n0 n1 ix : Nat} {sp dp m0 : Int} {f g : Int → Int} (hY : z_ok Y d M) (dd : z_at M pc (.invokestatic ix) 3 pc') (hlk : Cond.methodLink M.1.cls ix arraycopyName ∈ lw_tbl) (ha0 : z_sr (z_gg Y) h a0 n0 f) (ha1 : h a = some (z_ya n1 g)) (hr : 0 ≤ sp ∧ 0 ≤ dp ∧ 0 ≤ m0 ∧ sp + m0 ≤ n0 ∧ dp + m0 ≤ n1 ∧ n0 ≤ 2147483647 ∧ n1 ≤ 2147483647)
    (hf8 : ∀ i : Int, 0 ≤ i → i < m0 → -128 ≤ f (sp + i) ∧ f (sp + i) ≤ 127) (hrest : (st.map fun v => v.category).sum ≤ 8) (kk : z_W Y pc' ls st (z_set h a (z_ya n1 (z_cpY f g sp dp m0))) k n) : z_W Y pc ls (z_i m0 :: z_i dp :: .ref a :: z_i sp :: .ref a0 :: st) h k n := by
  obtain ⟨G, ⟨p, e, R, s, m, args, below, meth, c⟩, nL, mc, ms, φ, ψ⟩ := Y
  obtain ⟨hG, hx, hb, hml, hnl, hown, -, -, hW, -, hRm, -⟩ := hY
  obtain ⟨d1, rfl⟩ := dd
  subst hRm
  intro H locs lsA hR hL hlv T hT X
  have hK := z_K hG hW
  have hA := (hR.1 a _ ha1).2
  have cv : ∀ z : Int, 0 ≤ z → z ≤ 2147483647 → ¬ Int32.ofInt z < 0 ∧ (Int32.ofInt z).toInt = z ∧ (Int32.ofInt z).toNatClampNeg = z.toNat := by
    intro z h1 h2
    have e1 : (Int32.ofInt z).toInt = z := z_toInt (by omega)
    refine ⟨?_, e1, ?_⟩
    · rw [Int32.lt_iff_toInt_lt, e1]; show ¬ z < 0; omega
    · show (Int32.ofInt z).toInt.toNat = _; rw [e1]
  obtain ⟨s1, s2, s3⟩ := cv sp (by omega) (by omega)
  obtain ⟨p1, p2, p3⟩ := cv dp (by omega) (by omega)
  obtain ⟨n1', n2, n3⟩ := cv m0 (by omega) (by omega)
  obtain ⟨cs, hc0, hs2, hs3, hs4, -, hs5⟩ := ha0 H hR
  obtain ⟨hs6, k0, hk0, cm0, hkk0⟩ := State.isArrayOf_alike hW.alike hs2
  have hc1 : H[a]? = some (vp_cell (G.2.2.2.1 3) (n1, .inl fun j : Nat => Int32.ofInt (g j))) := hR.at ha1 0 _ rfl
  have hty := hK.2 3 (G.2.2.2.1 3, .byte) rfl
  obtain ⟨-, k1, hk1, cm1, hkk1⟩ := hty.1 n1 (fun j => .int (Int32.ofInt (g j)))
  obtain ⟨vm', X', step⟩ := X.arraycopy hx hown (z_wd hG hW hlk rfl) (z_wd hG hW wACn rfl) (z_wd hG hW wACs rfl) (z_wd hG hW wACi rfl) (src := a0) (dst := a) (cs := cs) (cd := vp_cell (G.2.2.2.1 3) (n1, .inl fun j : Nat => Int32.ofInt (g j))) (srcPos := Int32.ofInt sp) (destPos := Int32.ofInt dp) (n := Int32.ofInt m0) (by rw [hT]; exact hc0) (by rw [hT]; exact hc1)
    hs6 (fun _ h => by cases h) hs3 (fun h => by cases h) hk0 hk1 hkk0 hkk1 (by simp [refKind]) s1 p1 n1'
    (by rw [s2, n2]; omega)
    (by rw [p2, n2]; show ¬ _ > ((arrV _ n1 (fun j => .int (Int32.ofInt (g j)))).slots.size : Int); rw [arrV_size]; omega)
    (fun vm₁ hal i hi => by
      rw [n3] at hi
      rw [s3]
      have e : cs.slots.getD (sp.toNat + i) .null = .int (Int32.ofInt (f ((sp.toNat + i : Nat) : Int))) := by
        rw [Array.getD_eq_getD_getElem?, hs5 _ (by omega)]
        rfl
      refine ⟨?_, ?_⟩
      · rw [e]
        have q8 := hf8 i (by omega) (by omega)
        rw [show sp + (i : Int) = ((sp.toNat + i : Nat) : Int) by omega] at q8
        exact z_f8 q8.1 q8.2
      · rw [e]; exact trivial)
    (g := F0 m pc lsA (z_i m0 :: z_i dp :: .ref a :: z_i sp :: .ref a0 :: st)) rfl (by rw [hml]; exact hlv.1) (rest := st) rfl (by rw [hb]; exact d1) (by show 1 ≤ 7 + d; omega) (by show 2 * 0 + _ + _ ≤ 110 + 50 * d; have hw : nativeFrameWords "java/lang/System" "arraycopy" 5 ≤ 20 := (by decide); omega)
  have e1 : copied cs (vp_cell (G.2.2.2.1 3) (n1, .inl fun j : Nat => Int32.ofInt (g j))) (Int32.ofInt sp) (Int32.ofInt dp) (Int32.ofInt m0) = vp_cell (G.2.2.2.1 3) (n1, .inl fun j : Nat => Int32.ofInt (z_cpY f g sp dp m0 j)) := by
    rw [← z_cpYE ⟨hr.1, hr.2.1, hr.2.2.1⟩, ← s3, ← p3, ← n3]
    exact va_copiedX (fun z => .int z) cs (G.2.2.2.1 3) (n0 := n0) (n1 := n1) (sp := (Int32.ofInt sp).toNatClampNeg) (dp := (Int32.ofInt dp).toNatClampNeg) (n := (Int32.ofInt m0).toNatClampNeg) (fun j : Nat => Int32.ofInt (f j)) (fun j : Nat => Int32.ofInt (g j)) hs5 (by rw [s3, n3]; omega)
  rw [e1] at X' step
  have hl : a < H.size := (Array.getElem?_eq_some_iff.mp hc1).1
  have hheap : ((T.setVm vm').setCell a (vp_cell (G.2.2.2.1 3) (n1, .inl fun j : Nat => Int32.ofInt (z_cpY f g sp dp m0 j)))).heap = H.setIfInBounds a (vp_cell (G.2.2.2.1 3) (n1, .inl fun j : Nat => Int32.ofInt (z_cpY f g sp dp m0 j))) := by rw [← hT]; rfl
  have oq : ∀ q : Nat, q ≠ a → (H.setIfInBounds a (vp_cell (G.2.2.2.1 3) (n1, .inl fun j : Nat => Int32.ofInt (z_cpY f g sp dp m0 j))))[q]? = H[q]? := fun q hq => by simp [Array.getElem?_setIfInBounds, Ne.symm hq]
  obtain ⟨t, a1, b1⟩ := kk _ _ lsA (hR.put ha1 (c := z_ya n1 (z_cpY f g sp dp m0)) (show (H.setIfInBounds a _)[a]? = some _ by simp [Array.getElem?_setIfInBounds, hl]) (by simp) oq) (fun q hq => by
      rcases List.mem_append.mp hq with g | g
      · exact hL q g
      · obtain ⟨z, -, hz⟩ := List.mem_map.mp g
        rw [← hz]
        exact hA) hlv _ hheap X'
  exact ⟨t, step t a1, b1⟩
end LVH
