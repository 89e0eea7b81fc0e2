/-! THE WALK: fields, arrays, makings, calls, ends. -/
section ZM
def z_cls (ci : Nat) (C : String) (T : u_T) (N : Nat) (ty : Nat → FieldType) : Prop := z_cl[ci]? = some (C, T, N) ∧ (∀ w ∈ u_ws C T N, w ∈ lw_tbl) ∧ (∀ k, k < N → parseFieldDescriptor (T k).2.2.1 = some (ty k)) ∧ (∀ a, a < N → ∀ b, b < N → a ≠ b → (T a).2.1 ≠ (T b).2.1)
/-- a field by its place in the pool of the class own -/
def z_fd (own : String) (ix ci kf : Nat) (t0 : FieldType) (fin : Bool) : Prop := ∃ (C : String) (T : u_T) (N : Nat) (ty : Nat → FieldType) (ref : String), z_cls ci C T N ty ∧ kf < N ∧ ty kf = t0 ∧ (T kf).2.2.2 = fin ∧ (fin = true → (T kf).1 = own) ∧
  (Cond.fieldLink own ix ref (T kf).2.1 (T kf).2.2.1 ∈ lw_tbl ∨ (fin = false ∧ ∃ host : String, Cond.fieldLinkNest own ix ref (T kf).2.1 (T kf).2.2.1 host ∈ lw_tbl)) ∧ (ref = (T kf).1 ∨ Cond.sameField ref (T kf).1 (T kf).2.1 (T kf).2.2.1 ∈ lw_tbl)
theorem z_same {G : z_G} {s : State} {ref owner name desc : String} (hG : z_OK G) (hW : G.2.1.WarmedH s.vm) (h : ref = owner ∨ Cond.sameField ref owner name desc ∈ lw_tbl) : ∀ x, s.fieldFound? owner name desc = some x → s.fieldFound? ref name desc = some x := by
  intro x hx
  rcases h with rfl | h
  · exact hx
  · exact u_same (args := #[]) (z_wd hG hW h rfl) x hx
variable {Y : z_Y} {d : Nat} {M : z_M} {pc pc' : Nat} {ls ls' : List (Nat × Value)} {st st' : List Value} {h : z_H} {k n : Nat}
theorem z_getfield {a ci ix kf : Nat} {t0 : FieldType} {fin : Bool} {fs : List Value} {v : Value} (hY : z_ok Y d M) (dd : z_at M pc (.getfield ix) 3 pc' ∧ z_fd M.1.cls ix ci kf t0 fin) (ha : h a = some (z_ob ci fs)) (hv : fs[kf]? = some v) (kk : z_W Y pc' ls (v :: st) h k n) : z_W Y pc ls (.ref a :: st) h k n := by
  obtain ⟨G, ⟨p, e, R, s, m, args, below, meth, c⟩, nL, mc, ms, φ, ψ⟩ := Y
  obtain ⟨hG, hx, hb, -, -, hown, -, -, hW, -⟩ := hY
  obtain ⟨⟨d1, rfl⟩, C, T, N, ty, ref, ⟨hc, hws, -, -⟩, hk, -, -, -, hl, hs⟩ := dd
  intro H locs lsA hR hL hlv
  have kk := kk H locs lsA hR hL hlv
  have hP := hR.at ha
  have hsm := z_same hG hW hs
  rcases hl with hl | ⟨-, host, hl⟩
  · exact va_get hx hb (z_lay (args := args) hG hW hws) (fun w hw => hw) hown (z_K hG hW) hP 0 rfl hc kf hk (z_wd hG hW hl rfl) hsm hv d1 kk
  · exact va_getN hx hb (z_lay (args := args) hG hW hws) (fun w hw => hw) hown (z_K hG hW) hP 0 rfl hc kf hk (z_wdF hG hW hl) hsm hv d1 kk
theorem z_putfield {a ci ix kf : Nat} {t0 : FieldType} {fs : List Value} {v : Value} (hY : z_ok Y d M) (dd : z_at M pc (.putfield ix) 3 pc' ∧ z_fd M.1.cls ix ci kf t0 false) (ha : h a = some (z_ob ci fs)) (hn : narrow t0 v = v) (hf : fits t0 v = true) (hl : kf < fs.length) (kk : z_W Y pc' ls st (z_set h a (z_ob ci (fs.set kf v))) k n) : z_W Y pc ls (v :: .ref a :: st) h k n := by
  obtain ⟨G, ⟨p, e, R, s, m, args, below, meth, c⟩, nL, mc, ms, φ, ψ⟩ := Y
  obtain ⟨hG, hx, hb, -, -, hown, -, -, hW, -⟩ := hY
  obtain ⟨⟨d1, rfl⟩, C, T, N, ty, ref, ⟨hc, hws, hty, hnm⟩, hk, ht0, hfin, -, hlk, hs⟩ := dd
  intro H locs lsA hR hL hlv
  have hK := z_K hG hW
  have hts : ∀ w ∈ u_ws C T N, w.before args s = true := z_lay hG hW hws
  have hap := va_apart (own := M.1.cls) hts (fun w hw => hw) ty hty hnm hK hc
  have hA := (hR.1 a _ ha).2
  obtain ⟨r, h1, cell, q1, q2, q3, q4⟩ := (hR.1 a _ ha).1
  have hr : r = (C, T, N) := Option.some.inj (h1.symm.trans hc)
  subst hr
  obtain ⟨hS, hfc, kC, hkC, hkind⟩ := hK.1 ci _ hc
  obtain ⟨cf, kf2, fi, f, hi, hsl⟩ := hS kf hk
  have hlay := hts _ (u_in_lay hk)
  unfold u_lay at hlay
  rw [if_neg (by rw [hfin]; decide)] at hlay
  have hst := (u_facts hfc hkC (u_lays hts (fun w hw => hw) hk) hi).1
  have hd : parseFieldDescriptor (T kf).2.2.1 = some t0 := by rw [← ht0]; exact hty kf hk
  have h6 := u_store hfc hkC hkind hlay hi hd hn hf
  have hsm := z_same hG hW hs
  have fin : ∀ H1 : Heap, H1[a]? = some (cell.setSlot f.slot v) → H1.size = H.size → (∀ q, q ≠ a → H1[q]? = H[q]?) → W p G.1 e R s m args below meth c H1 (locs ++ [⟨a, f.slot⟩]) k n (vx_MQ below (z_Qc G φ) (z_XC G ψ) args s mc ms (z_A G)) (F0 m (pc + 3) lsA st) := by
    intro H1 e1 e2 e3
    rw [hsl] at e1 ⊢
    refine kk H1 _ lsA (hR.put ha ⟨_, hc, t_OB.to (V := updV (vp_V fs) kf v) ⟨_, e1, q2, q3, t_set q4 hap hk v⟩ (fun j _ => vp_updV_set hl v j)⟩ e2 e3) (fun q hq => ?_) hlv
    rcases List.mem_append.mp hq with g | g
    · exact hL q g
    · rw [List.mem_singleton.mp g]; exact hA
  rcases hlk with hlk | ⟨-, host, hlk⟩
  · exact W.putK hx hb (f := f) ⟨hown, z_wd hG hW hlk rfl, ⟨_, _, _, hsm _ hi⟩, hst⟩ (by rw [q2]; exact h6) q1 q3 (by rw [hsl]; exact k2_hasslot (q4 kf hk)) rfl rfl d1 fin
  · exact va_WputK hx hb (f := f) hown (z_wdF hG hW hlk) (hsm _ hi) hst (by rw [q2]; exact h6) q1 q3 (by rw [hsl]; exact k2_hasslot (q4 kf hk)) rfl rfl d1 fin
/-- a final field, in its constructor -/
theorem z_putfinal {a ci ix kf : Nat} {t0 : FieldType} {fs : List Value} {v : Value} (hY : z_ok Y d M) (hin : M.1.name = "<init>") (dd : z_at M pc (.putfield ix) 3 pc' ∧ z_fd M.1.cls ix ci kf t0 true) (ha : h a = some (z_ob ci fs)) (hn : narrow t0 v = v) (hf : fits t0 v = true) (hl : kf < fs.length) (kk : z_W Y pc' ls st (z_set h a (z_ob ci (fs.set kf v))) k n) : z_W Y pc ls (v :: .ref a :: st) h k n := by
  obtain ⟨G, ⟨p, e, R, s, m, args, below, meth, c⟩, nL, mc, ms, φ, ψ⟩ := Y
  obtain ⟨hG, hx, hb, -, -, hown, -, -, hW, -, -, -, hnm0⟩ := hY
  obtain ⟨⟨d1, rfl⟩, C, T, N, ty, ref, ⟨hc, hws, hty, hnm⟩, hk, ht0, hfin, hdecl, hlk, hs⟩ := dd
  intro H locs lsA hR hL hlv
  have hK := z_K hG hW
  have hts : ∀ w ∈ u_ws C T N, w.before args s = true := z_lay hG hW hws
  have hap := va_apart (own := M.1.cls) hts (fun w hw => hw) ty hty hnm hK hc
  have hA := (hR.1 a _ ha).2
  obtain ⟨r, h1, cell, q1, q2, q3, q4⟩ := (hR.1 a _ ha).1
  have hr : r = (C, T, N) := Option.some.inj (h1.symm.trans hc)
  subst hr
  obtain ⟨hS, hfc, kC, hkC, hkind⟩ := hK.1 ci _ hc
  obtain ⟨cf, kf2, fi, f, hi, hsl⟩ := hS kf hk
  have hlay := hts _ (u_in_lay hk)
  unfold u_lay at hlay
  rw [if_pos hfin] at hlay
  have hst := (u_facts hfc hkC (u_lays hts (fun w hw => hw) hk) hi).1
  have hcf : m.cls = cf := by
    obtain ⟨_, _, c', _, _, _, -, -, hf', -, -, -, hown2, -⟩ := Cond.laysFinal_spec hlay
    have e1 : c' = cf := by have := hi.symm.trans hf'; simp at this; exact this.1.symm
    rw [hdecl rfl] at hown2
    rw [← e1]; exact Option.some.inj (hown.symm.trans hown2)
  have hd : parseFieldDescriptor (T kf).2.2.1 = some t0 := by rw [← ht0]; exact hty kf hk
  have h6 := u_fits hfc hkC hkind (Or.inr hlay) hi hd hn hf
  have hsm := z_same hG hW hs
  rcases hlk with hlk | ⟨hbad, -⟩
  · refine W.putFinK hx hb hown (z_wd hG hW hlk rfl) (hsm _ hi) hst hcf (by rw [hnm0]; exact hin) (by rw [q2]; exact h6) q1 q3 (by rw [hsl]; exact k2_hasslot (q4 kf hk)) rfl rfl d1 fun H1 e1 e2 e3 => ?_
    rw [hsl] at e1 ⊢
    refine kk H1 _ lsA (hR.put ha ⟨_, hc, t_OB.to (V := updV (vp_V fs) kf v) ⟨_, e1, q2, q3, t_set q4 hap hk v⟩ (fun j _ => vp_updV_set hl v j)⟩ e2 e3) (fun q hq => ?_) hlv
    rcases List.mem_append.mp hq with g | g
    · exact hL q g
    · rw [List.mem_singleton.mp g]; exact hA
  · cases hbad
-- arrays
theorem z_iaload {a N : Nat} {i : Int} {f : Int → Int} (hY : z_ok Y d M) (dd : z_at M pc .iaload 1 pc') (ha : h a = some (z_ia N f)) (hi : 0 ≤ i ∧ i < N ∧ N ≤ 2147483647) (kk : z_W Y pc' ls (z_i (f i) :: st) h k n) : z_W Y pc ls (z_i i :: .ref a :: st) h k n := by
  obtain ⟨G, ⟨p, e, R, s, m, args, below, meth, c⟩, nL, mc, ms, φ, ψ⟩ := Y
  obtain ⟨hG, hx, hb, -, -, hown, -, -, hW, -⟩ := hY
  obtain ⟨d1, rfl⟩ := dd
  intro H locs lsA hR hL hlv
  have kk := kk H locs lsA hR hL hlv
  obtain ⟨v1, v2⟩ := z_nat (i := i) (N := N) (by omega) (by omega)
  refine va_iald hx hb (z_K hG hW) (hR.at ha) 0 0 rfl rfl v1 d1 ?_
  rw [v2, Int.toNat_of_nonneg hi.1]
  exact kk
theorem z_baload {a N : Nat} {i : Int} {f : Int → Int} (hY : z_ok Y d M) (dd : z_at M pc .baload 1 pc') (ha : h a = some (z_ba N f)) (hi : 0 ≤ i ∧ i < N ∧ N ≤ 2147483647) (kk : z_W Y pc' ls (z_i (f i) :: st) h k n) : z_W Y pc ls (z_i i :: .ref a :: st) h k n := by
  obtain ⟨G, ⟨p, e, R, s, m, args, below, meth, c⟩, nL, mc, ms, φ, ψ⟩ := Y
  obtain ⟨hG, hx, hb, -, -, hown, -, -, hW, -⟩ := hY
  obtain ⟨d1, rfl⟩ := dd
  intro H locs lsA hR hL hlv
  have kk := kk H locs lsA hR hL hlv
  obtain ⟨v1, v2⟩ := z_nat (i := i) (N := N) (by omega) (by omega)
  refine va_zald hx hb (z_K hG hW) (hR.at ha) 0 1 rfl rfl v1 d1 ?_
  rw [v2, Int.toNat_of_nonneg hi.1]
  exact kk
theorem z_aaload {a N b : Nat} {i : Int} {f : Int → Option Nat} (hY : z_ok Y d M) (dd : z_at M pc .aaload 1 pc') (ha : h a = some (z_qa N f)) (hi : 0 ≤ i ∧ i < N ∧ N ≤ 2147483647) (hv : f i = some b) (kk : z_W Y pc' ls (.ref b :: st) h k n) : z_W Y pc ls (z_i i :: .ref a :: st) h k n := by
  obtain ⟨G, ⟨p, e, R, s, m, args, below, meth, c⟩, nL, mc, ms, φ, ψ⟩ := Y
  obtain ⟨hG, hx, hb, -, -, hown, -, -, hW, -⟩ := hY
  obtain ⟨d1, rfl⟩ := dd
  intro H locs lsA hR hL hlv
  have kk := kk H locs lsA hR hL hlv
  obtain ⟨v1, v2⟩ := z_nat (i := i) (N := N) (by omega) (by omega)
  refine va_aldq (C := "java/lang/Object") hx hb (z_K hG hW) (hR.at ha) 0 2 rfl rfl v1 d1 ?_
  rw [v2, Int.toNat_of_nonneg hi.1, hv]
  exact kk
theorem z_upI {f : Int → Int} {i x : Int} (hi : 0 ≤ i) : (fun j : Nat => Int32.ofInt (z_up f i x j)) = (fun j : Nat => if j = i.toNat then Int32.ofInt x else Int32.ofInt (f j)) := by
  funext j
  unfold z_up
  by_cases hj : j = i.toNat
  · rw [if_pos hj, if_pos (by omega)]
  · rw [if_neg hj, if_neg (by omega)]
theorem z_iastore {a N : Nat} {i x : Int} {f : Int → Int} (hY : z_ok Y d M) (dd : z_at M pc .iastore 1 pc') (ha : h a = some (z_ia N f)) (hi : 0 ≤ i ∧ i < N ∧ N ≤ 2147483647) (kk : z_W Y pc' ls st (z_set h a (z_ia N (z_up f i x))) k n) : z_W Y pc ls (z_i x :: z_i i :: .ref a :: st) h k n := by
  obtain ⟨G, ⟨p, e, R, s, m, args, below, meth, c⟩, nL, mc, ms, φ, ψ⟩ := Y
  obtain ⟨hG, hx, hb, -, -, hown, -, -, hW, -⟩ := hY
  obtain ⟨d1, rfl⟩ := dd
  intro H locs lsA hR hL hlv
  have hA := (hR.1 a _ ha).2
  obtain ⟨v1, v2⟩ := z_nat (i := i) (N := N) (by omega) (by omega)
  refine W.iast hx hb (hR.at ha 0 _ rfl) (((z_K hG hW).2 0 _ rfl).1 N (fun j => .int (Int32.ofInt (f j)))) (fun q => by cases q) (by show ¬ (_ ∨ (arrV _ _ _).slots.size ≤ _); rw [arrV_size]; exact v1) rfl rfl d1 fun H1 e1 e2 e3 => ?_
  refine kk H1 _ lsA (hR.put ha ?_ e2 e3) (fun q hq => ?_) hlv
  · show H1[a]? = some (vp_cell _ _)
    rw [e1, v2]
    show some ((arrV _ _ _).setSlot _ _) = some (arrV _ _ (fun j => .int ((fun j : Nat => Int32.ofInt (z_up f i x j)) j)))
    rw [arrV_store, z_upI hi.1]
    congr 2
    funext q
    by_cases hq : q = i.toNat
    · simp [updV, hq]
    · simp [updV, hq]
  · rcases List.mem_append.mp hq with g | g
    · exact hL q g
    · rw [List.mem_singleton.mp g]; exact hA
theorem z_bastore {a N : Nat} {i x : Int} {f : Int → Int} (hY : z_ok Y d M) (dd : z_at M pc .bastore 1 pc') (ha : h a = some (z_ba N f)) (hi : 0 ≤ i ∧ i < N ∧ N ≤ 2147483647) (hx01 : x = 0 ∨ x = 1) (kk : z_W Y pc' ls st (z_set h a (z_ba N (z_up f i x))) k n) : z_W Y pc ls (z_i x :: z_i i :: .ref a :: st) h k n := by
  obtain ⟨G, ⟨p, e, R, s, m, args, below, meth, c⟩, nL, mc, ms, φ, ψ⟩ := Y
  obtain ⟨hG, hx, hb, -, -, hown, -, -, hW, -⟩ := hY
  obtain ⟨d1, rfl⟩ := dd
  intro H locs lsA hR hL hlv
  have hA := (hR.1 a _ ha).2
  obtain ⟨v1, v2⟩ := z_nat (i := i) (N := N) (by omega) (by omega)
  have hnar : narrow .boolean (.int (Int32.ofInt x)) = .int (Int32.ofInt x) := by rcases hx01 with rfl | rfl <;> decide +kernel
  refine W.zast hx hb (hR.at ha 0 _ rfl) (((z_K hG hW).2 1 _ rfl).1 N (fun j => .int (Int32.ofInt (f j)))) (fun q => by cases q) (by show ¬ (_ ∨ (arrV _ _ _).slots.size ≤ _); rw [arrV_size]; exact v1) rfl rfl d1 fun H1 e1 e2 e3 => ?_
  refine kk H1 _ lsA (hR.put ha ?_ e2 e3) (fun q hq => ?_) hlv
  · show H1[a]? = some (vp_cell _ _)
    rw [e1, v2, hnar]
    show some ((arrV _ _ _).setSlot _ _) = some (arrV _ _ (fun j => .int ((fun j : Nat => Int32.ofInt (z_up f i x j)) j)))
    rw [arrV_store, z_upI hi.1]
    congr 2
    funext q
    by_cases hq : q = i.toNat
    · simp [updV, hq]
    · simp [updV, hq]
  · rcases List.mem_append.mp hq with g | g
    · exact hL q g
    · rw [List.mem_singleton.mp g]; exact hA
theorem z_arrlen {a t N : Nat} {c0 : (Nat → Int32) ⊕ (Nat → Int64) ⊕ (Nat → UInt32) ⊕ (Nat → UInt64) ⊕ (Nat → Option Nat)} (hY : z_ok Y d M) (dd : z_at M pc .arraylength 1 pc') (ha : h a = some (.inl (t, N, c0))) (ht : t < 4) (kk : z_W Y pc' ls (z_i N :: st) h k n) : z_W Y pc ls (.ref a :: st) h k n := by
  obtain ⟨G, ⟨p, e, R, s, m, args, below, meth, c⟩, nL, mc, ms, φ, ψ⟩ := Y
  obtain ⟨hG, hx, hb, -, -, hown, -, -, hW, -⟩ := hY
  obtain ⟨d1, rfl⟩ := dd
  intro H locs lsA hR hL hlv
  have kk := kk H locs lsA hR hL hlv
  have hn : Int32.ofNat N = Int32.ofInt N := Int32.ofInt_eq_ofNat.symm
  have ht2 : ∃ ty, (z_tys G)[t]? = some (G.2.2.2.1 t, ty) := by
    rcases (show t = 0 ∨ t = 1 ∨ t = 2 ∨ t = 3 by omega) with rfl | rfl | rfl | rfl <;> exact ⟨_, rfl⟩
  obtain ⟨ty, ht2⟩ := ht2
  exact va_alen hx hb (z_K hG hW) (hR.at ha) 0 t rfl ht2 hn d1 kk
-- makings
def z_mc (Y : z_Y) : Nat := Y.2.2.2.1
def z_ms (Y : z_Y) : Nat := Y.2.2.2.2.1
def z_gg (Y : z_Y) : z_G := Y.1
def z_φ (Y : z_Y) : Option Value → z_H → Prop := Y.2.2.2.2.2.1
def z_ψ (Y : z_Y) : String → z_H → Prop := Y.2.2.2.2.2.2
theorem z_newI {N : Nat} (hY : z_ok Y d M) (dd : z_at M pc (.newarray .int) 2 pc') (hw : Cond.arrayClass .int ∈ lw_tbl) (hN : N ≤ 100000) (hk : k + 1 ≤ z_mc Y ∧ n + N ≤ z_ms Y) (kk : ∀ q : Nat, h q = none → z_W Y pc' ls (.ref q :: st) (z_set h q (z_ia N (fun _ => 0))) (k + 1) (n + N)) : z_W Y pc ls (z_i N :: st) h k n := by
  obtain ⟨G, ⟨p, e, R, s, m, args, below, meth, c⟩, nL, mc, ms, φ, ψ⟩ := Y
  obtain ⟨hG, hx, hb, -, -, hown, -, -, hW, -, hRm, -⟩ := hY
  obtain ⟨d1, rfl⟩ := dd
  subst hRm
  intro H locs lsA hR hL hlv
  have h1 : (Int32.ofInt N).toInt = N := z_toInt (by omega)
  refine va_newaK (atype := .int) (N := N) hx hb (z_wd hG hW hw rfl) rfl d1 rfl (by rw [z_0, z_lt (by omega)]; omega) (by show (Int32.ofInt N).toInt.toNat = N; rw [h1]; omega) (by show N * 4 ≤ _; omega) hk.1 hk.2 rfl fun H1 cA e1 e2 e3 _ e5 => ?_
  have hcA : cA = G.2.2.2.1 0 := Option.some.inj (e5.symm.trans (((z_K hG hW).2 0 _ rfl).2 : s.vm.findClass _ = some _))
  subst hcA
  obtain ⟨g1, g2⟩ := hR.push (c := z_ia N (fun _ => 0)) e1 e2 e3
  exact kk H.size g2 H1 locs lsA g1 hL hlv
theorem z_newZ {N : Nat} (hY : z_ok Y d M) (dd : z_at M pc (.newarray .boolean) 2 pc') (hw : Cond.arrayClass .boolean ∈ lw_tbl) (hN : N ≤ 100000) (hk : k + 1 ≤ z_mc Y ∧ n + N ≤ z_ms Y) (kk : ∀ q : Nat, h q = none → z_W Y pc' ls (.ref q :: st) (z_set h q (z_ba N (fun _ => 0))) (k + 1) (n + N)) : z_W Y pc ls (z_i N :: st) h k n := by
  obtain ⟨G, ⟨p, e, R, s, m, args, below, meth, c⟩, nL, mc, ms, φ, ψ⟩ := Y
  obtain ⟨hG, hx, hb, -, -, hown, -, -, hW, -, hRm, -⟩ := hY
  obtain ⟨d1, rfl⟩ := dd
  subst hRm
  intro H locs lsA hR hL hlv
  have h1 : (Int32.ofInt N).toInt = N := z_toInt (by omega)
  refine va_newaK (atype := .boolean) (N := N) hx hb (z_wd hG hW hw rfl) rfl d1 rfl (by rw [z_0, z_lt (by omega)]; omega) (by show (Int32.ofInt N).toInt.toNat = N; rw [h1]; omega) (by show N * 1 ≤ _; omega) hk.1 hk.2 rfl fun H1 cA e1 e2 e3 _ e5 => ?_
  have hcA : cA = G.2.2.2.1 1 := Option.some.inj (e5.symm.trans (((z_K hG hW).2 1 _ rfl).2 : s.vm.findClass _ = some _))
  subst hcA
  obtain ⟨g1, g2⟩ := hR.push (c := z_ba N (fun _ => 0)) e1 e2 e3
  exact kk H.size g2 H1 locs lsA g1 hL hlv
/-- a class that is made by 'new' -/
def z_mk (own : String) (ix ci : Nat) (N : Nat) (fs : List Value) : Prop := ∃ (C : String) (T : u_T) (ty : Nat → FieldType), z_cls ci C T N ty ∧ Cond.classLink own ix C ∈ lw_tbl ∧ Cond.instantiable C N ∈ lw_tbl ∧ Cond.initialized C ∈ lw_tbl ∧ (∀ j, j < N → defaultValue (ty j) = vp_V fs j)
theorem z_new {ix ci N : Nat} {fs : List Value} (hY : z_ok Y d M) (dd : z_at M pc (.new ix) 3 pc' ∧ z_mk M.1.cls ix ci N fs) (hk : k + 1 ≤ z_mc Y ∧ n + N ≤ z_ms Y) (kk : ∀ q : Nat, h q = none → z_W Y pc' ls (.ref q :: st) (z_set h q (z_ob ci fs)) (k + 1) (n + N)) : z_W Y pc ls st h k n := by
  obtain ⟨G, ⟨p, e, R, s, m, args, below, meth, c⟩, nL, mc, ms, φ, ψ⟩ := Y
  obtain ⟨hG, hx, hb, -, -, hown, -, -, hW, -, hRm, -⟩ := hY
  obtain ⟨⟨d1, rfl⟩, C, T, ty, ⟨hc, hws, hty, hnm⟩, w1, w2, w3, hfs⟩ := dd
  subst hRm
  intro H locs lsA hR hL hlv
  have hK := z_K hG hW
  have hKn := hK.1 ci _ hc
  refine W.newcK hx hb hown (z_wd hG hW w1 rfl) (z_wd hG hW w2 rfl) (z_wd hG hW w3 rfl) rfl d1 hk.1 hk.2 hKn.2.1 rfl fun H1 kC hkC e1 z1 o1 => ?_
  obtain ⟨g1, g2⟩ := hR.push (c := z_ob ci fs) ⟨_, hc, (u_born ty (z_lay (args := args) hG hW hws) (fun w hw => hw) hKn hkC e1 hty).to hfs⟩ z1 o1
  exact kk H.size g2 H1 locs lsA g1 hL hlv
theorem z_objInit {a ix : Nat} (hY : z_ok Y d M) (dd : z_at M pc (.invokespecial ix) 3 pc' ∧ Cond.methodLink M.1.cls ix objectInit ∈ lw_tbl) (hw : Cond.instanceMethod objectInit ∈ lw_tbl ∧ Cond.code objectInit ⟨#[0xb1]⟩ 1 none ∈ lw_tbl) (hst : st.length ≤ 3) (kk : z_W Y pc' ls st h k n) : z_W Y pc ls (.ref a :: st) h k n := by
  obtain ⟨G, ⟨p, e, R, s, m, args, below, meth, c⟩, nL, mc, ms, φ, ψ⟩ := Y
  obtain ⟨hG, hx, hb, hml, -, hown, -, -, hW, -, hRm, -⟩ := hY
  obtain ⟨⟨d1, rfl⟩, w1⟩ := dd
  subst hRm
  intro H locs lsA hR hL hlv
  have hsum : ∀ l : List Value, (l.map fun v => v.category).sum ≤ 2 * l.length := by
    intro l
    induction l with
    | nil => simp
    | cons v l ih =>
      simp only [List.map_cons, List.sum_cons, List.length_cons]
      have := lv_cat v
      omega
  have := hsum st
  refine W.objInit hx hb hown (z_wd hG hW w1 rfl) (z_wd hG hW hw.1 rfl) (z_wd hG hW hw.2 rfl) rfl (by rw [hml]; exact hlv.1) rfl d1 (by show 1 ≤ 7 + d; omega) (by show 2 * 0 + _ + 12 ≤ 110 + 50 * d; omega) ?_
  exact kk H locs lsA hR hL hlv
-- ends
theorem z_ireturn {r : Int} (hY : z_ok Y d M) (dd : z_at M pc .ireturn 1 pc') (hret : M.2.2.2 = some .int) (hφ : z_φ Y (some (z_i r)) h) (hk : k ≤ z_mc Y ∧ n ≤ z_ms Y) : z_W Y pc ls [z_i r] h k n := by
  obtain ⟨G, ⟨p, e, R, s, m, args, below, meth, c⟩, nL, mc, ms, φ, ψ⟩ := Y
  obtain ⟨hG, hx, hb, -, -, -, hr, hlocks, -⟩ := hY
  obtain ⟨d1, rfl⟩ := dd
  intro H locs lsA hR hL hlv
  refine W.widen hk.1 hk.2 (vx_ret ?_)
  exact W.iret hx hb (by rw [hr, hret]) (fun t ht _ => ⟨_, h, rfl, hφ, by rw [ht]; exact hR⟩) hL d1 hlocks
theorem z_zreturn {r : Int} (hY : z_ok Y d M) (dd : z_at M pc .ireturn 1 pc') (hret : M.2.2.2 = some .boolean) (h01 : r = 0 ∨ r = 1) (hφ : z_φ Y (some (z_i r)) h) (hk : k ≤ z_mc Y ∧ n ≤ z_ms Y) : z_W Y pc ls [z_i r] h k n := by
  obtain ⟨G, ⟨p, e, R, s, m, args, below, meth, c⟩, nL, mc, ms, φ, ψ⟩ := Y
  obtain ⟨hG, hx, hb, -, -, -, hr, hlocks, -⟩ := hY
  obtain ⟨d1, rfl⟩ := dd
  intro H locs lsA hR hL hlv
  refine W.widen hk.1 hk.2 (vx_ret ?_)
  have hnar : narrow .boolean (.int (Int32.ofInt r)) = .int (Int32.ofInt r) := by rcases h01 with rfl | rfl <;> decide +kernel
  exact W.zret hx hb (by rw [hr, hret]) hnar (fun t ht _ => ⟨_, h, rfl, hφ, by rw [ht]; exact hR⟩) hL d1 hlocks
theorem z_return (hY : z_ok Y d M) (dd : z_at M pc .return_ 1 pc') (hret : M.2.2.2 = none) (hφ : z_φ Y none h) (hk : k ≤ z_mc Y ∧ n ≤ z_ms Y) : z_W Y pc ls [] h k n := by
  obtain ⟨G, ⟨p, e, R, s, m, args, below, meth, c⟩, nL, mc, ms, φ, ψ⟩ := Y
  obtain ⟨hG, hx, hb, -, -, -, hr, hlocks, -⟩ := hY
  obtain ⟨d1, rfl⟩ := dd
  intro H locs lsA hR hL hlv
  refine W.widen hk.1 hk.2 (vx_ret ?_)
  exact W.vret hx hb (by rw [hr, hret]) (fun t ht _ => ⟨_, h, rfl, hφ, by rw [ht]; exact hR⟩) hL d1 hlocks
theorem z_areturn {a : Nat} (hY : z_ok Y d M) (dd : z_at M pc .areturn 1 pc') (hret : ∃ rt, M.2.2.2 = some rt ∧ ((∃ n, rt = .object n) ∨ ∃ t, rt = .array t)) (hφ : z_φ Y (some (.ref a)) h) (hk : k ≤ z_mc Y ∧ n ≤ z_ms Y) : z_W Y pc ls [.ref a] h k n := by
  obtain ⟨G, ⟨p, e, R, s, m, args, below, meth, c⟩, nL, mc, ms, φ, ψ⟩ := Y
  obtain ⟨hG, hx, hb, -, -, -, hr, hlocks, -⟩ := hY
  obtain ⟨d1, rfl⟩ := dd
  obtain ⟨rt, hret, hrt⟩ := hret
  intro H locs lsA hR hL hlv
  refine W.widen hk.1 hk.2 (vx_ret ?_)
  exact W.aret hx hb (by rw [hr, hret]) hrt (Or.inr ⟨a, rfl⟩) (fun t ht _ => ⟨_, h, rfl, hφ, by rw [ht]; exact hR⟩) hL d1 hlocks
-- the contract out of the walk of the body
theorem z_ofW {l : Launch} {y : MethodName} {ws ws' : List Cond} {rm : Room} {Pc : Array Value → State → Prop} {Qc : Array Value → State → Outcome → State → Prop} {XC : String → State → State → Prop} {mc ms : Nat} {free : Addr → Prop} {cc : ByteArray} {maxL : Nat} {ret : Option FieldType}
    (hy : plainFor y = true) (hw : ws = Cond.code y cc maxL ret :: ws')
    (body : ∀ p e s m args below meth c s₁, BodyLoose p l y (headSpec ws rm) cc maxL ret e s m args below meth c s₁ → c.maxLocals = maxL → (∀ x ∈ c.exceptionTable.toList, False) → Pc args s →
      W p l e (headSpec ws rm).room s m args below meth c s.heap [] 0 0 (vx_MQ below Qc XC args s mc ms free) (entryFrame m args maxL)) : vx_Met l y ws rm Pc Qc XC mc ms free := by
  refine MetFree.of_bodySF (code := cc) (maxLocals := maxL) (ret := ret) hy ?_ ?_
  · intro args s m h hn
    obtain ⟨meth, c, h1, h2, h3, h4, h5, h6, -, -⟩ := Cond.code_spec hn (atoms_spec (ws := ws) h _ (by rw [hw]; exact List.mem_cons_self))
    exact ⟨meth, c, h1, h2, h3, h4, h5, h6⟩
  · intro p e s m args below meth c s₁ B hml hP _
    have hh0 : s₁.heap = s.heap := by rw [B.state]; rfl
    have ht : ∀ x ∈ c.exceptionTable.toList, False := by
      obtain ⟨meth9, c9, h1, h2, -, -, -, -, h7, -⟩ := Cond.code_spec B.named (atoms_spec (ws := ws) B.pre _ (by rw [hw]; exact List.mem_cons_self))
      cases Option.some.inj (h1.symm.trans B.method)
      cases Option.some.inj (h2.symm.trans (Stand.of_body B).code)
      intro x hx
      rw [Array.isEmpty_iff.mp h7] at hx
      cases hx
    obtain ⟨t, a1, o, b1, b2, b3⟩ := body p e s m args below meth c s₁ B hml ht hP s₁ hh0 (Stand.of_body B)
    exact ⟨t, o, a1, b1, b2, b3⟩
theorem z_T_of {G : z_G} {As : List Value} {ls0 : List (Nat × Value)} {mc ms : Nat} {φ : Option Value → z_H → Prop} {ψ : String → z_H → Prop} (hG : z_OK G) (hpl : plainFor M.1 = true) (hn : (lg_sl As).length ≤ M.2.2.1) (hls : lv_args 0 As = ls0)
    (body : ∀ Y : z_Y, z_ok Y d M → z_gg Y = G → z_mc Y = mc → z_ms Y = ms → z_φ Y = φ → z_ψ Y = ψ → z_W Y 0 ls0 [] h 0 0) : z_T G M As h d mc ms φ ψ := by
  refine z_ofW (cc := M.2.1) (maxL := M.2.2.1) (ret := M.2.2.2) hpl rfl ?_
  intro p e s m args below meth c s₁ B hml hno hv
  obtain ⟨rfl, hR, hW⟩ := hv
  have hlo : z_lo G s := ⟨hR.2.1, hR.2.2⟩
  have hown : s.vm.findClass M.1.cls = some m.cls := findClass_of_methodNamed B.named
  have Kb := body (G, (p, e, z_rm d mc ms, s, m, As.toArray, below, meth, c), M.2.2.1, mc, ms, φ, ψ)
    ⟨hG, B.exec, B.bytes, hml, rfl, hown, B.returns, B.notSynchronized, hW, (fun _ _ _ => hno), rfl, hlo, (name_of_methodNamed B.named B.method).1⟩ rfl rfl rfl rfl rfl
  have hl := lv_entry As hn
  rw [lg_entry_eq]
  refine Kb s.heap [] _ hR (fun q hq => by cases hq) ?_
  rw [← hls]
  exact hl
end ZM
