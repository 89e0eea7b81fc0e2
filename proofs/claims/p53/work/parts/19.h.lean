/-! Doubles and floats; the model's start (laid by wip/whole/gen/gm7.py). -/
section FPS
theorem z_n64 {r : UInt64} (h : FP.Core.dIsNaN r = false) : vf_n64 r := by
  have h1 : ¬ 9218868437227405312 < r.toNat % 2 ^ 63 := fun q => by
    rw [(FP.Core.isNaN_bits r).mpr q] at h
    cases h
  unfold vf_n64
  rw [UInt64.le_iff_toNat_le, UInt64.toNat_and]
  show r.toNat &&& (2 ^ 63 - 1) ≤ 9218868437227405312
  rw [Nat.and_two_pow_sub_one_eq_mod]
  omega
theorem z_n32 {r : UInt32} (h : FP.Core.fIsNaN r = false) : vf_n32 r := by
  have h1 : ¬ 2139095040 < r.toNat % 2 ^ 31 := fun q => by
    rw [(FP.Core.isNaN_bits32 r).mpr q] at h
    cases h
  unfold vf_n32
  rw [UInt32.le_iff_toNat_le, UInt32.toNat_and]
  show r.toNat &&& (2 ^ 31 - 1) ≤ 2139095040
  rw [Nat.and_two_pow_sub_one_eq_mod]
  omega
theorem z_ne0 {y : Int} (hy : -2147483648 ≤ y ∧ y ≤ 2147483647 ∧ y ≠ 0) : (Int32.ofInt y) ≠ 0 := by
  intro e
  rw [z_0, z_eq (by omega)] at e
  omega
theorem z_nd (x : Int) {y : Int} (hy : -2147483648 ≤ y ∧ y ≤ 2147483647 ∧ y ≠ 0) : FP.Core.dIsNaN (FP.ddiv (FP.i2d (Int32.ofInt x)) (FP.i2d (Int32.ofInt y))) = false :=
  FP.Core.ddiv_out (a := FP.i2d (Int32.ofInt x)) (b := FP.i2d (Int32.ofInt y)) (FP.Core.i2d_fin _).notNaN (FP.Core.i2d_fin _) (fun h => FP.Core.i2d_ne_zero (z_ne0 hy) ((FP.Core.zero_bits2 _).mp h))
theorem z_nf (x : Int) {y : Int} (hy : -2147483648 ≤ y ∧ y ≤ 2147483647 ∧ y ≠ 0) : FP.Core.fIsNaN (FP.fdiv (FP.i2f (Int32.ofInt x)) (FP.i2f (Int32.ofInt y))) = false :=
  FP.Core.fdiv_out (a := FP.i2f (Int32.ofInt x)) (b := FP.i2f (Int32.ofInt y)) (FP.Core.i2f_fin _).notNaN (FP.Core.i2f_fin _) (fun h => FP.Core.i2f_ne_zero (z_ne0 hy) ((FP.Core.zero_bits232 _).mp h))
def z_dq (x y : Int) : UInt64 := FP.ddiv (FP.i2d (Int32.ofInt x)) (FP.i2d (Int32.ofInt y))
def z_fq (x y : Int) : UInt32 := FP.fdiv (FP.i2f (Int32.ofInt x)) (FP.i2f (Int32.ofInt y))
variable {Y : z_Y} {d : Nat} {M : z_M} {pc pc' : Nat} {ls ls' : List (Nat × Value)} {st st' : List Value} {h : z_H} {k n : Nat}
theorem z_dconst0 (hY : z_ok Y d M) (dd : z_at M pc (.dconst 0) 1 pc') (kk : z_W Y pc' ls (.double FP.dconst0 :: st) h k n) : z_W Y pc ls st h k n :=
  z_lift hY (fun p l e R s m args below meth c H locs cells slots Q lsA hx hb kk => by obtain ⟨d1, rfl⟩ := dd; exact lv_dconst0 hx hb d1 kk) kk
theorem z_fconst0 (hY : z_ok Y d M) (dd : z_at M pc (.fconst 0) 1 pc') (kk : z_W Y pc' ls (.float FP.fconst0 :: st) h k n) : z_W Y pc ls st h k n :=
  z_lift hY (fun p l e R s m args below meth c H locs cells slots Q lsA hx hb kk => by obtain ⟨d1, rfl⟩ := dd; exact lv_fconst0 hx hb d1 kk) kk
theorem z_i2d {a : Int} (hY : z_ok Y d M) (dd : z_at M pc .i2d 1 pc') (kk : z_W Y pc' ls (.double (FP.i2d (Int32.ofInt a)) :: st) h k n) : z_W Y pc ls (z_i a :: st) h k n :=
  z_lift hY (fun p l e R s m args below meth c H locs cells slots Q lsA hx hb kk => by obtain ⟨d1, rfl⟩ := dd; exact lv_i2d hx hb d1 kk) kk
theorem z_i2f {a : Int} (hY : z_ok Y d M) (dd : z_at M pc .i2f 1 pc') (kk : z_W Y pc' ls (.float (FP.i2f (Int32.ofInt a)) :: st) h k n) : z_W Y pc ls (z_i a :: st) h k n :=
  z_lift hY (fun p l e R s m args below meth c H locs cells slots Q lsA hx hb kk => by obtain ⟨d1, rfl⟩ := dd; exact lv_i2f hx hb d1 kk) kk
theorem z_ddiv {x y : Int} (hY : z_ok Y d M) (dd : z_at M pc .ddiv 1 pc') (hy : -2147483648 ≤ y ∧ y ≤ 2147483647 ∧ y ≠ 0) (kk : z_W Y pc' ls (.double (z_dq x y) :: st) h k n) : z_W Y pc ls (.double (FP.i2d (Int32.ofInt y)) :: .double (FP.i2d (Int32.ofInt x)) :: st) h k n :=
  z_lift hY (fun p l e R s m args below meth c H locs cells slots Q lsA hx hb kk => by obtain ⟨d1, rfl⟩ := dd; exact lv_ddiv hx hb d1 (z_n64 (z_nd x hy)) kk) kk
theorem z_fdiv {x y : Int} (hY : z_ok Y d M) (dd : z_at M pc .fdiv 1 pc') (hy : -2147483648 ≤ y ∧ y ≤ 2147483647 ∧ y ≠ 0) (kk : z_W Y pc' ls (.float (z_fq x y) :: st) h k n) : z_W Y pc ls (.float (FP.i2f (Int32.ofInt y)) :: .float (FP.i2f (Int32.ofInt x)) :: st) h k n :=
  z_lift hY (fun p l e R s m args below meth c H locs cells slots Q lsA hx hb kk => by obtain ⟨d1, rfl⟩ := dd; exact lv_fdiv hx hb d1 (z_n32 (z_nf x hy)) kk) kk
theorem z_dreturn {r : UInt64} (hY : z_ok Y d M) (dd : z_at M pc .dreturn 1 pc') (hret : M.2.2.2 = some .double) (hφ : z_φ Y (some (.double r)) h) (hk : k ≤ z_mc Y ∧ n ≤ z_ms Y) : z_W Y pc ls [.double r] h k n := by
  obtain ⟨G, ⟨p, e, R, s, m, args, below, meth, c⟩, nL, mc, ms, φ, ψ⟩ := Y
  obtain ⟨hG, hx, hb, -, -, -, hr, hlocks, -⟩ := hY
  obtain ⟨d1, rfl⟩ := dd
  intro H locs lsA hR hL hlv
  refine W.widen hk.1 hk.2 (vx_ret ?_)
  exact W.dret hx hb (by rw [hr, hret]) (fun t ht _ => ⟨_, h, rfl, hφ, by rw [ht]; exact hR⟩) hL d1 hlocks
theorem z_freturn {r : UInt32} (hY : z_ok Y d M) (dd : z_at M pc .freturn 1 pc') (hret : M.2.2.2 = some .float) (hφ : z_φ Y (some (.float r)) h) (hk : k ≤ z_mc Y ∧ n ≤ z_ms Y) : z_W Y pc ls [.float r] h k n := by
  obtain ⟨G, ⟨p, e, R, s, m, args, below, meth, c⟩, nL, mc, ms, φ, ψ⟩ := Y
  obtain ⟨hG, hx, hb, -, -, -, hr, hlocks, -⟩ := hY
  obtain ⟨d1, rfl⟩ := dd
  intro H locs lsA hR hL hlv
  refine W.widen hk.1 hk.2 (vx_ret ?_)
  exact W.fret hx hb (by rw [hr, hret]) (fun t ht _ => ⟨_, h, rfl, hφ, by rw [ht]; exact hR⟩) hL d1 hlocks
-- a heap with a list of new cells
def z_sets : List (Nat × va_E) → z_H → z_H
  | [], h => h
  | q :: l, h => z_set (z_sets l h) q.1 q.2
theorem z_set_o {h : z_H} {a : Nat} {c c' : va_E} : z_set (z_set h a c) a c' = z_set h a c' := by
  funext x
  unfold z_set
  split <;> rfl
theorem z_set_c {h : z_H} {a b : Nat} {c c' : va_E} (hab : a ≠ b) : z_set (z_set h a c) b c' = z_set (z_set h b c') a c := by
  funext x
  unfold z_set
  by_cases h1 : x = b
  · rw [if_pos h1, if_neg (fun e => hab (e.symm.trans h1)), if_pos h1]
  · rw [if_neg h1, if_neg h1]
theorem z_set_s {h : z_H} {a : Nat} {c : va_E} (ha : h a = some c) : z_set h a c = h := by
  funext x
  unfold z_set
  split
  · rename_i e; rw [e, ha]
  · rfl
theorem z_set_at {h : z_H} {a : Nat} {c : va_E} : z_set h a c a = some c := if_pos rfl
theorem z_set_ne {h : z_H} {a b : Nat} {c : va_E} (e : b ≠ a) : z_set h a c b = h b := if_neg e
theorem z_set_new {h : z_H} {a b : Nat} {c : va_E} (hn : z_set h a c b = none) : b ≠ a ∧ h b = none := by
  unfold z_set at hn
  split at hn
  · cases hn
  · rename_i e; exact ⟨e, hn⟩
theorem z_sets_new {h : z_H} {b : Nat} : ∀ l : List (Nat × va_E), z_sets l h b = none → (∀ q ∈ l, b ≠ q.1) ∧ h b = none := by
  intro l
  induction l with
  | nil => intro hn; exact ⟨fun q hq => (List.not_mem_nil hq).elim, hn⟩
  | cons q l ih =>
    intro hn
    obtain ⟨h1, h2⟩ := z_set_new hn
    obtain ⟨h3, h4⟩ := ih h2
    exact ⟨fun r hr => by rcases List.mem_cons.mp hr with rfl | hr; exact h1; exact h3 r hr, h4⟩
theorem z_sets_snoc {h : z_H} {a : Nat} {c : va_E} : ∀ l : List (Nat × va_E), (∀ q ∈ l, a ≠ q.1) → z_set (z_sets l h) a c = z_sets (l ++ [(a, c)]) h := by
  intro l
  induction l with
  | nil => intro _; rfl
  | cons q l ih =>
    intro hq
    show z_set (z_set (z_sets l h) q.1 q.2) a c = z_set (z_sets (l ++ [(a, c)]) h) q.1 q.2
    rw [z_set_c (fun e => hq q List.mem_cons_self e.symm), ih (fun r hr => hq r (List.mem_cons_of_mem _ hr))]
theorem z_inj {A : Nat → Nat} : ∀ l : List Nat, (l.map A).Nodup → ∀ i ∈ l, ∀ j ∈ l, A i = A j → i = j := by
  intro l
  induction l with
  | nil => intro _ i hi; cases hi
  | cons a l ih =>
    intro hn i hi j hj e
    rw [List.map_cons, List.nodup_cons] at hn
    rcases List.mem_cons.mp hi with e1 | hi
    · rcases List.mem_cons.mp hj with e2 | hj
      · rw [e1, e2]
      · refine absurd ?_ hn.1
        rw [← e1, e]
        exact List.mem_map_of_mem hj
    · rcases List.mem_cons.mp hj with e2 | hj
      · refine absurd ?_ hn.1
        rw [← e2, ← e]
        exact List.mem_map_of_mem hi
      · exact ih hn.2 i hi j hj e
/-- the model's first state, before and behind the constructor's body -/
def yI0 : z_S := fun k _ => if k = 3 then -1 else if k = 26 then 2 else if k = 27 then 3 else 0
def yI1 : z_S := z_u (z_u (z_u yI0 12 0 1) 8 0 1) 10 0 1
theorem wOI : Cond.instanceMethod objectInit ∈ lw_tbl := z_in1 (List.mem_of_getElem? (i := 154) rfl)
theorem wOC : Cond.code objectInit ⟨#[0xb1]⟩ 1 none ∈ lw_tbl := z_in1 (List.mem_of_getElem? (i := 155) rfl)
theorem wAI : Cond.arrayClass .int ∈ lw_tbl := z_in1 (List.mem_of_getElem? (i := 175) rfl)
theorem wAZ : Cond.arrayClass .boolean ∈ lw_tbl := z_in2 (List.mem_of_getElem? (i := 214) rfl)
def yMs (σ : z_S) : Int := z_sm (fun o => if σ 18 o ≠ 0 then σ 14 (4 * o) else 0) (σ 19 0)
def yMp (σ : z_S) : UInt64 := if my σ = 0 then FP.dconst0 else z_dq (yMs σ) (my σ)
def yBf (σ : z_S) (e : Int) : UInt32 := if my σ - 1 = 0 then FP.fconst0 else z_fq (my σ - bt σ e - al σ e) (my σ - 1)
end FPS
