/-! Doubles and floats; the model's start (laid by wip/whole/gen/gm7.py). -/
section FPS
theorem z_n64 {r : UInt64} (h : FP.Core.dIsNaN r = false) : vf_n64 r := by
  have h1 : ¬ 9218868437227405312 < r.toNat % 2 ^ 63 := fun q => by
    rw [(FP.Core.isNaN_bits r).mpr q] at h
    cases h
  unfold vf_n64
  rw [UInt64.le_iff_toNat_le, UInt64.toNat_and]
  show r.toNat &&& (2 ^ 63 - 1) ≤ 9218868437227405312
  rw [Nat.and_two_pow_sub_one_eq_mod]
  omega
theorem z_n32 {r : UInt32} (h : FP.Core.fIsNaN r = false) : vf_n32 r := by
  have h1 : ¬ 2139095040 < r.toNat % 2 ^ 31 := fun q => by
    rw [(FP.Core.isNaN_bits32 r).mpr q] at h
    cases h
  unfold vf_n32
  rw [UInt32.le_iff_toNat_le, UInt32.toNat_and]
  show r.toNat &&& (2 ^ 31 - 1) ≤ 2139095040
  rw [Nat.and_two_pow_sub_one_eq_mod]
  omega
theorem z_ne0 {y : Int} (hy : -2147483648 ≤ y ∧ y ≤ 2147483647 ∧ y ≠ 0) : (Int32.ofInt y) ≠ 0 := by
  intro e
  rw [z_0, z_eq (by omega)] at e
  omega
theorem z_nd (x : Int) {y : Int} (hy : -2147483648 ≤ y ∧ y ≤ 2147483647 ∧ y ≠ 0) : FP.Core.dIsNaN (FP.ddiv (FP.i2d (Int32.ofInt x)) (FP.i2d (Int32.ofInt y))) = false :=
  FP.Core.ddiv_out (a := FP.i2d (Int32.ofInt x)) (b := FP.i2d (Int32.ofInt y)) (FP.Core.i2d_fin _).notNaN (FP.Core.i2d_fin _) (fun h => FP.Core.i2d_ne_zero (z_ne0 hy) ((FP.Core.zero_bits2 _).mp h))
theorem z_nf (x : Int) {y : Int} (hy : -2147483648 ≤ y ∧ y ≤ 2147483647 ∧ y ≠ 0) : FP.Core.fIsNaN (FP.fdiv (FP.i2f (Int32.ofInt x)) (FP.i2f (Int32.ofInt y))) = false :=
  FP.Core.fdiv_out (a := FP.i2f (Int32.ofInt x)) (b := FP.i2f (Int32.ofInt y)) (FP.Core.i2f_fin _).notNaN (FP.Core.i2f_fin _) (fun h => FP.Core.i2f_ne_zero (z_ne0 hy) ((FP.Core.zero_bits232 _).mp h))
def z_dq (x y : Int) : UInt64 := FP.ddiv (FP.i2d (Int32.ofInt x)) (FP.i2d (Int32.ofInt y))
def z_fq (x y : Int) : UInt32 := FP.fdiv (FP.i2f (Int32.ofInt x)) (FP.i2f (Int32.ofInt y))
variable {Y : z_Y} {d : Nat} {M : z_M} {pc pc' : Nat} {ls ls' : List (Nat × Value)} {st st' : List Value} {h : z_H} {k n : Nat}
theorem z_dconst0 (hY : z_ok Y d M) (dd : z_at M pc (.dconst 0) 1 pc') (kk : z_W Y pc' ls (.double FP.dconst0 :: st) h k n) : z_W Y pc ls st h k n :=
  z_lift hY (fun p l e R s m args below meth c H locs cells slots Q lsA hx hb kk => by obtain ⟨d1, rfl⟩ := dd; exact lv_dconst0 hx hb d1 kk) kk
theorem z_fconst0 (hY : z_ok Y d M) (dd : z_at M pc (.fconst 0) 1 pc') (kk : z_W Y pc' ls (.float FP.fconst0 :: st) h k n) : z_W Y pc ls st h k n :=
  z_lift hY (fun p l e R s m args below meth c H locs cells slots Q lsA hx hb kk => by obtain ⟨d1, rfl⟩ := dd; exact lv_fconst0 hx hb d1 kk) kk
theorem z_i2d {a : Int} (hY : z_ok Y d M) (dd : z_at M pc .i2d 1 pc') (kk : z_W Y pc' ls (.double (FP.i2d (Int32.ofInt a)) :: st) h k n) : z_W Y pc ls (z_i a :: st) h k n :=
  z_lift hY (fun p l e R s m args below meth c H locs cells slots Q lsA hx hb kk => by obtain ⟨d1, rfl⟩ := dd; exact lv_i2d hx hb d1 kk) kk
theorem z_i2f {a : Int} (hY : z_ok Y d M) (dd : z_at M pc .i2f 1 pc') (kk : z_W Y pc' ls (.float (FP.i2f (Int32.ofInt a)) :: st) h k n) : z_W Y pc ls (z_i a :: st) h k n :=
  z_lift hY (fun p l e R s m args below meth c H locs cells slots Q lsA hx hb kk => by obtain ⟨d1, rfl⟩ := dd; exact lv_i2f hx hb d1 kk) kk
theorem z_ddiv {x y : Int} (hY : z_ok Y d M) (dd : z_at M pc .ddiv 1 pc') (hy : -2147483648 ≤ y ∧ y ≤ 2147483647 ∧ y ≠ 0) (kk : z_W Y pc' ls (.double (z_dq x y) :: st) h k n) : z_W Y pc ls (.double (FP.i2d (Int32.ofInt y)) :: .double (FP.i2d (Int32.ofInt x)) :: st) h k n :=
  z_lift hY (fun p l e R s m args below meth c H locs cells slots Q lsA hx hb kk => by obtain ⟨d1, rfl⟩ := dd; exact lv_ddiv hx hb d1 (z_n64 (z_nd x hy)) kk) kk
theorem z_fdiv {x y : Int} (hY : z_ok Y d M) (dd : z_at M pc .fdiv 1 pc') (hy : -2147483648 ≤ y ∧ y ≤ 2147483647 ∧ y ≠ 0) (kk : z_W Y pc' ls (.float (z_fq x y) :: st) h k n) : z_W Y pc ls (.float (FP.i2f (Int32.ofInt y)) :: .float (FP.i2f (Int32.ofInt x)) :: st) h k n :=
  z_lift hY (fun p l e R s m args below meth c H locs cells slots Q lsA hx hb kk => by obtain ⟨d1, rfl⟩ := dd; exact lv_fdiv hx hb d1 (z_n32 (z_nf x hy)) kk) kk
theorem z_dreturn {r : UInt64} (hY : z_ok Y d M) (dd : z_at M pc .dreturn 1 pc') (hret : M.2.2.2 = some .double) (hφ : z_φ Y (some (.double r)) h) (hk : k ≤ z_mc Y ∧ n ≤ z_ms Y) : z_W Y pc ls [.double r] h k n := by
  obtain ⟨G, ⟨p, e, R, s, m, args, below, meth, c⟩, nL, mc, ms, φ, ψ⟩ := Y
  obtain ⟨hG, hx, hb, -, -, -, hr, hlocks, -⟩ := hY
  obtain ⟨d1, rfl⟩ := dd
  intro H locs lsA hR hL hlv
  refine W.widen hk.1 hk.2 (vx_ret ?_)
  exact W.dret hx hb (by rw [hr, hret]) (fun t ht _ => ⟨_, h, rfl, hφ, by rw [ht]; exact hR⟩) hL d1 hlocks
theorem z_freturn {r : UInt32} (hY : z_ok Y d M) (dd : z_at M pc .freturn 1 pc') (hret : M.2.2.2 = some .float) (hφ : z_φ Y (some (.float r)) h) (hk : k ≤ z_mc Y ∧ n ≤ z_ms Y) : z_W Y pc ls [.float r] h k n := by
  obtain ⟨G, ⟨p, e, R, s, m, args, below, meth, c⟩, nL, mc, ms, φ, ψ⟩ := Y
  obtain ⟨hG, hx, hb, -, -, -, hr, hlocks, -⟩ := hY
  obtain ⟨d1, rfl⟩ := dd
  intro H locs lsA hR hL hlv
  refine W.widen hk.1 hk.2 (vx_ret ?_)
  exact W.fret hx hb (by rw [hr, hret]) (fun t ht _ => ⟨_, h, rfl, hφ, by rw [ht]; exact hR⟩) hL d1 hlocks
-- a heap with a list of new cells
def z_sets : List (Nat × va_E) → z_H → z_H
  | [], h => h
  | q :: l, h => z_set (z_sets l h) q.1 q.2
theorem z_set_o {h : z_H} {a : Nat} {c c' : va_E} : z_set (z_set h a c) a c' = z_set h a c' := by
  funext x
  unfold z_set
  split <;> rfl
theorem z_set_c {h : z_H} {a b : Nat} {c c' : va_E} (hab : a ≠ b) : z_set (z_set h a c) b c' = z_set (z_set h b c') a c := by
  funext x
  unfold z_set
  by_cases h1 : x = b
  · rw [if_pos h1, if_neg (fun e => hab (e.symm.trans h1)), if_pos h1]
  · rw [if_neg h1, if_neg h1]
theorem z_set_s {h : z_H} {a : Nat} {c : va_E} (ha : h a = some c) : z_set h a c = h := by
  funext x
  unfold z_set
  split
  · rename_i e; rw [e, ha]
  · rfl
theorem z_set_at {h : z_H} {a : Nat} {c : va_E} : z_set h a c a = some c := if_pos rfl
theorem z_set_ne {h : z_H} {a b : Nat} {c : va_E} (e : b ≠ a) : z_set h a c b = h b := if_neg e
theorem z_set_new {h : z_H} {a b : Nat} {c : va_E} (hn : z_set h a c b = none) : b ≠ a ∧ h b = none := by
  unfold z_set at hn
  split at hn
  · cases hn
  · rename_i e; exact ⟨e, hn⟩
theorem z_sets_new {h : z_H} {b : Nat} : ∀ l : List (Nat × va_E), z_sets l h b = none → (∀ q ∈ l, b ≠ q.1) ∧ h b = none := by
  intro l
  induction l with
  | nil => intro hn; exact ⟨fun q hq => (List.not_mem_nil hq).elim, hn⟩
  | cons q l ih =>
    intro hn
    obtain ⟨h1, h2⟩ := z_set_new hn
    obtain ⟨h3, h4⟩ := ih h2
    exact ⟨fun r hr => by rcases List.mem_cons.mp hr with rfl | hr; exact h1; exact h3 r hr, h4⟩
theorem z_sets_snoc {h : z_H} {a : Nat} {c : va_E} : ∀ l : List (Nat × va_E), (∀ q ∈ l, a ≠ q.1) → z_set (z_sets l h) a c = z_sets (l ++ [(a, c)]) h := by
  intro l
  induction l with
  | nil => intro _; rfl
  | cons q l ih =>
    intro hq
    show z_set (z_set (z_sets l h) q.1 q.2) a c = z_set (z_sets (l ++ [(a, c)]) h) q.1 q.2
    rw [z_set_c (fun e => hq q List.mem_cons_self e.symm), ih (fun r hr => hq r (List.mem_cons_of_mem _ hr))]
theorem z_inj {A : Nat → Nat} : ∀ l : List Nat, (l.map A).Nodup → ∀ i ∈ l, ∀ j ∈ l, A i = A j → i = j := by
  intro l
  induction l with
  | nil => intro _ i hi; cases hi
  | cons a l ih =>
    intro hn i hi j hj e
    rw [List.map_cons, List.nodup_cons] at hn
    rcases List.mem_cons.mp hi with e1 | hi
    · rcases List.mem_cons.mp hj with e2 | hj
      · rw [e1, e2]
      · refine absurd ?_ hn.1
        rw [← e1, e]
        exact List.mem_map_of_mem hj
    · rcases List.mem_cons.mp hj with e2 | hj
      · refine absurd ?_ hn.1
        rw [← e2, ← e]
        exact List.mem_map_of_mem hi
      · exact ih hn.2 i hi j hj e
/-- the model's first state, before and behind the constructor's body -/
def yI0 : z_S := fun k _ => if k = 3 then -1 else if k = 26 then 2 else if k = 27 then 3 else 0
def yI1 : z_S := z_u (z_u (z_u yI0 12 0 1) 8 0 1) 10 0 1
theorem wOI : Cond.instanceMethod objectInit ∈ lw_tbl := w1_39
theorem wOC : Cond.code objectInit ⟨#[0xb1]⟩ 1 none ∈ lw_tbl := w1_40
theorem wAI : Cond.arrayClass .int ∈ lw_tbl := w1_55
theorem wAZ : Cond.arrayClass .boolean ∈ lw_tbl := w7_80

def yMs (σ : z_S) : Int := z_sm (fun o => if σ 18 o ≠ 0 then σ 14 (4 * o) else 0) (σ 19 0)
def yMp (σ : z_S) : UInt64 := if my σ = 0 then FP.dconst0 else z_dq (yMs σ) (my σ)
def yBf (σ : z_S) (e : Int) : UInt32 := if my σ - 1 = 0 then FP.fconst0 else z_fq (my σ - bt σ e - al σ e) (my σ - 1)
theorem p_meanPoints {G : z_G} {A : Nat → Nat} {σ τ : z_S} {h : z_H} (hτ : z_u σ 0 0 0 = τ) (hG : z_OK G) (hA : mI A) (hB : mB τ) (hV : mV τ) : z_T G mX8_meanPoints [.ref (A 40)] (mH A σ h) 2 0 0 (fun v h' => v = some (.double (yMp τ)) ∧ h' = mH A τ h) (z_no) := by
  have h00 : τ 0 0 = 0 := by rw [← hτ]; rfl
  obtain ⟨hf, hsc, hcm, hcr, hth, hgr, hlm, hld, hlo, hro, htm, hre, hpa, htp, hgp⟩ := id hV
  refine z_T_of hG pX8_meanPoints (Nat.le_of_ble_eq_true rfl) (ls0 := [(0, .ref (A 40))]) rfl fun Y hY hg hmc hms hφ hψ => ?_
  subst hg
  refine z_aload hY eX8_meanPoints_0 0 rfl ?_
  refine z_const hY eX8_meanPoints_1 ?_
  refine m_pf hY hA eX8_meanPoints_2 (by decide) ?_
  rw [hτ]
  refine z_const hY eX8_meanPoints_5 ?_
  refine z_istore hY eX8_meanPoints_6 (ls' := [(1, z_i 0), (0, .ref (A 40))]) rfl ?_
  refine z_const hY eX8_meanPoints_7 ?_
  refine z_istore hY eX8_meanPoints_8 (ls' := [(2, z_i 0), (1, z_i 0), (0, .ref (A 40))]) rfl ?_
  refine z_sub [2, 0, 1] (ls' := [(0, .ref (A 40)), (2, z_i 0), (1, z_i 0)]) rfl ?_
  have lp9 : ∀ (fu : Nat) (o : Int) (n : Int), (τ 19 0 - o).toNat < fu → (0 ≤ o ∧ o ≤ τ 19 0) → (n = z_sm (fun o => if τ 18 o ≠ 0 then τ 14 (4 * o) else 0) o) → (-100000 * o ≤ n ∧ n ≤ 100000 * o) → z_W Y 9 [(0, .ref (A 40)), (2, z_i o), (1, z_i n)] [] (mH A τ h) 0 0 := by
    intro fu
    induction fu with
    | zero => intro o n hf; exact absurd hf (Nat.not_lt_zero _)
    | succ fu ih9 =>
      intro o n hf h0 hn hnb
      have hso := hsc (4 * o)
      refine z_iload hY eX8_meanPoints_9 1 rfl ?_
      refine z_aload hY eX8_meanPoints_10 0 rfl ?_
      have hb1 := hB 19 0
      refine m_gf hY hA eX8_meanPoints_11 (v := z_i (τ 19 0)) rfl ?_
      refine z_icmpge hY eX8_meanPoints_14 (by omega) (fun c14 => ?_) (fun c14 => ?_)
      · have e1 : yMs τ = n := by rw [hn, show o = τ 19 0 by omega]; rfl
        refine z_aload hY eX8_meanPoints_44 0 rfl ?_
        refine z_callVr (As := []) (rest := []) (r := z_i (my τ)) hY eX8_meanPoints_45 (m_many hG hA hB hV ) (mH_at hA (k := 40) (by decide)) (by decide) (Nat.le_of_ble_eq_true rfl) ⟨Nat.zero_le _, Nat.zero_le _⟩ ?_
        have hc2 := my_b hV
        refine z_ifne hY eX8_meanPoints_48 (by omega) (fun c48 => ?_) (fun c48 => ?_)
        · refine z_iload hY eX8_meanPoints_55 2 rfl ?_
          refine z_i2d hY eX8_meanPoints_56 ?_
          refine z_aload hY eX8_meanPoints_57 0 rfl ?_
          refine z_callVr (As := []) (rest := [.double (FP.i2d (Int32.ofInt n))]) (r := z_i (my τ)) hY eX8_meanPoints_58 (m_many hG hA hB hV ) (mH_at hA (k := 40) (by decide)) (by decide) (Nat.le_of_ble_eq_true rfl) ⟨Nat.zero_le _, Nat.zero_le _⟩ ?_
          have hc3 := my_b hV
          refine z_i2d hY eX8_meanPoints_61 ?_
          refine z_ddiv hY eX8_meanPoints_62 (by omega) ?_
          exact z_dreturn hY eX8_meanPoints_63 rfl (by rw [hφ]; exact ⟨congrArg (fun q => some (Value.double q)) (by unfold yMp; rw [e1]; first | exact (if_pos (by omega)).symm | exact (if_neg (by omega)).symm), rfl⟩) ⟨Nat.zero_le _, Nat.zero_le _⟩
        · refine z_dconst0 hY eX8_meanPoints_51 ?_
          refine z_goto hY eX8_meanPoints_52 ?_
          exact z_dreturn hY eX8_meanPoints_63 rfl (by rw [hφ]; exact ⟨congrArg (fun q => some (Value.double q)) (by unfold yMp; rw [e1]; first | exact (if_pos (by omega)).symm | exact (if_neg (by omega)).symm), rfl⟩) ⟨Nat.zero_le _, Nat.zero_le _⟩
      · refine z_iload hY eX8_meanPoints_17 2 rfl ?_
        refine z_aload hY eX8_meanPoints_18 0 rfl ?_
        refine m_gf hY hA eX8_meanPoints_19 (v := .ref (A 18)) rfl ?_
        refine z_iload hY eX8_meanPoints_22 1 rfl ?_
        have hb4 := hB 18 o
        refine m_bal hY hA eX8_meanPoints_23 (j := 18) (N := 30) (x := τ 18 o) (by decide) rfl (by omega) rfl ?_
        refine z_ifeq hY eX8_meanPoints_24 (by omega) (fun c24 => ?_) (fun c24 => ?_)
        · refine z_const hY eX8_meanPoints_35 ?_
          refine z_iadd hY eX8_meanPoints_36 ?_
          refine z_top (b := n) (by omega) ?_
          refine z_istore hY eX8_meanPoints_37 (ls' := [(1, z_i n), (0, .ref (A 40)), (2, z_i o)]) rfl ?_
          refine z_iinc hY eX8_meanPoints_38 2 rfl (ls' := [(2, z_i (o + 1)), (1, z_i n), (0, .ref (A 40))]) rfl ?_
          refine z_goto hY eX8_meanPoints_41 ?_
          refine z_sub [2, 0, 1] (ls' := [(0, .ref (A 40)), (2, z_i (o + 1)), (1, z_i n)]) rfl ?_
          exact ih9 (o + 1) n (by omega) (by omega) (by rw [z_smS (by omega), ← hn]; split <;> omega) (by omega)
        · refine z_aload hY eX8_meanPoints_27 0 rfl ?_
          refine z_iload hY eX8_meanPoints_28 1 rfl ?_
          refine z_callVr (As := [z_i o]) (rest := [z_i n]) (r := z_i (τ 14 (4 * o))) hY eX8_meanPoints_29 (m_points hG hA hB (by omega)) (mH_at hA (k := 40) (by decide)) (by decide) (Nat.le_of_ble_eq_true rfl) ⟨Nat.zero_le _, Nat.zero_le _⟩ ?_
          have hc5 := hB 14 (4 * o)
          refine z_goto hY eX8_meanPoints_32 ?_
          refine z_iadd hY eX8_meanPoints_36 ?_
          refine z_istore hY eX8_meanPoints_37 (ls' := [(1, z_i (n + (τ 14 (4 * o)))), (0, .ref (A 40)), (2, z_i o)]) rfl ?_
          refine z_iinc hY eX8_meanPoints_38 2 rfl (ls' := [(2, z_i (o + 1)), (1, z_i (n + (τ 14 (4 * o)))), (0, .ref (A 40))]) rfl ?_
          refine z_goto hY eX8_meanPoints_41 ?_
          refine z_sub [2, 0, 1] (ls' := [(0, .ref (A 40)), (2, z_i (o + 1)), (1, z_i (n + (τ 14 (4 * o))))]) rfl ?_
          exact ih9 (o + 1) (n + (τ 14 (4 * o))) (by omega) (by omega) (by rw [z_smS (by omega), ← hn]; split <;> omega) (by omega)
  exact lp9 _ 0 0 (Nat.lt_succ_self _) (by omega) (z_sm0 (by omega)).symm (by omega)
theorem p_beats {G : z_G} {A : Nat → Nat} {σ τ : z_S} {h : z_H} (hτ : z_u σ 0 0 0 = τ) (hG : z_OK G) (hA : mI A) (hB : mB τ) (hV : mV τ) {e : Int} (hr : -2147483648 ≤ e ∧ e ≤ 2147483647) : z_T G mX8_beats [.ref (A 40), z_i e] (mH A σ h) 4 0 0 (fun v h' => ∃ (c : Int) (r : UInt32), v = some (.float r) ∧ h' = mH A (z_u τ 0 0 c) h ∧ (if pr τ e then c = 0 ∧ r = yBf τ e else c = 1)) (z_no) := by
  have h00 : τ 0 0 = 0 := by rw [← hτ]; rfl
  obtain ⟨hf, hsc, hcm, hcr, hth, hgr, hlm, hld, hlo, hro, htm, hre, hpa, htp, hgp⟩ := id hV
  refine z_T_of hG pX8_beats (Nat.le_of_ble_eq_true rfl) (ls0 := [(0, .ref (A 40)), (1, z_i e)]) rfl fun Y hY hg hmc hms hφ hψ => ?_
  subst hg
  refine z_aload hY eX8_beats_0 0 rfl ?_
  refine z_const hY eX8_beats_1 ?_
  refine m_pf hY hA eX8_beats_2 (by decide) ?_
  rw [hτ]
  refine z_aload hY eX8_beats_5 0 rfl ?_
  refine z_iload hY eX8_beats_6 1 rfl ?_
  by_cases g1 : pr τ e
  · refine z_callVr (As := [z_i e]) (rest := []) (r := z_i 0) hY eX8_beats_7 (m_noE_t hG hA hB hV h00 (by omega) g1) (mH_at hA (k := 40) (by decide)) (by decide) (Nat.le_of_ble_eq_true rfl) ⟨Nat.zero_le _, Nat.zero_le _⟩ ?_
    refine z_ifeq hY eX8_beats_10 (by omega) (fun _ => ?_) (fun c => absurd c (by omega))
    refine z_aload hY eX8_beats_15 0 rfl ?_
    refine z_callVr (As := []) (rest := []) (r := z_i (my τ)) hY eX8_beats_16 (m_many hG hA hB hV ) (mH_at hA (k := 40) (by decide)) (by decide) (Nat.le_of_ble_eq_true rfl) ⟨Nat.zero_le _, Nat.zero_le _⟩ ?_
    have hc2 := my_b hV
    refine z_const hY eX8_beats_19 ?_
    refine z_isub hY eX8_beats_20 ?_
    refine z_istore hY eX8_beats_21 (ls' := [(2, z_i ((my τ) - 1)), (0, .ref (A 40)), (1, z_i e)]) rfl ?_
    refine z_iload hY eX8_beats_22 0 rfl ?_
    refine z_ifne hY eX8_beats_23 (by omega) (fun c23 => ?_) (fun c23 => ?_)
    · refine z_iload hY eX8_beats_30 0 rfl ?_
      refine z_const hY eX8_beats_31 ?_
      refine z_iadd hY eX8_beats_32 ?_
      refine z_top (b := my τ) (by omega) ?_
      refine z_aload hY eX8_beats_33 1 rfl ?_
      refine z_iload hY eX8_beats_34 2 rfl ?_
      refine z_callVr (As := [z_i e]) (rest := [z_i (my τ)]) (r := z_i (bt τ e)) hY eX8_beats_35 (m_better hG hA hB hV (by omega)) (mH_at hA (k := 40) (by decide)) (by decide) (Nat.le_of_ble_eq_true rfl) ⟨Nat.zero_le _, Nat.zero_le _⟩ ?_
      have hc3 := bt_b hV e
      refine z_isub hY eX8_beats_38 ?_
      refine z_aload hY eX8_beats_39 1 rfl ?_
      refine z_iload hY eX8_beats_40 2 rfl ?_
      refine z_callVr (As := [z_i e]) (rest := [z_i ((my τ) - (bt τ e))]) (r := z_i (al τ e)) hY eX8_beats_41 (m_alikeWith hG hA hB hV (by omega)) (mH_at hA (k := 40) (by decide)) (by decide) (Nat.le_of_ble_eq_true rfl) ⟨Nat.zero_le _, Nat.zero_le _⟩ ?_
      have hc4 := al_b hV e
      refine z_isub hY eX8_beats_44 ?_
      refine z_i2f hY eX8_beats_45 ?_
      refine z_iload hY eX8_beats_46 0 rfl ?_
      refine z_i2f hY eX8_beats_47 ?_
      refine z_fdiv hY eX8_beats_48 (by omega) ?_
      exact z_freturn hY eX8_beats_49 rfl (by rw [hφ]; exact ⟨0, _, rfl, by rw [z_u_id h00], by rw [if_pos (by omega)]; exact ⟨rfl, by unfold yBf; first | exact (if_pos (by omega)).symm | exact (if_neg (by omega)).symm⟩⟩) ⟨Nat.zero_le _, Nat.zero_le _⟩
    · refine z_fconst0 hY eX8_beats_26 ?_
      refine z_goto hY eX8_beats_27 ?_
      exact z_freturn hY eX8_beats_49 rfl (by rw [hφ]; exact ⟨0, _, rfl, by rw [z_u_id h00], by rw [if_pos (by omega)]; exact ⟨rfl, by unfold yBf; first | exact (if_pos (by omega)).symm | exact (if_neg (by omega)).symm⟩⟩) ⟨Nat.zero_le _, Nat.zero_le _⟩
  · refine z_callV (As := [z_i e]) (rest := []) hY eX8_beats_7 (m_noE_f hG hA hB hV h00 (by omega) g1) (mH_at hA (k := 40) (by decide)) (by decide) (Nat.le_of_ble_eq_true rfl) ⟨Nat.zero_le _, Nat.zero_le _⟩ (fun _ _ q => q.elim) (fun v5 h5 q5 => ?_)
    obtain ⟨rfl, rfl⟩ := q5
    refine z_ifeq hY eX8_beats_10 (by omega) (fun c => absurd c (by omega)) (fun _ => ?_)
    refine z_fconst0 hY eX8_beats_13 ?_
    exact z_freturn hY eX8_beats_14 rfl (by rw [hφ]; exact ⟨1, _, rfl, rfl, by rw [if_neg (by omega)]⟩) ⟨Nat.zero_le _, Nat.zero_le _⟩
theorem m_init {G : z_G} {q : Nat} {h : z_H} (hG : z_OK G) (hq : h q = some (z_ob 8 [z_i 0, .null, z_i 0, z_i 0, z_i 0, z_i 0, z_i 0, z_i 0, .null, .null, .null, .null, z_i 0, z_i 0, .null, .null, .null, .null, .null, z_i 0, z_i 0, .null, .null, .null, .null, z_i 0, z_i 0, z_i 0, .null, .null, z_i 0, .null])) : z_T G mX8_init [.ref q] h 0 17 8000 (fun v h' => v = none ∧ ∃ A : Nat → Nat, mI A ∧ A 40 = q ∧ h' = mH A yI1 h ∧ ∀ k ∈ mK, k ≠ 40 → h (A k) = none) z_no := by
  refine z_T_of hG pX8_init (Nat.le_of_ble_eq_true rfl) (ls0 := [(0, .ref q)]) rfl fun Y hY hg hmc hms hφ hψ => ?_
  subst hg
  refine z_heq (show h = z_set (z_sets [] h) q (z_ob 8 [z_i 0, .null, z_i 0, z_i 0, z_i 0, z_i 0, z_i 0, z_i 0, .null, .null, .null, .null, z_i 0, z_i 0, .null, .null, .null, .null, .null, z_i 0, z_i 0, .null, .null, .null, .null, z_i 0, z_i 0, z_i 0, .null, .null, z_i 0, .null]) from (z_set_s hq).symm) ?_
  refine z_aload hY eX8_init_0 0 rfl ?_
  refine z_objInit hY eX8_init_1 ⟨wOI, wOC⟩ (Nat.le_of_ble_eq_true rfl) ?_
  refine z_aload hY eX8_init_4 0 rfl ?_
  refine z_const hY eX8_init_5 ?_
  refine z_newI (N := 100) hY eX8_init_7 wAI (by decide) (by rw [hmc, hms]; exact ⟨Nat.le_of_ble_eq_true rfl, Nat.le_of_ble_eq_true rfl⟩) (fun a0 hn => ?_)
  obtain ⟨hqa0, hn⟩ := z_set_new hn
  obtain ⟨hda0, hfa0⟩ := z_sets_new _ hn
  clear hda0
  refine z_heq (show _ = z_set (z_sets [(a0, z_ia 100 (fun _ => 0))] h) q (z_ob 8 [z_i 0, .null, z_i 0, z_i 0, z_i 0, z_i 0, z_i 0, z_i 0, .null, .null, .null, .null, z_i 0, z_i 0, .null, .null, .null, .null, .null, z_i 0, z_i 0, .null, .null, .null, .null, z_i 0, z_i 0, z_i 0, .null, .null, z_i 0, .null]) from z_set_c (Ne.symm hqa0)) ?_
  refine z_putfinal hY rfl eX8_init_9 (z_set_at) rfl rfl (Nat.le_of_ble_eq_true rfl) ?_
  refine z_heq (show _ = z_set (z_sets [(a0, z_ia 100 (fun _ => 0))] h) q (z_ob 8 [z_i 0, .ref a0, z_i 0, z_i 0, z_i 0, z_i 0, z_i 0, z_i 0, .null, .null, .null, .null, z_i 0, z_i 0, .null, .null, .null, .null, .null, z_i 0, z_i 0, .null, .null, .null, .null, z_i 0, z_i 0, z_i 0, .null, .null, z_i 0, .null]) from z_set_o) ?_
  refine z_aload hY eX8_init_12 0 rfl ?_
  refine z_const hY eX8_init_13 ?_
  refine z_putfield hY eX8_init_14 (z_set_at) rfl rfl (Nat.le_of_ble_eq_true rfl) ?_
  refine z_heq (show _ = z_set (z_sets [(a0, z_ia 100 (fun _ => 0))] h) q (z_ob 8 [z_i 0, .ref a0, z_i 0, z_i (-1), z_i 0, z_i 0, z_i 0, z_i 0, .null, .null, .null, .null, z_i 0, z_i 0, .null, .null, .null, .null, .null, z_i 0, z_i 0, .null, .null, .null, .null, z_i 0, z_i 0, z_i 0, .null, .null, z_i 0, .null]) from z_set_o) ?_
  refine z_aload hY eX8_init_17 0 rfl ?_
  refine z_const hY eX8_init_18 ?_
  refine z_newI (N := 16) hY eX8_init_20 wAI (by decide) (by rw [hmc, hms]; exact ⟨Nat.le_of_ble_eq_true rfl, Nat.le_of_ble_eq_true rfl⟩) (fun a1 hn => ?_)
  obtain ⟨hqa1, hn⟩ := z_set_new hn
  obtain ⟨hda1, hfa1⟩ := z_sets_new _ hn
  have hxa1a0 : a1 ≠ a0 := hda1 _ (List.Mem.head _)
  clear hda1
  refine z_heq (show _ = z_set (z_sets [(a1, z_ia 16 (fun _ => 0)), (a0, z_ia 100 (fun _ => 0))] h) q (z_ob 8 [z_i 0, .ref a0, z_i 0, z_i (-1), z_i 0, z_i 0, z_i 0, z_i 0, .null, .null, .null, .null, z_i 0, z_i 0, .null, .null, .null, .null, .null, z_i 0, z_i 0, .null, .null, .null, .null, z_i 0, z_i 0, z_i 0, .null, .null, z_i 0, .null]) from z_set_c (Ne.symm hqa1)) ?_
  refine z_putfinal hY rfl eX8_init_22 (z_set_at) rfl rfl (Nat.le_of_ble_eq_true rfl) ?_
  refine z_heq (show _ = z_set (z_sets [(a1, z_ia 16 (fun _ => 0)), (a0, z_ia 100 (fun _ => 0))] h) q (z_ob 8 [z_i 0, .ref a0, z_i 0, z_i (-1), z_i 0, z_i 0, z_i 0, z_i 0, .ref a1, .null, .null, .null, z_i 0, z_i 0, .null, .null, .null, .null, .null, z_i 0, z_i 0, .null, .null, .null, .null, z_i 0, z_i 0, z_i 0, .null, .null, z_i 0, .null]) from z_set_o) ?_
  refine z_aload hY eX8_init_25 0 rfl ?_
  refine z_const hY eX8_init_26 ?_
  refine z_newI (N := 16) hY eX8_init_28 wAI (by decide) (by rw [hmc, hms]; exact ⟨Nat.le_of_ble_eq_true rfl, Nat.le_of_ble_eq_true rfl⟩) (fun a2 hn => ?_)
  obtain ⟨hqa2, hn⟩ := z_set_new hn
  obtain ⟨hda2, hfa2⟩ := z_sets_new _ hn
  have hxa2a1 : a2 ≠ a1 := hda2 _ (List.Mem.head _)
  have hxa2a0 : a2 ≠ a0 := hda2 _ (List.Mem.tail _ (List.Mem.head _))
  clear hda2
  refine z_heq (show _ = z_set (z_sets [(a2, z_ia 16 (fun _ => 0)), (a1, z_ia 16 (fun _ => 0)), (a0, z_ia 100 (fun _ => 0))] h) q (z_ob 8 [z_i 0, .ref a0, z_i 0, z_i (-1), z_i 0, z_i 0, z_i 0, z_i 0, .ref a1, .null, .null, .null, z_i 0, z_i 0, .null, .null, .null, .null, .null, z_i 0, z_i 0, .null, .null, .null, .null, z_i 0, z_i 0, z_i 0, .null, .null, z_i 0, .null]) from z_set_c (Ne.symm hqa2)) ?_
  refine z_putfinal hY rfl eX8_init_30 (z_set_at) rfl rfl (Nat.le_of_ble_eq_true rfl) ?_
  refine z_heq (show _ = z_set (z_sets [(a2, z_ia 16 (fun _ => 0)), (a1, z_ia 16 (fun _ => 0)), (a0, z_ia 100 (fun _ => 0))] h) q (z_ob 8 [z_i 0, .ref a0, z_i 0, z_i (-1), z_i 0, z_i 0, z_i 0, z_i 0, .ref a1, .ref a2, .null, .null, z_i 0, z_i 0, .null, .null, .null, .null, .null, z_i 0, z_i 0, .null, .null, .null, .null, z_i 0, z_i 0, z_i 0, .null, .null, z_i 0, .null]) from z_set_o) ?_
  refine z_aload hY eX8_init_33 0 rfl ?_
  refine z_const hY eX8_init_34 ?_
  refine z_newZ (N := 4) hY eX8_init_35 wAZ (by decide) (by rw [hmc, hms]; exact ⟨Nat.le_of_ble_eq_true rfl, Nat.le_of_ble_eq_true rfl⟩) (fun a3 hn => ?_)
  obtain ⟨hqa3, hn⟩ := z_set_new hn
  obtain ⟨hda3, hfa3⟩ := z_sets_new _ hn
  have hxa3a2 : a3 ≠ a2 := hda3 _ (List.Mem.head _)
  have hxa3a1 : a3 ≠ a1 := hda3 _ (List.Mem.tail _ (List.Mem.head _))
  have hxa3a0 : a3 ≠ a0 := hda3 _ (List.Mem.tail _ (List.Mem.tail _ (List.Mem.head _)))
  clear hda3
  refine z_heq (show _ = z_set (z_sets [(a3, z_ba 4 (fun _ => 0)), (a2, z_ia 16 (fun _ => 0)), (a1, z_ia 16 (fun _ => 0)), (a0, z_ia 100 (fun _ => 0))] h) q (z_ob 8 [z_i 0, .ref a0, z_i 0, z_i (-1), z_i 0, z_i 0, z_i 0, z_i 0, .ref a1, .ref a2, .null, .null, z_i 0, z_i 0, .null, .null, .null, .null, .null, z_i 0, z_i 0, .null, .null, .null, .null, z_i 0, z_i 0, z_i 0, .null, .null, z_i 0, .null]) from z_set_c (Ne.symm hqa3)) ?_
  refine z_putfinal hY rfl eX8_init_37 (z_set_at) rfl rfl (Nat.le_of_ble_eq_true rfl) ?_
  refine z_heq (show _ = z_set (z_sets [(a3, z_ba 4 (fun _ => 0)), (a2, z_ia 16 (fun _ => 0)), (a1, z_ia 16 (fun _ => 0)), (a0, z_ia 100 (fun _ => 0))] h) q (z_ob 8 [z_i 0, .ref a0, z_i 0, z_i (-1), z_i 0, z_i 0, z_i 0, z_i 0, .ref a1, .ref a2, .ref a3, .null, z_i 0, z_i 0, .null, .null, .null, .null, .null, z_i 0, z_i 0, .null, .null, .null, .null, z_i 0, z_i 0, z_i 0, .null, .null, z_i 0, .null]) from z_set_o) ?_
  refine z_aload hY eX8_init_40 0 rfl ?_
  refine z_const hY eX8_init_41 ?_
  refine z_newZ (N := 4) hY eX8_init_42 wAZ (by decide) (by rw [hmc, hms]; exact ⟨Nat.le_of_ble_eq_true rfl, Nat.le_of_ble_eq_true rfl⟩) (fun a4 hn => ?_)
  obtain ⟨hqa4, hn⟩ := z_set_new hn
  obtain ⟨hda4, hfa4⟩ := z_sets_new _ hn
  have hxa4a3 : a4 ≠ a3 := hda4 _ (List.Mem.head _)
  have hxa4a2 : a4 ≠ a2 := hda4 _ (List.Mem.tail _ (List.Mem.head _))
  have hxa4a1 : a4 ≠ a1 := hda4 _ (List.Mem.tail _ (List.Mem.tail _ (List.Mem.head _)))
  have hxa4a0 : a4 ≠ a0 := hda4 _ (List.Mem.tail _ (List.Mem.tail _ (List.Mem.tail _ (List.Mem.head _))))
  clear hda4
  refine z_heq (show _ = z_set (z_sets [(a4, z_ba 4 (fun _ => 0)), (a3, z_ba 4 (fun _ => 0)), (a2, z_ia 16 (fun _ => 0)), (a1, z_ia 16 (fun _ => 0)), (a0, z_ia 100 (fun _ => 0))] h) q (z_ob 8 [z_i 0, .ref a0, z_i 0, z_i (-1), z_i 0, z_i 0, z_i 0, z_i 0, .ref a1, .ref a2, .ref a3, .null, z_i 0, z_i 0, .null, .null, .null, .null, .null, z_i 0, z_i 0, .null, .null, .null, .null, z_i 0, z_i 0, z_i 0, .null, .null, z_i 0, .null]) from z_set_c (Ne.symm hqa4)) ?_
  refine z_putfinal hY rfl eX8_init_44 (z_set_at) rfl rfl (Nat.le_of_ble_eq_true rfl) ?_
  refine z_heq (show _ = z_set (z_sets [(a4, z_ba 4 (fun _ => 0)), (a3, z_ba 4 (fun _ => 0)), (a2, z_ia 16 (fun _ => 0)), (a1, z_ia 16 (fun _ => 0)), (a0, z_ia 100 (fun _ => 0))] h) q (z_ob 8 [z_i 0, .ref a0, z_i 0, z_i (-1), z_i 0, z_i 0, z_i 0, z_i 0, .ref a1, .ref a2, .ref a3, .ref a4, z_i 0, z_i 0, .null, .null, .null, .null, .null, z_i 0, z_i 0, .null, .null, .null, .null, z_i 0, z_i 0, z_i 0, .null, .null, z_i 0, .null]) from z_set_o) ?_
  refine z_aload hY eX8_init_47 0 rfl ?_
  refine z_const hY eX8_init_48 ?_
  refine z_newI (N := 120) hY eX8_init_50 wAI (by decide) (by rw [hmc, hms]; exact ⟨Nat.le_of_ble_eq_true rfl, Nat.le_of_ble_eq_true rfl⟩) (fun a5 hn => ?_)
  obtain ⟨hqa5, hn⟩ := z_set_new hn
  obtain ⟨hda5, hfa5⟩ := z_sets_new _ hn
  have hxa5a4 : a5 ≠ a4 := hda5 _ (List.Mem.head _)
  have hxa5a3 : a5 ≠ a3 := hda5 _ (List.Mem.tail _ (List.Mem.head _))
  have hxa5a2 : a5 ≠ a2 := hda5 _ (List.Mem.tail _ (List.Mem.tail _ (List.Mem.head _)))
  have hxa5a1 : a5 ≠ a1 := hda5 _ (List.Mem.tail _ (List.Mem.tail _ (List.Mem.tail _ (List.Mem.head _))))
  have hxa5a0 : a5 ≠ a0 := hda5 _ (List.Mem.tail _ (List.Mem.tail _ (List.Mem.tail _ (List.Mem.tail _ (List.Mem.head _)))))
  clear hda5
  refine z_heq (show _ = z_set (z_sets [(a5, z_ia 120 (fun _ => 0)), (a4, z_ba 4 (fun _ => 0)), (a3, z_ba 4 (fun _ => 0)), (a2, z_ia 16 (fun _ => 0)), (a1, z_ia 16 (fun _ => 0)), (a0, z_ia 100 (fun _ => 0))] h) q (z_ob 8 [z_i 0, .ref a0, z_i 0, z_i (-1), z_i 0, z_i 0, z_i 0, z_i 0, .ref a1, .ref a2, .ref a3, .ref a4, z_i 0, z_i 0, .null, .null, .null, .null, .null, z_i 0, z_i 0, .null, .null, .null, .null, z_i 0, z_i 0, z_i 0, .null, .null, z_i 0, .null]) from z_set_c (Ne.symm hqa5)) ?_
  refine z_putfinal hY rfl eX8_init_52 (z_set_at) rfl rfl (Nat.le_of_ble_eq_true rfl) ?_
  refine z_heq (show _ = z_set (z_sets [(a5, z_ia 120 (fun _ => 0)), (a4, z_ba 4 (fun _ => 0)), (a3, z_ba 4 (fun _ => 0)), (a2, z_ia 16 (fun _ => 0)), (a1, z_ia 16 (fun _ => 0)), (a0, z_ia 100 (fun _ => 0))] h) q (z_ob 8 [z_i 0, .ref a0, z_i 0, z_i (-1), z_i 0, z_i 0, z_i 0, z_i 0, .ref a1, .ref a2, .ref a3, .ref a4, z_i 0, z_i 0, .ref a5, .null, .null, .null, .null, z_i 0, z_i 0, .null, .null, .null, .null, z_i 0, z_i 0, z_i 0, .null, .null, z_i 0, .null]) from z_set_o) ?_
  refine z_aload hY eX8_init_55 0 rfl ?_
  refine z_const hY eX8_init_56 ?_
  refine z_newI (N := 30) hY eX8_init_58 wAI (by decide) (by rw [hmc, hms]; exact ⟨Nat.le_of_ble_eq_true rfl, Nat.le_of_ble_eq_true rfl⟩) (fun a6 hn => ?_)
  obtain ⟨hqa6, hn⟩ := z_set_new hn
  obtain ⟨hda6, hfa6⟩ := z_sets_new _ hn
  have hxa6a5 : a6 ≠ a5 := hda6 _ (List.Mem.head _)
  have hxa6a4 : a6 ≠ a4 := hda6 _ (List.Mem.tail _ (List.Mem.head _))
  have hxa6a3 : a6 ≠ a3 := hda6 _ (List.Mem.tail _ (List.Mem.tail _ (List.Mem.head _)))
  have hxa6a2 : a6 ≠ a2 := hda6 _ (List.Mem.tail _ (List.Mem.tail _ (List.Mem.tail _ (List.Mem.head _))))
  have hxa6a1 : a6 ≠ a1 := hda6 _ (List.Mem.tail _ (List.Mem.tail _ (List.Mem.tail _ (List.Mem.tail _ (List.Mem.head _)))))
  have hxa6a0 : a6 ≠ a0 := hda6 _ (List.Mem.tail _ (List.Mem.tail _ (List.Mem.tail _ (List.Mem.tail _ (List.Mem.tail _ (List.Mem.head _))))))
  clear hda6
  refine z_heq (show _ = z_set (z_sets [(a6, z_ia 30 (fun _ => 0)), (a5, z_ia 120 (fun _ => 0)), (a4, z_ba 4 (fun _ => 0)), (a3, z_ba 4 (fun _ => 0)), (a2, z_ia 16 (fun _ => 0)), (a1, z_ia 16 (fun _ => 0)), (a0, z_ia 100 (fun _ => 0))] h) q (z_ob 8 [z_i 0, .ref a0, z_i 0, z_i (-1), z_i 0, z_i 0, z_i 0, z_i 0, .ref a1, .ref a2, .ref a3, .ref a4, z_i 0, z_i 0, .ref a5, .null, .null, .null, .null, z_i 0, z_i 0, .null, .null, .null, .null, z_i 0, z_i 0, z_i 0, .null, .null, z_i 0, .null]) from z_set_c (Ne.symm hqa6)) ?_
  refine z_putfinal hY rfl eX8_init_60 (z_set_at) rfl rfl (Nat.le_of_ble_eq_true rfl) ?_
  refine z_heq (show _ = z_set (z_sets [(a6, z_ia 30 (fun _ => 0)), (a5, z_ia 120 (fun _ => 0)), (a4, z_ba 4 (fun _ => 0)), (a3, z_ba 4 (fun _ => 0)), (a2, z_ia 16 (fun _ => 0)), (a1, z_ia 16 (fun _ => 0)), (a0, z_ia 100 (fun _ => 0))] h) q (z_ob 8 [z_i 0, .ref a0, z_i 0, z_i (-1), z_i 0, z_i 0, z_i 0, z_i 0, .ref a1, .ref a2, .ref a3, .ref a4, z_i 0, z_i 0, .ref a5, .ref a6, .null, .null, .null, z_i 0, z_i 0, .null, .null, .null, .null, z_i 0, z_i 0, z_i 0, .null, .null, z_i 0, .null]) from z_set_o) ?_
  refine z_aload hY eX8_init_63 0 rfl ?_
  refine z_const hY eX8_init_64 ?_
  refine z_newI (N := 30) hY eX8_init_66 wAI (by decide) (by rw [hmc, hms]; exact ⟨Nat.le_of_ble_eq_true rfl, Nat.le_of_ble_eq_true rfl⟩) (fun a7 hn => ?_)
  obtain ⟨hqa7, hn⟩ := z_set_new hn
  obtain ⟨hda7, hfa7⟩ := z_sets_new _ hn
  have hxa7a6 : a7 ≠ a6 := hda7 _ (List.Mem.head _)
  have hxa7a5 : a7 ≠ a5 := hda7 _ (List.Mem.tail _ (List.Mem.head _))
  have hxa7a4 : a7 ≠ a4 := hda7 _ (List.Mem.tail _ (List.Mem.tail _ (List.Mem.head _)))
  have hxa7a3 : a7 ≠ a3 := hda7 _ (List.Mem.tail _ (List.Mem.tail _ (List.Mem.tail _ (List.Mem.head _))))
  have hxa7a2 : a7 ≠ a2 := hda7 _ (List.Mem.tail _ (List.Mem.tail _ (List.Mem.tail _ (List.Mem.tail _ (List.Mem.head _)))))
  have hxa7a1 : a7 ≠ a1 := hda7 _ (List.Mem.tail _ (List.Mem.tail _ (List.Mem.tail _ (List.Mem.tail _ (List.Mem.tail _ (List.Mem.head _))))))
  have hxa7a0 : a7 ≠ a0 := hda7 _ (List.Mem.tail _ (List.Mem.tail _ (List.Mem.tail _ (List.Mem.tail _ (List.Mem.tail _ (List.Mem.tail _ (List.Mem.head _)))))))
  clear hda7
  refine z_heq (show _ = z_set (z_sets [(a7, z_ia 30 (fun _ => 0)), (a6, z_ia 30 (fun _ => 0)), (a5, z_ia 120 (fun _ => 0)), (a4, z_ba 4 (fun _ => 0)), (a3, z_ba 4 (fun _ => 0)), (a2, z_ia 16 (fun _ => 0)), (a1, z_ia 16 (fun _ => 0)), (a0, z_ia 100 (fun _ => 0))] h) q (z_ob 8 [z_i 0, .ref a0, z_i 0, z_i (-1), z_i 0, z_i 0, z_i 0, z_i 0, .ref a1, .ref a2, .ref a3, .ref a4, z_i 0, z_i 0, .ref a5, .ref a6, .null, .null, .null, z_i 0, z_i 0, .null, .null, .null, .null, z_i 0, z_i 0, z_i 0, .null, .null, z_i 0, .null]) from z_set_c (Ne.symm hqa7)) ?_
  refine z_putfinal hY rfl eX8_init_68 (z_set_at) rfl rfl (Nat.le_of_ble_eq_true rfl) ?_
  refine z_heq (show _ = z_set (z_sets [(a7, z_ia 30 (fun _ => 0)), (a6, z_ia 30 (fun _ => 0)), (a5, z_ia 120 (fun _ => 0)), (a4, z_ba 4 (fun _ => 0)), (a3, z_ba 4 (fun _ => 0)), (a2, z_ia 16 (fun _ => 0)), (a1, z_ia 16 (fun _ => 0)), (a0, z_ia 100 (fun _ => 0))] h) q (z_ob 8 [z_i 0, .ref a0, z_i 0, z_i (-1), z_i 0, z_i 0, z_i 0, z_i 0, .ref a1, .ref a2, .ref a3, .ref a4, z_i 0, z_i 0, .ref a5, .ref a6, .ref a7, .null, .null, z_i 0, z_i 0, .null, .null, .null, .null, z_i 0, z_i 0, z_i 0, .null, .null, z_i 0, .null]) from z_set_o) ?_
  refine z_aload hY eX8_init_71 0 rfl ?_
  refine z_const hY eX8_init_72 ?_
  refine z_newI (N := 30) hY eX8_init_74 wAI (by decide) (by rw [hmc, hms]; exact ⟨Nat.le_of_ble_eq_true rfl, Nat.le_of_ble_eq_true rfl⟩) (fun a8 hn => ?_)
  obtain ⟨hqa8, hn⟩ := z_set_new hn
  obtain ⟨hda8, hfa8⟩ := z_sets_new _ hn
  have hxa8a7 : a8 ≠ a7 := hda8 _ (List.Mem.head _)
  have hxa8a6 : a8 ≠ a6 := hda8 _ (List.Mem.tail _ (List.Mem.head _))
  have hxa8a5 : a8 ≠ a5 := hda8 _ (List.Mem.tail _ (List.Mem.tail _ (List.Mem.head _)))
  have hxa8a4 : a8 ≠ a4 := hda8 _ (List.Mem.tail _ (List.Mem.tail _ (List.Mem.tail _ (List.Mem.head _))))
  have hxa8a3 : a8 ≠ a3 := hda8 _ (List.Mem.tail _ (List.Mem.tail _ (List.Mem.tail _ (List.Mem.tail _ (List.Mem.head _)))))
  have hxa8a2 : a8 ≠ a2 := hda8 _ (List.Mem.tail _ (List.Mem.tail _ (List.Mem.tail _ (List.Mem.tail _ (List.Mem.tail _ (List.Mem.head _))))))
  have hxa8a1 : a8 ≠ a1 := hda8 _ (List.Mem.tail _ (List.Mem.tail _ (List.Mem.tail _ (List.Mem.tail _ (List.Mem.tail _ (List.Mem.tail _ (List.Mem.head _)))))))
  have hxa8a0 : a8 ≠ a0 := hda8 _ (List.Mem.tail _ (List.Mem.tail _ (List.Mem.tail _ (List.Mem.tail _ (List.Mem.tail _ (List.Mem.tail _ (List.Mem.tail _ (List.Mem.head _))))))))
  clear hda8
  refine z_heq (show _ = z_set (z_sets [(a8, z_ia 30 (fun _ => 0)), (a7, z_ia 30 (fun _ => 0)), (a6, z_ia 30 (fun _ => 0)), (a5, z_ia 120 (fun _ => 0)), (a4, z_ba 4 (fun _ => 0)), (a3, z_ba 4 (fun _ => 0)), (a2, z_ia 16 (fun _ => 0)), (a1, z_ia 16 (fun _ => 0)), (a0, z_ia 100 (fun _ => 0))] h) q (z_ob 8 [z_i 0, .ref a0, z_i 0, z_i (-1), z_i 0, z_i 0, z_i 0, z_i 0, .ref a1, .ref a2, .ref a3, .ref a4, z_i 0, z_i 0, .ref a5, .ref a6, .ref a7, .null, .null, z_i 0, z_i 0, .null, .null, .null, .null, z_i 0, z_i 0, z_i 0, .null, .null, z_i 0, .null]) from z_set_c (Ne.symm hqa8)) ?_
  refine z_putfinal hY rfl eX8_init_76 (z_set_at) rfl rfl (Nat.le_of_ble_eq_true rfl) ?_
  refine z_heq (show _ = z_set (z_sets [(a8, z_ia 30 (fun _ => 0)), (a7, z_ia 30 (fun _ => 0)), (a6, z_ia 30 (fun _ => 0)), (a5, z_ia 120 (fun _ => 0)), (a4, z_ba 4 (fun _ => 0)), (a3, z_ba 4 (fun _ => 0)), (a2, z_ia 16 (fun _ => 0)), (a1, z_ia 16 (fun _ => 0)), (a0, z_ia 100 (fun _ => 0))] h) q (z_ob 8 [z_i 0, .ref a0, z_i 0, z_i (-1), z_i 0, z_i 0, z_i 0, z_i 0, .ref a1, .ref a2, .ref a3, .ref a4, z_i 0, z_i 0, .ref a5, .ref a6, .ref a7, .ref a8, .null, z_i 0, z_i 0, .null, .null, .null, .null, z_i 0, z_i 0, z_i 0, .null, .null, z_i 0, .null]) from z_set_o) ?_
  refine z_aload hY eX8_init_79 0 rfl ?_
  refine z_const hY eX8_init_80 ?_
  refine z_newZ (N := 30) hY eX8_init_82 wAZ (by decide) (by rw [hmc, hms]; exact ⟨Nat.le_of_ble_eq_true rfl, Nat.le_of_ble_eq_true rfl⟩) (fun a9 hn => ?_)
  obtain ⟨hqa9, hn⟩ := z_set_new hn
  obtain ⟨hda9, hfa9⟩ := z_sets_new _ hn
  have hxa9a8 : a9 ≠ a8 := hda9 _ (List.Mem.head _)
  have hxa9a7 : a9 ≠ a7 := hda9 _ (List.Mem.tail _ (List.Mem.head _))
  have hxa9a6 : a9 ≠ a6 := hda9 _ (List.Mem.tail _ (List.Mem.tail _ (List.Mem.head _)))
  have hxa9a5 : a9 ≠ a5 := hda9 _ (List.Mem.tail _ (List.Mem.tail _ (List.Mem.tail _ (List.Mem.head _))))
  have hxa9a4 : a9 ≠ a4 := hda9 _ (List.Mem.tail _ (List.Mem.tail _ (List.Mem.tail _ (List.Mem.tail _ (List.Mem.head _)))))
  have hxa9a3 : a9 ≠ a3 := hda9 _ (List.Mem.tail _ (List.Mem.tail _ (List.Mem.tail _ (List.Mem.tail _ (List.Mem.tail _ (List.Mem.head _))))))
  have hxa9a2 : a9 ≠ a2 := hda9 _ (List.Mem.tail _ (List.Mem.tail _ (List.Mem.tail _ (List.Mem.tail _ (List.Mem.tail _ (List.Mem.tail _ (List.Mem.head _)))))))
  have hxa9a1 : a9 ≠ a1 := hda9 _ (List.Mem.tail _ (List.Mem.tail _ (List.Mem.tail _ (List.Mem.tail _ (List.Mem.tail _ (List.Mem.tail _ (List.Mem.tail _ (List.Mem.head _))))))))
  have hxa9a0 : a9 ≠ a0 := hda9 _ (List.Mem.tail _ (List.Mem.tail _ (List.Mem.tail _ (List.Mem.tail _ (List.Mem.tail _ (List.Mem.tail _ (List.Mem.tail _ (List.Mem.tail _ (List.Mem.head _)))))))))
  clear hda9
  refine z_heq (show _ = z_set (z_sets [(a9, z_ba 30 (fun _ => 0)), (a8, z_ia 30 (fun _ => 0)), (a7, z_ia 30 (fun _ => 0)), (a6, z_ia 30 (fun _ => 0)), (a5, z_ia 120 (fun _ => 0)), (a4, z_ba 4 (fun _ => 0)), (a3, z_ba 4 (fun _ => 0)), (a2, z_ia 16 (fun _ => 0)), (a1, z_ia 16 (fun _ => 0)), (a0, z_ia 100 (fun _ => 0))] h) q (z_ob 8 [z_i 0, .ref a0, z_i 0, z_i (-1), z_i 0, z_i 0, z_i 0, z_i 0, .ref a1, .ref a2, .ref a3, .ref a4, z_i 0, z_i 0, .ref a5, .ref a6, .ref a7, .ref a8, .null, z_i 0, z_i 0, .null, .null, .null, .null, z_i 0, z_i 0, z_i 0, .null, .null, z_i 0, .null]) from z_set_c (Ne.symm hqa9)) ?_
  refine z_putfinal hY rfl eX8_init_84 (z_set_at) rfl rfl (Nat.le_of_ble_eq_true rfl) ?_
  refine z_heq (show _ = z_set (z_sets [(a9, z_ba 30 (fun _ => 0)), (a8, z_ia 30 (fun _ => 0)), (a7, z_ia 30 (fun _ => 0)), (a6, z_ia 30 (fun _ => 0)), (a5, z_ia 120 (fun _ => 0)), (a4, z_ba 4 (fun _ => 0)), (a3, z_ba 4 (fun _ => 0)), (a2, z_ia 16 (fun _ => 0)), (a1, z_ia 16 (fun _ => 0)), (a0, z_ia 100 (fun _ => 0))] h) q (z_ob 8 [z_i 0, .ref a0, z_i 0, z_i (-1), z_i 0, z_i 0, z_i 0, z_i 0, .ref a1, .ref a2, .ref a3, .ref a4, z_i 0, z_i 0, .ref a5, .ref a6, .ref a7, .ref a8, .ref a9, z_i 0, z_i 0, .null, .null, .null, .null, z_i 0, z_i 0, z_i 0, .null, .null, z_i 0, .null]) from z_set_o) ?_
  refine z_aload hY eX8_init_87 0 rfl ?_
  refine z_const hY eX8_init_88 ?_
  refine z_newI (N := 30) hY eX8_init_90 wAI (by decide) (by rw [hmc, hms]; exact ⟨Nat.le_of_ble_eq_true rfl, Nat.le_of_ble_eq_true rfl⟩) (fun a10 hn => ?_)
  obtain ⟨hqa10, hn⟩ := z_set_new hn
  obtain ⟨hda10, hfa10⟩ := z_sets_new _ hn
  have hxa10a9 : a10 ≠ a9 := hda10 _ (List.Mem.head _)
  have hxa10a8 : a10 ≠ a8 := hda10 _ (List.Mem.tail _ (List.Mem.head _))
  have hxa10a7 : a10 ≠ a7 := hda10 _ (List.Mem.tail _ (List.Mem.tail _ (List.Mem.head _)))
  have hxa10a6 : a10 ≠ a6 := hda10 _ (List.Mem.tail _ (List.Mem.tail _ (List.Mem.tail _ (List.Mem.head _))))
  have hxa10a5 : a10 ≠ a5 := hda10 _ (List.Mem.tail _ (List.Mem.tail _ (List.Mem.tail _ (List.Mem.tail _ (List.Mem.head _)))))
  have hxa10a4 : a10 ≠ a4 := hda10 _ (List.Mem.tail _ (List.Mem.tail _ (List.Mem.tail _ (List.Mem.tail _ (List.Mem.tail _ (List.Mem.head _))))))
  have hxa10a3 : a10 ≠ a3 := hda10 _ (List.Mem.tail _ (List.Mem.tail _ (List.Mem.tail _ (List.Mem.tail _ (List.Mem.tail _ (List.Mem.tail _ (List.Mem.head _)))))))
  have hxa10a2 : a10 ≠ a2 := hda10 _ (List.Mem.tail _ (List.Mem.tail _ (List.Mem.tail _ (List.Mem.tail _ (List.Mem.tail _ (List.Mem.tail _ (List.Mem.tail _ (List.Mem.head _))))))))
  have hxa10a1 : a10 ≠ a1 := hda10 _ (List.Mem.tail _ (List.Mem.tail _ (List.Mem.tail _ (List.Mem.tail _ (List.Mem.tail _ (List.Mem.tail _ (List.Mem.tail _ (List.Mem.tail _ (List.Mem.head _)))))))))
  have hxa10a0 : a10 ≠ a0 := hda10 _ (List.Mem.tail _ (List.Mem.tail _ (List.Mem.tail _ (List.Mem.tail _ (List.Mem.tail _ (List.Mem.tail _ (List.Mem.tail _ (List.Mem.tail _ (List.Mem.tail _ (List.Mem.head _))))))))))
  clear hda10
  refine z_heq (show _ = z_set (z_sets [(a10, z_ia 30 (fun _ => 0)), (a9, z_ba 30 (fun _ => 0)), (a8, z_ia 30 (fun _ => 0)), (a7, z_ia 30 (fun _ => 0)), (a6, z_ia 30 (fun _ => 0)), (a5, z_ia 120 (fun _ => 0)), (a4, z_ba 4 (fun _ => 0)), (a3, z_ba 4 (fun _ => 0)), (a2, z_ia 16 (fun _ => 0)), (a1, z_ia 16 (fun _ => 0)), (a0, z_ia 100 (fun _ => 0))] h) q (z_ob 8 [z_i 0, .ref a0, z_i 0, z_i (-1), z_i 0, z_i 0, z_i 0, z_i 0, .ref a1, .ref a2, .ref a3, .ref a4, z_i 0, z_i 0, .ref a5, .ref a6, .ref a7, .ref a8, .ref a9, z_i 0, z_i 0, .null, .null, .null, .null, z_i 0, z_i 0, z_i 0, .null, .null, z_i 0, .null]) from z_set_c (Ne.symm hqa10)) ?_
  refine z_putfinal hY rfl eX8_init_92 (z_set_at) rfl rfl (Nat.le_of_ble_eq_true rfl) ?_
  refine z_heq (show _ = z_set (z_sets [(a10, z_ia 30 (fun _ => 0)), (a9, z_ba 30 (fun _ => 0)), (a8, z_ia 30 (fun _ => 0)), (a7, z_ia 30 (fun _ => 0)), (a6, z_ia 30 (fun _ => 0)), (a5, z_ia 120 (fun _ => 0)), (a4, z_ba 4 (fun _ => 0)), (a3, z_ba 4 (fun _ => 0)), (a2, z_ia 16 (fun _ => 0)), (a1, z_ia 16 (fun _ => 0)), (a0, z_ia 100 (fun _ => 0))] h) q (z_ob 8 [z_i 0, .ref a0, z_i 0, z_i (-1), z_i 0, z_i 0, z_i 0, z_i 0, .ref a1, .ref a2, .ref a3, .ref a4, z_i 0, z_i 0, .ref a5, .ref a6, .ref a7, .ref a8, .ref a9, z_i 0, z_i 0, .ref a10, .null, .null, .null, z_i 0, z_i 0, z_i 0, .null, .null, z_i 0, .null]) from z_set_o) ?_
  refine z_aload hY eX8_init_95 0 rfl ?_
  refine z_const hY eX8_init_96 ?_
  refine z_newI (N := 30) hY eX8_init_98 wAI (by decide) (by rw [hmc, hms]; exact ⟨Nat.le_of_ble_eq_true rfl, Nat.le_of_ble_eq_true rfl⟩) (fun a11 hn => ?_)
  obtain ⟨hqa11, hn⟩ := z_set_new hn
  obtain ⟨hda11, hfa11⟩ := z_sets_new _ hn
  have hxa11a10 : a11 ≠ a10 := hda11 _ (List.Mem.head _)
  have hxa11a9 : a11 ≠ a9 := hda11 _ (List.Mem.tail _ (List.Mem.head _))
  have hxa11a8 : a11 ≠ a8 := hda11 _ (List.Mem.tail _ (List.Mem.tail _ (List.Mem.head _)))
  have hxa11a7 : a11 ≠ a7 := hda11 _ (List.Mem.tail _ (List.Mem.tail _ (List.Mem.tail _ (List.Mem.head _))))
  have hxa11a6 : a11 ≠ a6 := hda11 _ (List.Mem.tail _ (List.Mem.tail _ (List.Mem.tail _ (List.Mem.tail _ (List.Mem.head _)))))
  have hxa11a5 : a11 ≠ a5 := hda11 _ (List.Mem.tail _ (List.Mem.tail _ (List.Mem.tail _ (List.Mem.tail _ (List.Mem.tail _ (List.Mem.head _))))))
  have hxa11a4 : a11 ≠ a4 := hda11 _ (List.Mem.tail _ (List.Mem.tail _ (List.Mem.tail _ (List.Mem.tail _ (List.Mem.tail _ (List.Mem.tail _ (List.Mem.head _)))))))
  have hxa11a3 : a11 ≠ a3 := hda11 _ (List.Mem.tail _ (List.Mem.tail _ (List.Mem.tail _ (List.Mem.tail _ (List.Mem.tail _ (List.Mem.tail _ (List.Mem.tail _ (List.Mem.head _))))))))
  have hxa11a2 : a11 ≠ a2 := hda11 _ (List.Mem.tail _ (List.Mem.tail _ (List.Mem.tail _ (List.Mem.tail _ (List.Mem.tail _ (List.Mem.tail _ (List.Mem.tail _ (List.Mem.tail _ (List.Mem.head _)))))))))
  have hxa11a1 : a11 ≠ a1 := hda11 _ (List.Mem.tail _ (List.Mem.tail _ (List.Mem.tail _ (List.Mem.tail _ (List.Mem.tail _ (List.Mem.tail _ (List.Mem.tail _ (List.Mem.tail _ (List.Mem.tail _ (List.Mem.head _))))))))))
  have hxa11a0 : a11 ≠ a0 := hda11 _ (List.Mem.tail _ (List.Mem.tail _ (List.Mem.tail _ (List.Mem.tail _ (List.Mem.tail _ (List.Mem.tail _ (List.Mem.tail _ (List.Mem.tail _ (List.Mem.tail _ (List.Mem.tail _ (List.Mem.head _)))))))))))
  clear hda11
  refine z_heq (show _ = z_set (z_sets [(a11, z_ia 30 (fun _ => 0)), (a10, z_ia 30 (fun _ => 0)), (a9, z_ba 30 (fun _ => 0)), (a8, z_ia 30 (fun _ => 0)), (a7, z_ia 30 (fun _ => 0)), (a6, z_ia 30 (fun _ => 0)), (a5, z_ia 120 (fun _ => 0)), (a4, z_ba 4 (fun _ => 0)), (a3, z_ba 4 (fun _ => 0)), (a2, z_ia 16 (fun _ => 0)), (a1, z_ia 16 (fun _ => 0)), (a0, z_ia 100 (fun _ => 0))] h) q (z_ob 8 [z_i 0, .ref a0, z_i 0, z_i (-1), z_i 0, z_i 0, z_i 0, z_i 0, .ref a1, .ref a2, .ref a3, .ref a4, z_i 0, z_i 0, .ref a5, .ref a6, .ref a7, .ref a8, .ref a9, z_i 0, z_i 0, .ref a10, .null, .null, .null, z_i 0, z_i 0, z_i 0, .null, .null, z_i 0, .null]) from z_set_c (Ne.symm hqa11)) ?_
  refine z_putfinal hY rfl eX8_init_100 (z_set_at) rfl rfl (Nat.le_of_ble_eq_true rfl) ?_
  refine z_heq (show _ = z_set (z_sets [(a11, z_ia 30 (fun _ => 0)), (a10, z_ia 30 (fun _ => 0)), (a9, z_ba 30 (fun _ => 0)), (a8, z_ia 30 (fun _ => 0)), (a7, z_ia 30 (fun _ => 0)), (a6, z_ia 30 (fun _ => 0)), (a5, z_ia 120 (fun _ => 0)), (a4, z_ba 4 (fun _ => 0)), (a3, z_ba 4 (fun _ => 0)), (a2, z_ia 16 (fun _ => 0)), (a1, z_ia 16 (fun _ => 0)), (a0, z_ia 100 (fun _ => 0))] h) q (z_ob 8 [z_i 0, .ref a0, z_i 0, z_i (-1), z_i 0, z_i 0, z_i 0, z_i 0, .ref a1, .ref a2, .ref a3, .ref a4, z_i 0, z_i 0, .ref a5, .ref a6, .ref a7, .ref a8, .ref a9, z_i 0, z_i 0, .ref a10, .ref a11, .null, .null, z_i 0, z_i 0, z_i 0, .null, .null, z_i 0, .null]) from z_set_o) ?_
  refine z_aload hY eX8_init_103 0 rfl ?_
  refine z_const hY eX8_init_104 ?_
  refine z_newI (N := 30) hY eX8_init_106 wAI (by decide) (by rw [hmc, hms]; exact ⟨Nat.le_of_ble_eq_true rfl, Nat.le_of_ble_eq_true rfl⟩) (fun a12 hn => ?_)
  obtain ⟨hqa12, hn⟩ := z_set_new hn
  obtain ⟨hda12, hfa12⟩ := z_sets_new _ hn
  have hxa12a11 : a12 ≠ a11 := hda12 _ (List.Mem.head _)
  have hxa12a10 : a12 ≠ a10 := hda12 _ (List.Mem.tail _ (List.Mem.head _))
  have hxa12a9 : a12 ≠ a9 := hda12 _ (List.Mem.tail _ (List.Mem.tail _ (List.Mem.head _)))
  have hxa12a8 : a12 ≠ a8 := hda12 _ (List.Mem.tail _ (List.Mem.tail _ (List.Mem.tail _ (List.Mem.head _))))
  have hxa12a7 : a12 ≠ a7 := hda12 _ (List.Mem.tail _ (List.Mem.tail _ (List.Mem.tail _ (List.Mem.tail _ (List.Mem.head _)))))
  have hxa12a6 : a12 ≠ a6 := hda12 _ (List.Mem.tail _ (List.Mem.tail _ (List.Mem.tail _ (List.Mem.tail _ (List.Mem.tail _ (List.Mem.head _))))))
  have hxa12a5 : a12 ≠ a5 := hda12 _ (List.Mem.tail _ (List.Mem.tail _ (List.Mem.tail _ (List.Mem.tail _ (List.Mem.tail _ (List.Mem.tail _ (List.Mem.head _)))))))
  have hxa12a4 : a12 ≠ a4 := hda12 _ (List.Mem.tail _ (List.Mem.tail _ (List.Mem.tail _ (List.Mem.tail _ (List.Mem.tail _ (List.Mem.tail _ (List.Mem.tail _ (List.Mem.head _))))))))
  have hxa12a3 : a12 ≠ a3 := hda12 _ (List.Mem.tail _ (List.Mem.tail _ (List.Mem.tail _ (List.Mem.tail _ (List.Mem.tail _ (List.Mem.tail _ (List.Mem.tail _ (List.Mem.tail _ (List.Mem.head _)))))))))
  have hxa12a2 : a12 ≠ a2 := hda12 _ (List.Mem.tail _ (List.Mem.tail _ (List.Mem.tail _ (List.Mem.tail _ (List.Mem.tail _ (List.Mem.tail _ (List.Mem.tail _ (List.Mem.tail _ (List.Mem.tail _ (List.Mem.head _))))))))))
  have hxa12a1 : a12 ≠ a1 := hda12 _ (List.Mem.tail _ (List.Mem.tail _ (List.Mem.tail _ (List.Mem.tail _ (List.Mem.tail _ (List.Mem.tail _ (List.Mem.tail _ (List.Mem.tail _ (List.Mem.tail _ (List.Mem.tail _ (List.Mem.head _)))))))))))
  have hxa12a0 : a12 ≠ a0 := hda12 _ (List.Mem.tail _ (List.Mem.tail _ (List.Mem.tail _ (List.Mem.tail _ (List.Mem.tail _ (List.Mem.tail _ (List.Mem.tail _ (List.Mem.tail _ (List.Mem.tail _ (List.Mem.tail _ (List.Mem.tail _ (List.Mem.head _))))))))))))
  clear hda12
  refine z_heq (show _ = z_set (z_sets [(a12, z_ia 30 (fun _ => 0)), (a11, z_ia 30 (fun _ => 0)), (a10, z_ia 30 (fun _ => 0)), (a9, z_ba 30 (fun _ => 0)), (a8, z_ia 30 (fun _ => 0)), (a7, z_ia 30 (fun _ => 0)), (a6, z_ia 30 (fun _ => 0)), (a5, z_ia 120 (fun _ => 0)), (a4, z_ba 4 (fun _ => 0)), (a3, z_ba 4 (fun _ => 0)), (a2, z_ia 16 (fun _ => 0)), (a1, z_ia 16 (fun _ => 0)), (a0, z_ia 100 (fun _ => 0))] h) q (z_ob 8 [z_i 0, .ref a0, z_i 0, z_i (-1), z_i 0, z_i 0, z_i 0, z_i 0, .ref a1, .ref a2, .ref a3, .ref a4, z_i 0, z_i 0, .ref a5, .ref a6, .ref a7, .ref a8, .ref a9, z_i 0, z_i 0, .ref a10, .ref a11, .null, .null, z_i 0, z_i 0, z_i 0, .null, .null, z_i 0, .null]) from z_set_c (Ne.symm hqa12)) ?_
  refine z_putfinal hY rfl eX8_init_108 (z_set_at) rfl rfl (Nat.le_of_ble_eq_true rfl) ?_
  refine z_heq (show _ = z_set (z_sets [(a12, z_ia 30 (fun _ => 0)), (a11, z_ia 30 (fun _ => 0)), (a10, z_ia 30 (fun _ => 0)), (a9, z_ba 30 (fun _ => 0)), (a8, z_ia 30 (fun _ => 0)), (a7, z_ia 30 (fun _ => 0)), (a6, z_ia 30 (fun _ => 0)), (a5, z_ia 120 (fun _ => 0)), (a4, z_ba 4 (fun _ => 0)), (a3, z_ba 4 (fun _ => 0)), (a2, z_ia 16 (fun _ => 0)), (a1, z_ia 16 (fun _ => 0)), (a0, z_ia 100 (fun _ => 0))] h) q (z_ob 8 [z_i 0, .ref a0, z_i 0, z_i (-1), z_i 0, z_i 0, z_i 0, z_i 0, .ref a1, .ref a2, .ref a3, .ref a4, z_i 0, z_i 0, .ref a5, .ref a6, .ref a7, .ref a8, .ref a9, z_i 0, z_i 0, .ref a10, .ref a11, .ref a12, .null, z_i 0, z_i 0, z_i 0, .null, .null, z_i 0, .null]) from z_set_o) ?_
  refine z_aload hY eX8_init_111 0 rfl ?_
  refine z_const hY eX8_init_112 ?_
  refine z_newI (N := 30) hY eX8_init_114 wAI (by decide) (by rw [hmc, hms]; exact ⟨Nat.le_of_ble_eq_true rfl, Nat.le_of_ble_eq_true rfl⟩) (fun a13 hn => ?_)
  obtain ⟨hqa13, hn⟩ := z_set_new hn
  obtain ⟨hda13, hfa13⟩ := z_sets_new _ hn
  have hxa13a12 : a13 ≠ a12 := hda13 _ (List.Mem.head _)
  have hxa13a11 : a13 ≠ a11 := hda13 _ (List.Mem.tail _ (List.Mem.head _))
  have hxa13a10 : a13 ≠ a10 := hda13 _ (List.Mem.tail _ (List.Mem.tail _ (List.Mem.head _)))
  have hxa13a9 : a13 ≠ a9 := hda13 _ (List.Mem.tail _ (List.Mem.tail _ (List.Mem.tail _ (List.Mem.head _))))
  have hxa13a8 : a13 ≠ a8 := hda13 _ (List.Mem.tail _ (List.Mem.tail _ (List.Mem.tail _ (List.Mem.tail _ (List.Mem.head _)))))
  have hxa13a7 : a13 ≠ a7 := hda13 _ (List.Mem.tail _ (List.Mem.tail _ (List.Mem.tail _ (List.Mem.tail _ (List.Mem.tail _ (List.Mem.head _))))))
  have hxa13a6 : a13 ≠ a6 := hda13 _ (List.Mem.tail _ (List.Mem.tail _ (List.Mem.tail _ (List.Mem.tail _ (List.Mem.tail _ (List.Mem.tail _ (List.Mem.head _)))))))
  have hxa13a5 : a13 ≠ a5 := hda13 _ (List.Mem.tail _ (List.Mem.tail _ (List.Mem.tail _ (List.Mem.tail _ (List.Mem.tail _ (List.Mem.tail _ (List.Mem.tail _ (List.Mem.head _))))))))
  have hxa13a4 : a13 ≠ a4 := hda13 _ (List.Mem.tail _ (List.Mem.tail _ (List.Mem.tail _ (List.Mem.tail _ (List.Mem.tail _ (List.Mem.tail _ (List.Mem.tail _ (List.Mem.tail _ (List.Mem.head _)))))))))
  have hxa13a3 : a13 ≠ a3 := hda13 _ (List.Mem.tail _ (List.Mem.tail _ (List.Mem.tail _ (List.Mem.tail _ (List.Mem.tail _ (List.Mem.tail _ (List.Mem.tail _ (List.Mem.tail _ (List.Mem.tail _ (List.Mem.head _))))))))))
  have hxa13a2 : a13 ≠ a2 := hda13 _ (List.Mem.tail _ (List.Mem.tail _ (List.Mem.tail _ (List.Mem.tail _ (List.Mem.tail _ (List.Mem.tail _ (List.Mem.tail _ (List.Mem.tail _ (List.Mem.tail _ (List.Mem.tail _ (List.Mem.head _)))))))))))
  have hxa13a1 : a13 ≠ a1 := hda13 _ (List.Mem.tail _ (List.Mem.tail _ (List.Mem.tail _ (List.Mem.tail _ (List.Mem.tail _ (List.Mem.tail _ (List.Mem.tail _ (List.Mem.tail _ (List.Mem.tail _ (List.Mem.tail _ (List.Mem.tail _ (List.Mem.head _))))))))))))
  have hxa13a0 : a13 ≠ a0 := hda13 _ (List.Mem.tail _ (List.Mem.tail _ (List.Mem.tail _ (List.Mem.tail _ (List.Mem.tail _ (List.Mem.tail _ (List.Mem.tail _ (List.Mem.tail _ (List.Mem.tail _ (List.Mem.tail _ (List.Mem.tail _ (List.Mem.tail _ (List.Mem.head _)))))))))))))
  clear hda13
  refine z_heq (show _ = z_set (z_sets [(a13, z_ia 30 (fun _ => 0)), (a12, z_ia 30 (fun _ => 0)), (a11, z_ia 30 (fun _ => 0)), (a10, z_ia 30 (fun _ => 0)), (a9, z_ba 30 (fun _ => 0)), (a8, z_ia 30 (fun _ => 0)), (a7, z_ia 30 (fun _ => 0)), (a6, z_ia 30 (fun _ => 0)), (a5, z_ia 120 (fun _ => 0)), (a4, z_ba 4 (fun _ => 0)), (a3, z_ba 4 (fun _ => 0)), (a2, z_ia 16 (fun _ => 0)), (a1, z_ia 16 (fun _ => 0)), (a0, z_ia 100 (fun _ => 0))] h) q (z_ob 8 [z_i 0, .ref a0, z_i 0, z_i (-1), z_i 0, z_i 0, z_i 0, z_i 0, .ref a1, .ref a2, .ref a3, .ref a4, z_i 0, z_i 0, .ref a5, .ref a6, .ref a7, .ref a8, .ref a9, z_i 0, z_i 0, .ref a10, .ref a11, .ref a12, .null, z_i 0, z_i 0, z_i 0, .null, .null, z_i 0, .null]) from z_set_c (Ne.symm hqa13)) ?_
  refine z_putfinal hY rfl eX8_init_116 (z_set_at) rfl rfl (Nat.le_of_ble_eq_true rfl) ?_
  refine z_heq (show _ = z_set (z_sets [(a13, z_ia 30 (fun _ => 0)), (a12, z_ia 30 (fun _ => 0)), (a11, z_ia 30 (fun _ => 0)), (a10, z_ia 30 (fun _ => 0)), (a9, z_ba 30 (fun _ => 0)), (a8, z_ia 30 (fun _ => 0)), (a7, z_ia 30 (fun _ => 0)), (a6, z_ia 30 (fun _ => 0)), (a5, z_ia 120 (fun _ => 0)), (a4, z_ba 4 (fun _ => 0)), (a3, z_ba 4 (fun _ => 0)), (a2, z_ia 16 (fun _ => 0)), (a1, z_ia 16 (fun _ => 0)), (a0, z_ia 100 (fun _ => 0))] h) q (z_ob 8 [z_i 0, .ref a0, z_i 0, z_i (-1), z_i 0, z_i 0, z_i 0, z_i 0, .ref a1, .ref a2, .ref a3, .ref a4, z_i 0, z_i 0, .ref a5, .ref a6, .ref a7, .ref a8, .ref a9, z_i 0, z_i 0, .ref a10, .ref a11, .ref a12, .ref a13, z_i 0, z_i 0, z_i 0, .null, .null, z_i 0, .null]) from z_set_o) ?_
  refine z_aload hY eX8_init_119 0 rfl ?_
  refine z_const hY eX8_init_120 ?_
  refine z_putfield hY eX8_init_121 (z_set_at) rfl rfl (Nat.le_of_ble_eq_true rfl) ?_
  refine z_heq (show _ = z_set (z_sets [(a13, z_ia 30 (fun _ => 0)), (a12, z_ia 30 (fun _ => 0)), (a11, z_ia 30 (fun _ => 0)), (a10, z_ia 30 (fun _ => 0)), (a9, z_ba 30 (fun _ => 0)), (a8, z_ia 30 (fun _ => 0)), (a7, z_ia 30 (fun _ => 0)), (a6, z_ia 30 (fun _ => 0)), (a5, z_ia 120 (fun _ => 0)), (a4, z_ba 4 (fun _ => 0)), (a3, z_ba 4 (fun _ => 0)), (a2, z_ia 16 (fun _ => 0)), (a1, z_ia 16 (fun _ => 0)), (a0, z_ia 100 (fun _ => 0))] h) q (z_ob 8 [z_i 0, .ref a0, z_i 0, z_i (-1), z_i 0, z_i 0, z_i 0, z_i 0, .ref a1, .ref a2, .ref a3, .ref a4, z_i 0, z_i 0, .ref a5, .ref a6, .ref a7, .ref a8, .ref a9, z_i 0, z_i 0, .ref a10, .ref a11, .ref a12, .ref a13, z_i 0, z_i 2, z_i 0, .null, .null, z_i 0, .null]) from z_set_o) ?_
  refine z_aload hY eX8_init_124 0 rfl ?_
  refine z_const hY eX8_init_125 ?_
  refine z_putfield hY eX8_init_126 (z_set_at) rfl rfl (Nat.le_of_ble_eq_true rfl) ?_
  refine z_heq (show _ = z_set (z_sets [(a13, z_ia 30 (fun _ => 0)), (a12, z_ia 30 (fun _ => 0)), (a11, z_ia 30 (fun _ => 0)), (a10, z_ia 30 (fun _ => 0)), (a9, z_ba 30 (fun _ => 0)), (a8, z_ia 30 (fun _ => 0)), (a7, z_ia 30 (fun _ => 0)), (a6, z_ia 30 (fun _ => 0)), (a5, z_ia 120 (fun _ => 0)), (a4, z_ba 4 (fun _ => 0)), (a3, z_ba 4 (fun _ => 0)), (a2, z_ia 16 (fun _ => 0)), (a1, z_ia 16 (fun _ => 0)), (a0, z_ia 100 (fun _ => 0))] h) q (z_ob 8 [z_i 0, .ref a0, z_i 0, z_i (-1), z_i 0, z_i 0, z_i 0, z_i 0, .ref a1, .ref a2, .ref a3, .ref a4, z_i 0, z_i 0, .ref a5, .ref a6, .ref a7, .ref a8, .ref a9, z_i 0, z_i 0, .ref a10, .ref a11, .ref a12, .ref a13, z_i 0, z_i 2, z_i 3, .null, .null, z_i 0, .null]) from z_set_o) ?_
  refine z_aload hY eX8_init_129 0 rfl ?_
  refine z_const hY eX8_init_130 ?_
  refine z_newI (N := 6000) hY eX8_init_133 wAI (by decide) (by rw [hmc, hms]; exact ⟨Nat.le_of_ble_eq_true rfl, Nat.le_of_ble_eq_true rfl⟩) (fun a14 hn => ?_)
  obtain ⟨hqa14, hn⟩ := z_set_new hn
  obtain ⟨hda14, hfa14⟩ := z_sets_new _ hn
  have hxa14a13 : a14 ≠ a13 := hda14 _ (List.Mem.head _)
  have hxa14a12 : a14 ≠ a12 := hda14 _ (List.Mem.tail _ (List.Mem.head _))
  have hxa14a11 : a14 ≠ a11 := hda14 _ (List.Mem.tail _ (List.Mem.tail _ (List.Mem.head _)))
  have hxa14a10 : a14 ≠ a10 := hda14 _ (List.Mem.tail _ (List.Mem.tail _ (List.Mem.tail _ (List.Mem.head _))))
  have hxa14a9 : a14 ≠ a9 := hda14 _ (List.Mem.tail _ (List.Mem.tail _ (List.Mem.tail _ (List.Mem.tail _ (List.Mem.head _)))))
  have hxa14a8 : a14 ≠ a8 := hda14 _ (List.Mem.tail _ (List.Mem.tail _ (List.Mem.tail _ (List.Mem.tail _ (List.Mem.tail _ (List.Mem.head _))))))
  have hxa14a7 : a14 ≠ a7 := hda14 _ (List.Mem.tail _ (List.Mem.tail _ (List.Mem.tail _ (List.Mem.tail _ (List.Mem.tail _ (List.Mem.tail _ (List.Mem.head _)))))))
  have hxa14a6 : a14 ≠ a6 := hda14 _ (List.Mem.tail _ (List.Mem.tail _ (List.Mem.tail _ (List.Mem.tail _ (List.Mem.tail _ (List.Mem.tail _ (List.Mem.tail _ (List.Mem.head _))))))))
  have hxa14a5 : a14 ≠ a5 := hda14 _ (List.Mem.tail _ (List.Mem.tail _ (List.Mem.tail _ (List.Mem.tail _ (List.Mem.tail _ (List.Mem.tail _ (List.Mem.tail _ (List.Mem.tail _ (List.Mem.head _)))))))))
  have hxa14a4 : a14 ≠ a4 := hda14 _ (List.Mem.tail _ (List.Mem.tail _ (List.Mem.tail _ (List.Mem.tail _ (List.Mem.tail _ (List.Mem.tail _ (List.Mem.tail _ (List.Mem.tail _ (List.Mem.tail _ (List.Mem.head _))))))))))
  have hxa14a3 : a14 ≠ a3 := hda14 _ (List.Mem.tail _ (List.Mem.tail _ (List.Mem.tail _ (List.Mem.tail _ (List.Mem.tail _ (List.Mem.tail _ (List.Mem.tail _ (List.Mem.tail _ (List.Mem.tail _ (List.Mem.tail _ (List.Mem.head _)))))))))))
  have hxa14a2 : a14 ≠ a2 := hda14 _ (List.Mem.tail _ (List.Mem.tail _ (List.Mem.tail _ (List.Mem.tail _ (List.Mem.tail _ (List.Mem.tail _ (List.Mem.tail _ (List.Mem.tail _ (List.Mem.tail _ (List.Mem.tail _ (List.Mem.tail _ (List.Mem.head _))))))))))))
  have hxa14a1 : a14 ≠ a1 := hda14 _ (List.Mem.tail _ (List.Mem.tail _ (List.Mem.tail _ (List.Mem.tail _ (List.Mem.tail _ (List.Mem.tail _ (List.Mem.tail _ (List.Mem.tail _ (List.Mem.tail _ (List.Mem.tail _ (List.Mem.tail _ (List.Mem.tail _ (List.Mem.head _)))))))))))))
  have hxa14a0 : a14 ≠ a0 := hda14 _ (List.Mem.tail _ (List.Mem.tail _ (List.Mem.tail _ (List.Mem.tail _ (List.Mem.tail _ (List.Mem.tail _ (List.Mem.tail _ (List.Mem.tail _ (List.Mem.tail _ (List.Mem.tail _ (List.Mem.tail _ (List.Mem.tail _ (List.Mem.tail _ (List.Mem.head _))))))))))))))
  clear hda14
  refine z_heq (show _ = z_set (z_sets [(a14, z_ia 6000 (fun _ => 0)), (a13, z_ia 30 (fun _ => 0)), (a12, z_ia 30 (fun _ => 0)), (a11, z_ia 30 (fun _ => 0)), (a10, z_ia 30 (fun _ => 0)), (a9, z_ba 30 (fun _ => 0)), (a8, z_ia 30 (fun _ => 0)), (a7, z_ia 30 (fun _ => 0)), (a6, z_ia 30 (fun _ => 0)), (a5, z_ia 120 (fun _ => 0)), (a4, z_ba 4 (fun _ => 0)), (a3, z_ba 4 (fun _ => 0)), (a2, z_ia 16 (fun _ => 0)), (a1, z_ia 16 (fun _ => 0)), (a0, z_ia 100 (fun _ => 0))] h) q (z_ob 8 [z_i 0, .ref a0, z_i 0, z_i (-1), z_i 0, z_i 0, z_i 0, z_i 0, .ref a1, .ref a2, .ref a3, .ref a4, z_i 0, z_i 0, .ref a5, .ref a6, .ref a7, .ref a8, .ref a9, z_i 0, z_i 0, .ref a10, .ref a11, .ref a12, .ref a13, z_i 0, z_i 2, z_i 3, .null, .null, z_i 0, .null]) from z_set_c (Ne.symm hqa14)) ?_
  refine z_putfinal hY rfl eX8_init_135 (z_set_at) rfl rfl (Nat.le_of_ble_eq_true rfl) ?_
  refine z_heq (show _ = z_set (z_sets [(a14, z_ia 6000 (fun _ => 0)), (a13, z_ia 30 (fun _ => 0)), (a12, z_ia 30 (fun _ => 0)), (a11, z_ia 30 (fun _ => 0)), (a10, z_ia 30 (fun _ => 0)), (a9, z_ba 30 (fun _ => 0)), (a8, z_ia 30 (fun _ => 0)), (a7, z_ia 30 (fun _ => 0)), (a6, z_ia 30 (fun _ => 0)), (a5, z_ia 120 (fun _ => 0)), (a4, z_ba 4 (fun _ => 0)), (a3, z_ba 4 (fun _ => 0)), (a2, z_ia 16 (fun _ => 0)), (a1, z_ia 16 (fun _ => 0)), (a0, z_ia 100 (fun _ => 0))] h) q (z_ob 8 [z_i 0, .ref a0, z_i 0, z_i (-1), z_i 0, z_i 0, z_i 0, z_i 0, .ref a1, .ref a2, .ref a3, .ref a4, z_i 0, z_i 0, .ref a5, .ref a6, .ref a7, .ref a8, .ref a9, z_i 0, z_i 0, .ref a10, .ref a11, .ref a12, .ref a13, z_i 0, z_i 2, z_i 3, .ref a14, .null, z_i 0, .null]) from z_set_o) ?_
  refine z_aload hY eX8_init_138 0 rfl ?_
  refine z_const hY eX8_init_139 ?_
  refine z_newI (N := 600) hY eX8_init_142 wAI (by decide) (by rw [hmc, hms]; exact ⟨Nat.le_of_ble_eq_true rfl, Nat.le_of_ble_eq_true rfl⟩) (fun a15 hn => ?_)
  obtain ⟨hqa15, hn⟩ := z_set_new hn
  obtain ⟨hda15, hfa15⟩ := z_sets_new _ hn
  have hxa15a14 : a15 ≠ a14 := hda15 _ (List.Mem.head _)
  have hxa15a13 : a15 ≠ a13 := hda15 _ (List.Mem.tail _ (List.Mem.head _))
  have hxa15a12 : a15 ≠ a12 := hda15 _ (List.Mem.tail _ (List.Mem.tail _ (List.Mem.head _)))
  have hxa15a11 : a15 ≠ a11 := hda15 _ (List.Mem.tail _ (List.Mem.tail _ (List.Mem.tail _ (List.Mem.head _))))
  have hxa15a10 : a15 ≠ a10 := hda15 _ (List.Mem.tail _ (List.Mem.tail _ (List.Mem.tail _ (List.Mem.tail _ (List.Mem.head _)))))
  have hxa15a9 : a15 ≠ a9 := hda15 _ (List.Mem.tail _ (List.Mem.tail _ (List.Mem.tail _ (List.Mem.tail _ (List.Mem.tail _ (List.Mem.head _))))))
  have hxa15a8 : a15 ≠ a8 := hda15 _ (List.Mem.tail _ (List.Mem.tail _ (List.Mem.tail _ (List.Mem.tail _ (List.Mem.tail _ (List.Mem.tail _ (List.Mem.head _)))))))
  have hxa15a7 : a15 ≠ a7 := hda15 _ (List.Mem.tail _ (List.Mem.tail _ (List.Mem.tail _ (List.Mem.tail _ (List.Mem.tail _ (List.Mem.tail _ (List.Mem.tail _ (List.Mem.head _))))))))
  have hxa15a6 : a15 ≠ a6 := hda15 _ (List.Mem.tail _ (List.Mem.tail _ (List.Mem.tail _ (List.Mem.tail _ (List.Mem.tail _ (List.Mem.tail _ (List.Mem.tail _ (List.Mem.tail _ (List.Mem.head _)))))))))
  have hxa15a5 : a15 ≠ a5 := hda15 _ (List.Mem.tail _ (List.Mem.tail _ (List.Mem.tail _ (List.Mem.tail _ (List.Mem.tail _ (List.Mem.tail _ (List.Mem.tail _ (List.Mem.tail _ (List.Mem.tail _ (List.Mem.head _))))))))))
  have hxa15a4 : a15 ≠ a4 := hda15 _ (List.Mem.tail _ (List.Mem.tail _ (List.Mem.tail _ (List.Mem.tail _ (List.Mem.tail _ (List.Mem.tail _ (List.Mem.tail _ (List.Mem.tail _ (List.Mem.tail _ (List.Mem.tail _ (List.Mem.head _)))))))))))
  have hxa15a3 : a15 ≠ a3 := hda15 _ (List.Mem.tail _ (List.Mem.tail _ (List.Mem.tail _ (List.Mem.tail _ (List.Mem.tail _ (List.Mem.tail _ (List.Mem.tail _ (List.Mem.tail _ (List.Mem.tail _ (List.Mem.tail _ (List.Mem.tail _ (List.Mem.head _))))))))))))
  have hxa15a2 : a15 ≠ a2 := hda15 _ (List.Mem.tail _ (List.Mem.tail _ (List.Mem.tail _ (List.Mem.tail _ (List.Mem.tail _ (List.Mem.tail _ (List.Mem.tail _ (List.Mem.tail _ (List.Mem.tail _ (List.Mem.tail _ (List.Mem.tail _ (List.Mem.tail _ (List.Mem.head _)))))))))))))
  have hxa15a1 : a15 ≠ a1 := hda15 _ (List.Mem.tail _ (List.Mem.tail _ (List.Mem.tail _ (List.Mem.tail _ (List.Mem.tail _ (List.Mem.tail _ (List.Mem.tail _ (List.Mem.tail _ (List.Mem.tail _ (List.Mem.tail _ (List.Mem.tail _ (List.Mem.tail _ (List.Mem.tail _ (List.Mem.head _))))))))))))))
  have hxa15a0 : a15 ≠ a0 := hda15 _ (List.Mem.tail _ (List.Mem.tail _ (List.Mem.tail _ (List.Mem.tail _ (List.Mem.tail _ (List.Mem.tail _ (List.Mem.tail _ (List.Mem.tail _ (List.Mem.tail _ (List.Mem.tail _ (List.Mem.tail _ (List.Mem.tail _ (List.Mem.tail _ (List.Mem.tail _ (List.Mem.head _)))))))))))))))
  clear hda15
  refine z_heq (show _ = z_set (z_sets [(a15, z_ia 600 (fun _ => 0)), (a14, z_ia 6000 (fun _ => 0)), (a13, z_ia 30 (fun _ => 0)), (a12, z_ia 30 (fun _ => 0)), (a11, z_ia 30 (fun _ => 0)), (a10, z_ia 30 (fun _ => 0)), (a9, z_ba 30 (fun _ => 0)), (a8, z_ia 30 (fun _ => 0)), (a7, z_ia 30 (fun _ => 0)), (a6, z_ia 30 (fun _ => 0)), (a5, z_ia 120 (fun _ => 0)), (a4, z_ba 4 (fun _ => 0)), (a3, z_ba 4 (fun _ => 0)), (a2, z_ia 16 (fun _ => 0)), (a1, z_ia 16 (fun _ => 0)), (a0, z_ia 100 (fun _ => 0))] h) q (z_ob 8 [z_i 0, .ref a0, z_i 0, z_i (-1), z_i 0, z_i 0, z_i 0, z_i 0, .ref a1, .ref a2, .ref a3, .ref a4, z_i 0, z_i 0, .ref a5, .ref a6, .ref a7, .ref a8, .ref a9, z_i 0, z_i 0, .ref a10, .ref a11, .ref a12, .ref a13, z_i 0, z_i 2, z_i 3, .ref a14, .null, z_i 0, .null]) from z_set_c (Ne.symm hqa15)) ?_
  refine z_putfinal hY rfl eX8_init_144 (z_set_at) rfl rfl (Nat.le_of_ble_eq_true rfl) ?_
  refine z_heq (show _ = z_set (z_sets [(a15, z_ia 600 (fun _ => 0)), (a14, z_ia 6000 (fun _ => 0)), (a13, z_ia 30 (fun _ => 0)), (a12, z_ia 30 (fun _ => 0)), (a11, z_ia 30 (fun _ => 0)), (a10, z_ia 30 (fun _ => 0)), (a9, z_ba 30 (fun _ => 0)), (a8, z_ia 30 (fun _ => 0)), (a7, z_ia 30 (fun _ => 0)), (a6, z_ia 30 (fun _ => 0)), (a5, z_ia 120 (fun _ => 0)), (a4, z_ba 4 (fun _ => 0)), (a3, z_ba 4 (fun _ => 0)), (a2, z_ia 16 (fun _ => 0)), (a1, z_ia 16 (fun _ => 0)), (a0, z_ia 100 (fun _ => 0))] h) q (z_ob 8 [z_i 0, .ref a0, z_i 0, z_i (-1), z_i 0, z_i 0, z_i 0, z_i 0, .ref a1, .ref a2, .ref a3, .ref a4, z_i 0, z_i 0, .ref a5, .ref a6, .ref a7, .ref a8, .ref a9, z_i 0, z_i 0, .ref a10, .ref a11, .ref a12, .ref a13, z_i 0, z_i 2, z_i 3, .ref a14, .ref a15, z_i 0, .null]) from z_set_o) ?_
  refine z_aload hY eX8_init_147 0 rfl ?_
  refine z_const hY eX8_init_148 ?_
  refine z_newI (N := 10) hY eX8_init_150 wAI (by decide) (by rw [hmc, hms]; exact ⟨Nat.le_of_ble_eq_true rfl, Nat.le_of_ble_eq_true rfl⟩) (fun a16 hn => ?_)
  obtain ⟨hqa16, hn⟩ := z_set_new hn
  obtain ⟨hda16, hfa16⟩ := z_sets_new _ hn
  have hxa16a15 : a16 ≠ a15 := hda16 _ (List.Mem.head _)
  have hxa16a14 : a16 ≠ a14 := hda16 _ (List.Mem.tail _ (List.Mem.head _))
  have hxa16a13 : a16 ≠ a13 := hda16 _ (List.Mem.tail _ (List.Mem.tail _ (List.Mem.head _)))
  have hxa16a12 : a16 ≠ a12 := hda16 _ (List.Mem.tail _ (List.Mem.tail _ (List.Mem.tail _ (List.Mem.head _))))
  have hxa16a11 : a16 ≠ a11 := hda16 _ (List.Mem.tail _ (List.Mem.tail _ (List.Mem.tail _ (List.Mem.tail _ (List.Mem.head _)))))
  have hxa16a10 : a16 ≠ a10 := hda16 _ (List.Mem.tail _ (List.Mem.tail _ (List.Mem.tail _ (List.Mem.tail _ (List.Mem.tail _ (List.Mem.head _))))))
  have hxa16a9 : a16 ≠ a9 := hda16 _ (List.Mem.tail _ (List.Mem.tail _ (List.Mem.tail _ (List.Mem.tail _ (List.Mem.tail _ (List.Mem.tail _ (List.Mem.head _)))))))
  have hxa16a8 : a16 ≠ a8 := hda16 _ (List.Mem.tail _ (List.Mem.tail _ (List.Mem.tail _ (List.Mem.tail _ (List.Mem.tail _ (List.Mem.tail _ (List.Mem.tail _ (List.Mem.head _))))))))
  have hxa16a7 : a16 ≠ a7 := hda16 _ (List.Mem.tail _ (List.Mem.tail _ (List.Mem.tail _ (List.Mem.tail _ (List.Mem.tail _ (List.Mem.tail _ (List.Mem.tail _ (List.Mem.tail _ (List.Mem.head _)))))))))
  have hxa16a6 : a16 ≠ a6 := hda16 _ (List.Mem.tail _ (List.Mem.tail _ (List.Mem.tail _ (List.Mem.tail _ (List.Mem.tail _ (List.Mem.tail _ (List.Mem.tail _ (List.Mem.tail _ (List.Mem.tail _ (List.Mem.head _))))))))))
  have hxa16a5 : a16 ≠ a5 := hda16 _ (List.Mem.tail _ (List.Mem.tail _ (List.Mem.tail _ (List.Mem.tail _ (List.Mem.tail _ (List.Mem.tail _ (List.Mem.tail _ (List.Mem.tail _ (List.Mem.tail _ (List.Mem.tail _ (List.Mem.head _)))))))))))
  have hxa16a4 : a16 ≠ a4 := hda16 _ (List.Mem.tail _ (List.Mem.tail _ (List.Mem.tail _ (List.Mem.tail _ (List.Mem.tail _ (List.Mem.tail _ (List.Mem.tail _ (List.Mem.tail _ (List.Mem.tail _ (List.Mem.tail _ (List.Mem.tail _ (List.Mem.head _))))))))))))
  have hxa16a3 : a16 ≠ a3 := hda16 _ (List.Mem.tail _ (List.Mem.tail _ (List.Mem.tail _ (List.Mem.tail _ (List.Mem.tail _ (List.Mem.tail _ (List.Mem.tail _ (List.Mem.tail _ (List.Mem.tail _ (List.Mem.tail _ (List.Mem.tail _ (List.Mem.tail _ (List.Mem.head _)))))))))))))
  have hxa16a2 : a16 ≠ a2 := hda16 _ (List.Mem.tail _ (List.Mem.tail _ (List.Mem.tail _ (List.Mem.tail _ (List.Mem.tail _ (List.Mem.tail _ (List.Mem.tail _ (List.Mem.tail _ (List.Mem.tail _ (List.Mem.tail _ (List.Mem.tail _ (List.Mem.tail _ (List.Mem.tail _ (List.Mem.head _))))))))))))))
  have hxa16a1 : a16 ≠ a1 := hda16 _ (List.Mem.tail _ (List.Mem.tail _ (List.Mem.tail _ (List.Mem.tail _ (List.Mem.tail _ (List.Mem.tail _ (List.Mem.tail _ (List.Mem.tail _ (List.Mem.tail _ (List.Mem.tail _ (List.Mem.tail _ (List.Mem.tail _ (List.Mem.tail _ (List.Mem.tail _ (List.Mem.head _)))))))))))))))
  have hxa16a0 : a16 ≠ a0 := hda16 _ (List.Mem.tail _ (List.Mem.tail _ (List.Mem.tail _ (List.Mem.tail _ (List.Mem.tail _ (List.Mem.tail _ (List.Mem.tail _ (List.Mem.tail _ (List.Mem.tail _ (List.Mem.tail _ (List.Mem.tail _ (List.Mem.tail _ (List.Mem.tail _ (List.Mem.tail _ (List.Mem.tail _ (List.Mem.head _))))))))))))))))
  clear hda16
  refine z_heq (show _ = z_set (z_sets [(a16, z_ia 10 (fun _ => 0)), (a15, z_ia 600 (fun _ => 0)), (a14, z_ia 6000 (fun _ => 0)), (a13, z_ia 30 (fun _ => 0)), (a12, z_ia 30 (fun _ => 0)), (a11, z_ia 30 (fun _ => 0)), (a10, z_ia 30 (fun _ => 0)), (a9, z_ba 30 (fun _ => 0)), (a8, z_ia 30 (fun _ => 0)), (a7, z_ia 30 (fun _ => 0)), (a6, z_ia 30 (fun _ => 0)), (a5, z_ia 120 (fun _ => 0)), (a4, z_ba 4 (fun _ => 0)), (a3, z_ba 4 (fun _ => 0)), (a2, z_ia 16 (fun _ => 0)), (a1, z_ia 16 (fun _ => 0)), (a0, z_ia 100 (fun _ => 0))] h) q (z_ob 8 [z_i 0, .ref a0, z_i 0, z_i (-1), z_i 0, z_i 0, z_i 0, z_i 0, .ref a1, .ref a2, .ref a3, .ref a4, z_i 0, z_i 0, .ref a5, .ref a6, .ref a7, .ref a8, .ref a9, z_i 0, z_i 0, .ref a10, .ref a11, .ref a12, .ref a13, z_i 0, z_i 2, z_i 3, .ref a14, .ref a15, z_i 0, .null]) from z_set_c (Ne.symm hqa16)) ?_
  refine z_putfinal hY rfl eX8_init_152 (z_set_at) rfl rfl (Nat.le_of_ble_eq_true rfl) ?_
  refine z_heq (show _ = z_set (z_sets [(a16, z_ia 10 (fun _ => 0)), (a15, z_ia 600 (fun _ => 0)), (a14, z_ia 6000 (fun _ => 0)), (a13, z_ia 30 (fun _ => 0)), (a12, z_ia 30 (fun _ => 0)), (a11, z_ia 30 (fun _ => 0)), (a10, z_ia 30 (fun _ => 0)), (a9, z_ba 30 (fun _ => 0)), (a8, z_ia 30 (fun _ => 0)), (a7, z_ia 30 (fun _ => 0)), (a6, z_ia 30 (fun _ => 0)), (a5, z_ia 120 (fun _ => 0)), (a4, z_ba 4 (fun _ => 0)), (a3, z_ba 4 (fun _ => 0)), (a2, z_ia 16 (fun _ => 0)), (a1, z_ia 16 (fun _ => 0)), (a0, z_ia 100 (fun _ => 0))] h) q (z_ob 8 [z_i 0, .ref a0, z_i 0, z_i (-1), z_i 0, z_i 0, z_i 0, z_i 0, .ref a1, .ref a2, .ref a3, .ref a4, z_i 0, z_i 0, .ref a5, .ref a6, .ref a7, .ref a8, .ref a9, z_i 0, z_i 0, .ref a10, .ref a11, .ref a12, .ref a13, z_i 0, z_i 2, z_i 3, .ref a14, .ref a15, z_i 0, .ref a16]) from z_set_o) ?_
  obtain ⟨A, hAe⟩ : ∃ A : Nat → Nat, A = (fun k => if k = 40 then q else if k = 1 then a0 else if k = 8 then a1 else if k = 9 then a2 else if k = 10 then a3 else if k = 11 then a4 else if k = 14 then a5 else if k = 15 then a6 else if k = 16 then a7 else if k = 17 then a8 else if k = 18 then a9 else if k = 21 then a10 else if k = 22 then a11 else if k = 23 then a12 else if k = 24 then a13 else if k = 28 then a14 else if k = 29 then a15 else if k = 31 then a16 else 0) := ⟨_, rfl⟩
  have hA40 : A 40 = q := by rw [hAe]; rfl
  have hA1 : A 1 = a0 := by rw [hAe]; rfl
  have hA8 : A 8 = a1 := by rw [hAe]; rfl
  have hA9 : A 9 = a2 := by rw [hAe]; rfl
  have hA10 : A 10 = a3 := by rw [hAe]; rfl
  have hA11 : A 11 = a4 := by rw [hAe]; rfl
  have hA14 : A 14 = a5 := by rw [hAe]; rfl
  have hA15 : A 15 = a6 := by rw [hAe]; rfl
  have hA16 : A 16 = a7 := by rw [hAe]; rfl
  have hA17 : A 17 = a8 := by rw [hAe]; rfl
  have hA18 : A 18 = a9 := by rw [hAe]; rfl
  have hA21 : A 21 = a10 := by rw [hAe]; rfl
  have hA22 : A 22 = a11 := by rw [hAe]; rfl
  have hA23 : A 23 = a12 := by rw [hAe]; rfl
  have hA24 : A 24 = a13 := by rw [hAe]; rfl
  have hA28 : A 28 = a14 := by rw [hAe]; rfl
  have hA29 : A 29 = a15 := by rw [hAe]; rfl
  have hA31 : A 31 = a16 := by rw [hAe]; rfl
  have hrev : z_sets [(a16, z_ia 10 (fun _ => 0)), (a15, z_ia 600 (fun _ => 0)), (a14, z_ia 6000 (fun _ => 0)), (a13, z_ia 30 (fun _ => 0)), (a12, z_ia 30 (fun _ => 0)), (a11, z_ia 30 (fun _ => 0)), (a10, z_ia 30 (fun _ => 0)), (a9, z_ba 30 (fun _ => 0)), (a8, z_ia 30 (fun _ => 0)), (a7, z_ia 30 (fun _ => 0)), (a6, z_ia 30 (fun _ => 0)), (a5, z_ia 120 (fun _ => 0)), (a4, z_ba 4 (fun _ => 0)), (a3, z_ba 4 (fun _ => 0)), (a2, z_ia 16 (fun _ => 0)), (a1, z_ia 16 (fun _ => 0)), (a0, z_ia 100 (fun _ => 0))] h = z_sets [(a0, z_ia 100 (fun _ => 0)), (a1, z_ia 16 (fun _ => 0)), (a2, z_ia 16 (fun _ => 0)), (a3, z_ba 4 (fun _ => 0)), (a4, z_ba 4 (fun _ => 0)), (a5, z_ia 120 (fun _ => 0)), (a6, z_ia 30 (fun _ => 0)), (a7, z_ia 30 (fun _ => 0)), (a8, z_ia 30 (fun _ => 0)), (a9, z_ba 30 (fun _ => 0)), (a10, z_ia 30 (fun _ => 0)), (a11, z_ia 30 (fun _ => 0)), (a12, z_ia 30 (fun _ => 0)), (a13, z_ia 30 (fun _ => 0)), (a14, z_ia 6000 (fun _ => 0)), (a15, z_ia 600 (fun _ => 0)), (a16, z_ia 10 (fun _ => 0))] h := by
    have e0 : ∀ (l : List (Nat × va_E)) (l2 : List (Nat × va_E)), (l.map (·.1)).Nodup → (∀ q ∈ l, ∀ r ∈ l2, q.1 ≠ r.1) → z_sets (l ++ l2) h = z_sets (l.reverse ++ l2) h := by
      intro l
      induction l with
      | nil => intro l2 _ _; rfl
      | cons a l ih =>
        intro l2 hnd hd
        rw [List.map_cons, List.nodup_cons] at hnd
        have h1 : z_sets (a :: l ++ l2) h = z_set (z_sets (l ++ l2) h) a.1 a.2 := rfl
        have h2 : ∀ l3 : List (Nat × va_E), (∀ q ∈ l3, a.1 ≠ q.1) → ∀ h0 : z_H, z_set (z_sets l3 h0) a.1 a.2 = z_sets l3 (z_set h0 a.1 a.2) := by
          intro l3
          induction l3 with
          | nil => intro _ _; rfl
          | cons b l3 ih3 =>
            intro hb h0
            show z_set (z_set (z_sets l3 h0) b.1 b.2) a.1 a.2 = z_set (z_sets l3 (z_set h0 a.1 a.2)) b.1 b.2
            rw [z_set_c (fun e => hb b List.mem_cons_self e.symm), ih3 (fun r hr => hb r (List.mem_cons_of_mem _ hr))]
        have h3 : ∀ l3 l4 : List (Nat × va_E), z_sets (l3 ++ l4) h = z_sets l3 (z_sets l4 h) := by
          intro l3 l4
          induction l3 with
          | nil => rfl
          | cons b l3 ih3 => show z_set _ _ _ = z_set _ _ _; rw [show z_sets (l3.append l4) h = z_sets (l3 ++ l4) h from rfl, ih3]
        rw [List.reverse_cons, List.append_assoc, h1, h3 l.reverse]
        show _ = z_sets l.reverse (z_set (z_sets l2 h) a.1 a.2)
        rw [← h2 l.reverse (fun q hq e => hnd.1 (by rw [e]; exact List.mem_map_of_mem (List.mem_reverse.mp hq))), ← h3, ih l2 hnd.2 (fun q hq r hr => hd q (List.mem_cons_of_mem _ hq) r hr)]
    have := e0 [(a16, z_ia 10 (fun _ => 0)), (a15, z_ia 600 (fun _ => 0)), (a14, z_ia 6000 (fun _ => 0)), (a13, z_ia 30 (fun _ => 0)), (a12, z_ia 30 (fun _ => 0)), (a11, z_ia 30 (fun _ => 0)), (a10, z_ia 30 (fun _ => 0)), (a9, z_ba 30 (fun _ => 0)), (a8, z_ia 30 (fun _ => 0)), (a7, z_ia 30 (fun _ => 0)), (a6, z_ia 30 (fun _ => 0)), (a5, z_ia 120 (fun _ => 0)), (a4, z_ba 4 (fun _ => 0)), (a3, z_ba 4 (fun _ => 0)), (a2, z_ia 16 (fun _ => 0)), (a1, z_ia 16 (fun _ => 0)), (a0, z_ia 100 (fun _ => 0))] [] ?_ (fun _ _ r hr => (List.not_mem_nil hr).elim)
    · exact this
    · show List.Nodup [a16, a15, a14, a13, a12, a11, a10, a9, a8, a7, a6, a5, a4, a3, a2, a1, a0]
      simp only [List.nodup_cons, List.mem_cons, List.not_mem_nil, or_false, not_or, not_false_eq_true, List.nodup_nil, and_true]
      exact ⟨⟨hxa16a15, hxa16a14, hxa16a13, hxa16a12, hxa16a11, hxa16a10, hxa16a9, hxa16a8, hxa16a7, hxa16a6, hxa16a5, hxa16a4, hxa16a3, hxa16a2, hxa16a1, hxa16a0⟩, ⟨hxa15a14, hxa15a13, hxa15a12, hxa15a11, hxa15a10, hxa15a9, hxa15a8, hxa15a7, hxa15a6, hxa15a5, hxa15a4, hxa15a3, hxa15a2, hxa15a1, hxa15a0⟩, ⟨hxa14a13, hxa14a12, hxa14a11, hxa14a10, hxa14a9, hxa14a8, hxa14a7, hxa14a6, hxa14a5, hxa14a4, hxa14a3, hxa14a2, hxa14a1, hxa14a0⟩, ⟨hxa13a12, hxa13a11, hxa13a10, hxa13a9, hxa13a8, hxa13a7, hxa13a6, hxa13a5, hxa13a4, hxa13a3, hxa13a2, hxa13a1, hxa13a0⟩, ⟨hxa12a11, hxa12a10, hxa12a9, hxa12a8, hxa12a7, hxa12a6, hxa12a5, hxa12a4, hxa12a3, hxa12a2, hxa12a1, hxa12a0⟩, ⟨hxa11a10, hxa11a9, hxa11a8, hxa11a7, hxa11a6, hxa11a5, hxa11a4, hxa11a3, hxa11a2, hxa11a1, hxa11a0⟩, ⟨hxa10a9, hxa10a8, hxa10a7, hxa10a6, hxa10a5, hxa10a4, hxa10a3, hxa10a2, hxa10a1, hxa10a0⟩, ⟨hxa9a8, hxa9a7, hxa9a6, hxa9a5, hxa9a4, hxa9a3, hxa9a2, hxa9a1, hxa9a0⟩, ⟨hxa8a7, hxa8a6, hxa8a5, hxa8a4, hxa8a3, hxa8a2, hxa8a1, hxa8a0⟩, ⟨hxa7a6, hxa7a5, hxa7a4, hxa7a3, hxa7a2, hxa7a1, hxa7a0⟩, ⟨hxa6a5, hxa6a4, hxa6a3, hxa6a2, hxa6a1, hxa6a0⟩, ⟨hxa5a4, hxa5a3, hxa5a2, hxa5a1, hxa5a0⟩, ⟨hxa4a3, hxa4a2, hxa4a1, hxa4a0⟩, ⟨hxa3a2, hxa3a1, hxa3a0⟩, ⟨hxa2a1, hxa2a0⟩, hxa1a0⟩
  have hA : mI A := by
    refine z_inj mK ?_
    show List.Nodup [A 40, A 1, A 8, A 9, A 10, A 11, A 14, A 15, A 16, A 17, A 18, A 21, A 22, A 23, A 24, A 28, A 29, A 31]
    rw [hA40, hA1, hA8, hA9, hA10, hA11, hA14, hA15, hA16, hA17, hA18, hA21, hA22, hA23, hA24, hA28, hA29, hA31]
    simp only [List.nodup_cons, List.mem_cons, List.not_mem_nil, or_false, not_or, not_false_eq_true, List.nodup_nil, and_true]
    exact ⟨⟨Ne.symm hqa0, Ne.symm hqa1, Ne.symm hqa2, Ne.symm hqa3, Ne.symm hqa4, Ne.symm hqa5, Ne.symm hqa6, Ne.symm hqa7, Ne.symm hqa8, Ne.symm hqa9, Ne.symm hqa10, Ne.symm hqa11, Ne.symm hqa12, Ne.symm hqa13, Ne.symm hqa14, Ne.symm hqa15, Ne.symm hqa16⟩, ⟨Ne.symm hxa1a0, Ne.symm hxa2a0, Ne.symm hxa3a0, Ne.symm hxa4a0, Ne.symm hxa5a0, Ne.symm hxa6a0, Ne.symm hxa7a0, Ne.symm hxa8a0, Ne.symm hxa9a0, Ne.symm hxa10a0, Ne.symm hxa11a0, Ne.symm hxa12a0, Ne.symm hxa13a0, Ne.symm hxa14a0, Ne.symm hxa15a0, Ne.symm hxa16a0⟩, ⟨Ne.symm hxa2a1, Ne.symm hxa3a1, Ne.symm hxa4a1, Ne.symm hxa5a1, Ne.symm hxa6a1, Ne.symm hxa7a1, Ne.symm hxa8a1, Ne.symm hxa9a1, Ne.symm hxa10a1, Ne.symm hxa11a1, Ne.symm hxa12a1, Ne.symm hxa13a1, Ne.symm hxa14a1, Ne.symm hxa15a1, Ne.symm hxa16a1⟩, ⟨Ne.symm hxa3a2, Ne.symm hxa4a2, Ne.symm hxa5a2, Ne.symm hxa6a2, Ne.symm hxa7a2, Ne.symm hxa8a2, Ne.symm hxa9a2, Ne.symm hxa10a2, Ne.symm hxa11a2, Ne.symm hxa12a2, Ne.symm hxa13a2, Ne.symm hxa14a2, Ne.symm hxa15a2, Ne.symm hxa16a2⟩, ⟨Ne.symm hxa4a3, Ne.symm hxa5a3, Ne.symm hxa6a3, Ne.symm hxa7a3, Ne.symm hxa8a3, Ne.symm hxa9a3, Ne.symm hxa10a3, Ne.symm hxa11a3, Ne.symm hxa12a3, Ne.symm hxa13a3, Ne.symm hxa14a3, Ne.symm hxa15a3, Ne.symm hxa16a3⟩, ⟨Ne.symm hxa5a4, Ne.symm hxa6a4, Ne.symm hxa7a4, Ne.symm hxa8a4, Ne.symm hxa9a4, Ne.symm hxa10a4, Ne.symm hxa11a4, Ne.symm hxa12a4, Ne.symm hxa13a4, Ne.symm hxa14a4, Ne.symm hxa15a4, Ne.symm hxa16a4⟩, ⟨Ne.symm hxa6a5, Ne.symm hxa7a5, Ne.symm hxa8a5, Ne.symm hxa9a5, Ne.symm hxa10a5, Ne.symm hxa11a5, Ne.symm hxa12a5, Ne.symm hxa13a5, Ne.symm hxa14a5, Ne.symm hxa15a5, Ne.symm hxa16a5⟩, ⟨Ne.symm hxa7a6, Ne.symm hxa8a6, Ne.symm hxa9a6, Ne.symm hxa10a6, Ne.symm hxa11a6, Ne.symm hxa12a6, Ne.symm hxa13a6, Ne.symm hxa14a6, Ne.symm hxa15a6, Ne.symm hxa16a6⟩, ⟨Ne.symm hxa8a7, Ne.symm hxa9a7, Ne.symm hxa10a7, Ne.symm hxa11a7, Ne.symm hxa12a7, Ne.symm hxa13a7, Ne.symm hxa14a7, Ne.symm hxa15a7, Ne.symm hxa16a7⟩, ⟨Ne.symm hxa9a8, Ne.symm hxa10a8, Ne.symm hxa11a8, Ne.symm hxa12a8, Ne.symm hxa13a8, Ne.symm hxa14a8, Ne.symm hxa15a8, Ne.symm hxa16a8⟩, ⟨Ne.symm hxa10a9, Ne.symm hxa11a9, Ne.symm hxa12a9, Ne.symm hxa13a9, Ne.symm hxa14a9, Ne.symm hxa15a9, Ne.symm hxa16a9⟩, ⟨Ne.symm hxa11a10, Ne.symm hxa12a10, Ne.symm hxa13a10, Ne.symm hxa14a10, Ne.symm hxa15a10, Ne.symm hxa16a10⟩, ⟨Ne.symm hxa12a11, Ne.symm hxa13a11, Ne.symm hxa14a11, Ne.symm hxa15a11, Ne.symm hxa16a11⟩, ⟨Ne.symm hxa13a12, Ne.symm hxa14a12, Ne.symm hxa15a12, Ne.symm hxa16a12⟩, ⟨Ne.symm hxa14a13, Ne.symm hxa15a13, Ne.symm hxa16a13⟩, ⟨Ne.symm hxa15a14, Ne.symm hxa16a14⟩, Ne.symm hxa16a15⟩
  refine z_heq (show z_set (z_sets [(a16, z_ia 10 (fun _ => 0)), (a15, z_ia 600 (fun _ => 0)), (a14, z_ia 6000 (fun _ => 0)), (a13, z_ia 30 (fun _ => 0)), (a12, z_ia 30 (fun _ => 0)), (a11, z_ia 30 (fun _ => 0)), (a10, z_ia 30 (fun _ => 0)), (a9, z_ba 30 (fun _ => 0)), (a8, z_ia 30 (fun _ => 0)), (a7, z_ia 30 (fun _ => 0)), (a6, z_ia 30 (fun _ => 0)), (a5, z_ia 120 (fun _ => 0)), (a4, z_ba 4 (fun _ => 0)), (a3, z_ba 4 (fun _ => 0)), (a2, z_ia 16 (fun _ => 0)), (a1, z_ia 16 (fun _ => 0)), (a0, z_ia 100 (fun _ => 0))] h) q (z_ob 8 [z_i 0, .ref a0, z_i 0, z_i (-1), z_i 0, z_i 0, z_i 0, z_i 0, .ref a1, .ref a2, .ref a3, .ref a4, z_i 0, z_i 0, .ref a5, .ref a6, .ref a7, .ref a8, .ref a9, z_i 0, z_i 0, .ref a10, .ref a11, .ref a12, .ref a13, z_i 0, z_i 2, z_i 3, .ref a14, .ref a15, z_i 0, .ref a16]) = mH A yI0 h from ?_) ?_
  · rw [hrev]
    unfold mH
    show _ = z_set (mHs A yI0 [1, 8, 9, 10, 11, 14, 15, 16, 17, 18, 21, 22, 23, 24, 28, 29, 31] h) (A 40) (z_ob 8 (mF A yI0))
    have hF : mF A yI0 = [z_i 0, .ref a0, z_i 0, z_i (-1), z_i 0, z_i 0, z_i 0, z_i 0, .ref a1, .ref a2, .ref a3, .ref a4, z_i 0, z_i 0, .ref a5, .ref a6, .ref a7, .ref a8, .ref a9, z_i 0, z_i 0, .ref a10, .ref a11, .ref a12, .ref a13, z_i 0, z_i 2, z_i 3, .ref a14, .ref a15, z_i 0, .ref a16] := by
      unfold mF
      rw [hA1, hA8, hA9, hA10, hA11, hA14, hA15, hA16, hA17, hA18, hA21, hA22, hA23, hA24, hA28, hA29, hA31]
      rfl
    rw [hF, hA40]
    refine congrArg (fun r => z_set r q _) ?_
    show _ = z_set (z_set (z_set (z_set (z_set (z_set (z_set (z_set (z_set (z_set (z_set (z_set (z_set (z_set (z_set (z_set (z_set (h) (A 31) (mC A yI0 31)) (A 29) (mC A yI0 29)) (A 28) (mC A yI0 28)) (A 24) (mC A yI0 24)) (A 23) (mC A yI0 23)) (A 22) (mC A yI0 22)) (A 21) (mC A yI0 21)) (A 18) (mC A yI0 18)) (A 17) (mC A yI0 17)) (A 16) (mC A yI0 16)) (A 15) (mC A yI0 15)) (A 14) (mC A yI0 14)) (A 11) (mC A yI0 11)) (A 10) (mC A yI0 10)) (A 9) (mC A yI0 9)) (A 8) (mC A yI0 8)) (A 1) (mC A yI0 1)
    rw [hA1, hA8, hA9, hA10, hA11, hA14, hA15, hA16, hA17, hA18, hA21, hA22, hA23, hA24, hA28, hA29, hA31]
    rfl
  rw [← hA40]
  refine z_aload hY eX8_init_155 0 rfl ?_
  refine z_const hY eX8_init_156 ?_
  refine m_pf hY hA eX8_init_157 (by decide) ?_
  refine z_aload hY eX8_init_160 0 rfl ?_
  refine m_gf hY hA eX8_init_161 (v := .ref (A 8)) rfl ?_
  refine z_const hY eX8_init_164 ?_
  refine z_const hY eX8_init_165 ?_
  refine m_ias hY hA eX8_init_166 (j := 8) (N := 16) (by decide) (fun _ => rfl) (by omega) ?_
  refine z_aload hY eX8_init_167 0 rfl ?_
  refine m_gf hY hA eX8_init_168 (v := .ref (A 10)) rfl ?_
  refine z_const hY eX8_init_171 ?_
  refine z_const hY eX8_init_172 ?_
  refine m_bas hY hA eX8_init_173 (j := 10) (N := 4) (by decide) (fun _ => rfl) (by omega) (by first | omega | exact z_bl01 _) ?_
  exact z_return hY eX8_init_174 rfl (by rw [hφ]; exact ⟨rfl, A, hA, hA40, rfl, fun k hk hk0 => by simp only [mK, List.mem_cons, List.not_mem_nil, or_false] at hk; rcases hk with rfl | rfl | rfl | rfl | rfl | rfl | rfl | rfl | rfl | rfl | rfl | rfl | rfl | rfl | rfl | rfl | rfl | rfl <;> first | exact absurd rfl hk0 | (first | (rw [hA1]; exact hfa0) | (rw [hA8]; exact hfa1) | (rw [hA9]; exact hfa2) | (rw [hA10]; exact hfa3) | (rw [hA11]; exact hfa4) | (rw [hA14]; exact hfa5) | (rw [hA15]; exact hfa6) | (rw [hA16]; exact hfa7) | (rw [hA17]; exact hfa8) | (rw [hA18]; exact hfa9) | (rw [hA21]; exact hfa10) | (rw [hA22]; exact hfa11) | (rw [hA23]; exact hfa12) | (rw [hA24]; exact hfa13) | (rw [hA28]; exact hfa14) | (rw [hA29]; exact hfa15) | (rw [hA31]; exact hfa16))⟩) (by rw [hmc, hms]; exact ⟨Nat.le_of_ble_eq_true rfl, Nat.le_of_ble_eq_true rfl⟩)
end FPS
