/-! THE BUILDER: statics, small readers. -/
section LVD
/-- a static of the launch, below what the call makes -/
def z_ZZ (G : z_G) (C n ds : String) (v : Value) : Prop := va_Z C n ds v (z_A G) G.2.1 G.2.1.heap
section
variable {Y : z_Y} {d : Nat} {M : z_M} {pc pc' : Nat} {ls : List (Nat × Value)} {st : List Value} {h : z_H} {k n : Nat}
theorem z_gets {ix : Nat} {C fn ds : String} {v : Value} (hY : z_ok Y d M) (dd : z_at M pc (.getstatic ix) 3 pc') (hw : Cond.fieldLink M.1.cls ix C fn ds ∈ lw_tbl) (hZ : z_ZZ (z_gg Y) C fn ds v) (kk : z_W Y pc' ls (v :: st) h k n) : z_W Y pc ls st h k n := by
  obtain ⟨G, ⟨p, e, R, s, m, args, below, meth, c⟩, nL, mc, ms, φ, ψ⟩ := Y
  obtain ⟨hG, hx, hb, -, -, hown, -, -, hW, -, -, hlo, -⟩ := hY
  obtain ⟨d1, rfl⟩ := dd
  intro H locs lsA hR hL hlv
  have kk := kk H locs lsA hR hL hlv
  have hkept : ∀ q : Nat, q < G.2.1.heap.size → ¬ z_A G q → s.heap[q]? = G.2.1.heap[q]? := fun q hq _ => hlo.2 q hq
  have hZ' : va_Z C fn ds v (z_A G) s s.heap := va_Z.moved hW.alike (va_Z.kept hZ hkept)
  have hw := z_wd (args := args) hG hW hw rfl
  intro Tq hTq Xq
  have hsz : s.heap.size ≤ Tq.heap.size := (vx_frame (U := Tq) Xq.same).1
  have hS : va_S (z_A G) s.heap H locs := ⟨by rw [← hTq]; exact hsz, fun q hq1 hq2 => by
    have hq3 : q < z_b G := Nat.lt_of_not_le hq2
    rw [hR.2.2 q hq3, hlo.2 q hq3], hL⟩
  exact va_gets hx hb hZ' hS hown hw (fun x hx => hx) d1 kk Tq hTq Xq
theorem z_nb {r : Int} (h1 : -128 ≤ r) (h2 : r ≤ 127) : narrow .byte (z_i r) = z_i r := by
  have e : (Int32.ofInt r).toInt = r := z_toInt ⟨by omega, by omega⟩
  exact congrArg Value.int (lg_i2b_small (v := Int32.ofInt r) (by rw [e]; exact h1) (by rw [e]; omega))
theorem z_nc {r : Int} (h1 : 0 ≤ r) (h2 : r ≤ 65535) : narrow .char (z_i r) = z_i r := by
  have e : (Int32.ofInt r).toInt = r := z_toInt ⟨by omega, by omega⟩
  exact congrArg Value.int (lg_i2c_small (v := Int32.ofInt r) (by rw [e]; exact h1) (by rw [e]; omega))
/-- a byte, a char returned -/
theorem z_nreturn {r : Int} {rt : FieldType} (hY : z_ok Y d M) (dd : z_at M pc .ireturn 1 pc') (hret : M.2.2.2 = some rt) (hnar : narrow rt (z_i r) = z_i r) (hφ : z_φ Y (some (z_i r)) h) (hk : k ≤ z_mc Y ∧ n ≤ z_ms Y) : z_W Y pc ls [z_i r] h k n := by
  obtain ⟨G, ⟨p, e, R, s, m, args, below, meth, c⟩, nL, mc, ms, φ, ψ⟩ := Y
  obtain ⟨hG, hx, hb, -, -, -, hr, hlocks, -⟩ := hY
  obtain ⟨d1, rfl⟩ := dd
  intro H locs lsA hR hL hlv
  refine W.widen hk.1 hk.2 (vx_ret ?_)
  exact W.zret hx hb (by rw [hr, hret]) hnar (fun t ht _ => ⟨_, h, rfl, hφ, by rw [ht]; exact hR⟩) hL d1 hlocks
theorem z_i2b {a : Int} (hY : z_ok Y d M) (dd : z_at M pc .i2b 1 pc') (ha : -128 ≤ a ∧ a ≤ 127) (kk : z_W Y pc' ls (z_i a :: st) h k n) : z_W Y pc ls (z_i a :: st) h k n := by
  refine z_lift hY (fun p l e R s m args below meth c H locs cells slots Q lsA hx hb kk => ?_) kk
  obtain ⟨d1, rfl⟩ := dd
  have e : (Int32.ofInt a).toInt = a := z_toInt ⟨by omega, by omega⟩
  exact lv_i2b hx hb d1 (lg_i2b_small (by rw [e]; exact ha.1) (by rw [e]; omega)) kk
theorem z_i2c {a : Int} (hY : z_ok Y d M) (dd : z_at M pc .i2c 1 pc') (ha : 0 ≤ a ∧ a ≤ 65535) (kk : z_W Y pc' ls (z_i a :: st) h k n) : z_W Y pc ls (z_i a :: st) h k n := by
  refine z_lift hY (fun p l e R s m args below meth c H locs cells slots Q lsA hx hb kk => ?_) kk
  obtain ⟨d1, rfl⟩ := dd
  have e : (Int32.ofInt a).toInt = a := z_toInt ⟨by omega, by omega⟩
  exact lv_i2c hx hb d1 (lg_i2c_word (by rw [e]; exact ha.1) (by rw [e]; omega)) kk
/-- rows of bytes -/
theorem z_yload {a N : Nat} {i : Int} {f : Int → Int} (hY : z_ok Y d M) (dd : z_at M pc .baload 1 pc') (ha : h a = some (z_ya N f)) (hi : 0 ≤ i ∧ i < N ∧ N ≤ 2147483647) (kk : z_W Y pc' ls (z_i (f i) :: st) h k n) : z_W Y pc ls (z_i i :: .ref a :: st) h k n := by
  obtain ⟨G, ⟨p, e, R, s, m, args, below, meth, c⟩, nL, mc, ms, φ, ψ⟩ := Y
  obtain ⟨hG, hx, hb, -, -, hown, -, -, hW, -⟩ := hY
  obtain ⟨d1, rfl⟩ := dd
  intro H locs lsA hR hL hlv
  have kk := kk H locs lsA hR hL hlv
  obtain ⟨v1, v2⟩ := z_nat (i := i) (N := N) (by omega) (by omega)
  refine va_bald hx hb (z_K hG hW) (hR.at ha) 0 3 rfl rfl v1 d1 ?_
  rw [v2, Int.toNat_of_nonneg hi.1]
  exact kk
theorem z_ystore {a N : Nat} {i x : Int} {f : Int → Int} (hY : z_ok Y d M) (dd : z_at M pc .bastore 1 pc') (ha : h a = some (z_ya N f)) (hi : 0 ≤ i ∧ i < N ∧ N ≤ 2147483647) (hx8 : -128 ≤ x ∧ x ≤ 127) (kk : z_W Y pc' ls st (z_set h a (z_ya N (z_up f i x))) k n) : z_W Y pc ls (z_i x :: z_i i :: .ref a :: st) h k n := by
  obtain ⟨G, ⟨p, e, R, s, m, args, below, meth, c⟩, nL, mc, ms, φ, ψ⟩ := Y
  obtain ⟨hG, hx, hb, -, -, hown, -, -, hW, -⟩ := hY
  obtain ⟨d1, rfl⟩ := dd
  intro H locs lsA hR hL hlv
  have hA := (hR.1 a _ ha).2
  obtain ⟨v1, v2⟩ := z_nat (i := i) (N := N) (by omega) (by omega)
  have hnar : narrow .byte (.int (Int32.ofInt x)) = .int (Int32.ofInt x) := z_nb hx8.1 hx8.2
  refine W.bast hx hb (hR.at ha 0 _ rfl) (((z_K hG hW).2 3 _ rfl).1 N (fun j => .int (Int32.ofInt (f j)))) (fun q => by cases q) (by show ¬ (_ ∨ (arrV _ _ _).slots.size ≤ _); rw [arrV_size]; exact v1) rfl rfl d1 fun H1 e1 e2 e3 => ?_
  refine kk H1 _ lsA (hR.put ha ?_ e2 e3) (fun q hq => ?_) hlv
  · show H1[a]? = some (vp_cell _ _)
    rw [e1, v2, hnar]
    show some ((arrV _ _ _).setSlot _ _) = some (arrV _ _ (fun j => .int ((fun j : Nat => Int32.ofInt (z_up f i x j)) j)))
    rw [arrV_store, z_upI hi.1]
    congr 2
    funext q
    by_cases hq : q = i.toNat
    · simp [updV, hq]
    · simp [updV, hq]
  · rcases List.mem_append.mp hq with g | g
    · exact hL q g
    · rw [List.mem_singleton.mp g]; exact hA
end
/-- what the builder's code needs of the launch's statics -/
def z_SBs (G : z_G) : Prop := z_ZZ G "java/lang/String" "COMPACT_STRINGS" "Z" (z_i 1) ∧ va_Zq "jdk/internal/util/Preconditions" "SIOOBE_FORMATTER" "Ljava/util/function/BiFunction;" (z_A G) G.2.1 G.2.1.heap
variable {G : z_G} {H : z_H} {b a : Nat} {n : Int} {f : Int → Int}
theorem sq_length {a : Value} {c ml : Int} (hG : z_OK G) (hb : H b = some (z_ob 10 [a, z_i c, z_i ml, z_i n])) : z_Tr G mJ5_length_8abf5 [.ref b] H 0 (z_i n) := by
  refine z_T_of hG pJ5_length_8abf5 (Nat.le_of_ble_eq_true rfl) (ls0 := [(0, .ref b)]) rfl fun Y hY hg hmc hms hφ hψ => ?_
  subst hg
  refine z_aload hY eJ5_length_8abf5_0 0 rfl ?_
  refine z_getfield hY eJ5_length_8abf5_1 hb rfl ?_
  exact z_ireturn hY eJ5_length_8abf5_4 rfl (by rw [hφ]; exact ⟨rfl, rfl⟩) ⟨Nat.zero_le _, Nat.zero_le _⟩
theorem sb_len (hG : z_OK G) (hs : sbS H b a n f) : z_Tr G mJ4_length_8abf5 [.ref b] H 2 (z_i n) := by
  obtain ⟨ml, N, g, h1, -⟩ := hs
  refine z_T_of hG pJ4_length_8abf5 (Nat.le_of_ble_eq_true rfl) (ls0 := [(0, .ref b)]) rfl fun Y hY hg hmc hms hφ hψ => ?_
  subst hg
  refine z_aload hY eJ4_length_8abf5_0 0 rfl ?_
  refine z_callQ (As := []) (rest := []) hY eJ4_length_8abf5_1 ⟨_, (rfl : z_cl[10]? = _)⟩ (sq_length hG h1) h1 (by decide) (Nat.le_of_ble_eq_true rfl) ⟨by rw [hmc]; exact Nat.zero_le _, by rw [hms]; exact Nat.zero_le _⟩ (fun _ _ q => q.elim) (fun v h' q => ?_)
  obtain ⟨rfl, rfl⟩ := q
  exact z_ireturn hY eJ4_length_8abf5_4 rfl (by rw [hφ]; exact ⟨rfl, rfl⟩) ⟨Nat.zero_le _, Nat.zero_le _⟩
theorem sq_isLatin1 {a : Value} {ml : Int} (hG : z_OK G) (hS : z_SBs G) (hb : H b = some (z_ob 10 [a, z_i 0, z_i ml, z_i n])) : z_Tr G mJ5_isLatin1_aae02 [.ref b] H 0 (z_i 1) := by
  refine z_T_of hG pJ5_isLatin1_aae02 (Nat.le_of_ble_eq_true rfl) (ls0 := [(0, .ref b)]) rfl fun Y hY hg hmc hms hφ hψ => ?_
  subst hg
  refine z_gets hY eJ5_isLatin1_aae02_0 wG_AbstractStringBuilder_18 hS.1 ?_
  refine z_ifeq hY eJ5_isLatin1_aae02_3 (by decide) (fun c => absurd c (by decide)) (fun _ => ?_)
  refine z_aload hY eJ5_isLatin1_aae02_6 0 rfl ?_
  refine z_getfield hY eJ5_isLatin1_aae02_7 hb rfl ?_
  refine z_ifne hY eJ5_isLatin1_aae02_10 (by decide) (fun c => absurd rfl c) (fun _ => ?_)
  refine z_const hY eJ5_isLatin1_aae02_13 ?_
  refine z_goto hY eJ5_isLatin1_aae02_14 ?_
  exact z_zreturn hY eJ5_isLatin1_aae02_18 rfl (Or.inr rfl) (by rw [hφ]; exact ⟨rfl, rfl⟩) ⟨Nat.zero_le _, Nat.zero_le _⟩
theorem sq_getValue {c ml : Int} (hG : z_OK G) (hb : H b = some (z_ob 10 [.ref a, z_i c, z_i ml, z_i n])) : z_Tr G mJ5_getValue_6d5f1 [.ref b] H 0 (.ref a) := by
  refine z_T_of hG pJ5_getValue_6d5f1 (Nat.le_of_ble_eq_true rfl) (ls0 := [(0, .ref b)]) rfl fun Y hY hg hmc hms hφ hψ => ?_
  subst hg
  refine z_aload hY eJ5_getValue_6d5f1_0 0 rfl ?_
  refine z_getfield hY eJ5_getValue_6d5f1_1 hb rfl ?_
  exact z_areturn hY eJ5_getValue_6d5f1_4 ⟨_, rfl, Or.inr ⟨_, rfl⟩⟩ (by rw [hφ]; exact ⟨rfl, rfl⟩) ⟨Nat.zero_le _, Nat.zero_le _⟩
theorem sq_canEncode {c : Int} (hG : z_OK G) (hc : 0 ≤ c ∧ c ≤ 127) : z_Tr G mJ1_canEncode_fc78d [z_i c] H 0 (z_i 1) := by
  refine z_T_of hG pJ1_canEncode_fc78d (Nat.le_of_ble_eq_true rfl) (ls0 := [(0, z_i c)]) rfl fun Y hY hg hmc hms hφ hψ => ?_
  subst hg
  refine z_iload hY eJ1_canEncode_fc78d_0 0 rfl ?_
  refine z_const hY eJ1_canEncode_fc78d_1 ?_
  refine z_icmpgt hY eJ1_canEncode_fc78d_4 (by omega) (fun c2 => by exfalso; omega) (fun c2 => ?_)
  refine z_const hY eJ1_canEncode_fc78d_7 ?_
  refine z_goto hY eJ1_canEncode_fc78d_8 ?_
  exact z_zreturn hY eJ1_canEncode_fc78d_12 rfl (Or.inr rfl) (by rw [hφ]; exact ⟨rfl, rfl⟩) ⟨Nat.zero_le _, Nat.zero_le _⟩
end LVD
