/-! TEXTS: a String read where it lies, made by the run or a constant below it. -/
section LVO
/-- an object of String's class stands there in every heap of the view; what its field holds -/
def z_so (G : z_G) (h : z_H) (s : Nat) : Prop := ∀ H : Heap, z_R G h H → ∃ cell : Cell, H[s]? = some cell ∧ cell.vm.isStatics = false ∧ G.2.1.vm.findClass "java/lang/String" = some cell.cls
def z_sf (G : z_G) (h : z_H) (s : Nat) (nm ds : String) (v : Value) : Prop := ∀ H : Heap, z_R G h H → ∃ (cf : ClassId) (k : Class) (i : Nat) (f : Field) (cell : Cell), G.2.1.fieldFound? "java/lang/String" nm ds = some (cf, k, i, f) ∧ f.isStatic = false ∧ H[s]? = some cell ∧ cell.vm ≠ .unknown ∧ cell.slots[f.slot]? = some v
theorem z_so_of {G : z_G} {h : z_H} {s : Nat} {fs : List Value} (hG : z_OK G) (hs : h s = some (z_ob 11 fs)) : z_so G h s := fun _ hR => va_recv hG.2.1 (hR.at hs) (ci := 11) (q0 := 0) (q := (RJ0, TJ0, 4)) rfl rfl
theorem z_sf_of {G : z_G} {h : z_H} {s kf : Nat} {nm ds : String} {fs : List Value} {v : Value} (hG : z_OK G) (hs : h s = some (z_ob 11 fs)) (hk : kf < 4) (hT : (TJ0 kf).1 = "java/lang/String" ∧ (TJ0 kf).2.1 = nm ∧ (TJ0 kf).2.2.1 = ds) (hv : fs[kf]? = some v) : z_sf G h s nm ds v := by
  intro H hR
  obtain ⟨r, h1, cell, q1, q2, q3, q4⟩ := (hR.1 s _ hs).1
  have hc : z_cl[11]? = some (RJ0, TJ0, 4) := rfl
  have hr : r = (RJ0, TJ0, 4) := Option.some.inj (h1.symm.trans hc)
  subst hr
  obtain ⟨hS, hfc, kC, hkC, -⟩ := hG.2.1.1 11 _ hc
  obtain ⟨cf, kf2, fi, f, hi, hsl⟩ := hS kf hk
  have hts : ∀ w ∈ u_ws RJ0 TJ0 4, w.before G.2.2.2.2.2 G.2.1 = true := fun w hw => hG.2.2.1 w (cJ0.2.1 w hw)
  obtain ⟨t1, t2, t3⟩ := hT
  refine ⟨cf, kf2, fi, f, cell, by rw [← t1, ← t2, ← t3]; exact hi, (u_facts hfc hkC (u_lays hts (fun w hw => hw) hk) hi).1, q1, by rw [q3]; exact fun h => (by cases h), ?_⟩
  rw [hsl, q4 kf hk]
  simp [vp_V, hv]
theorem z_so_low {G : z_G} {h : z_H} {s : Nat} (hs : va_O "java/lang/String" s (z_A G) G.2.1 G.2.1.heap) : z_so G h s := fun H hR => by
  obtain ⟨cell, h1, h2, h3, -⟩ := hs
  exact ⟨cell, (hR.2.2 s (Array.getElem?_eq_some_iff.mp h1).1).trans h1, h2, h3⟩
theorem z_sf_low {G : z_G} {h : z_H} {s : Nat} {nm ds : String} {v : Value} (hs : va_OF "java/lang/String" nm ds v s (z_A G) G.2.1 G.2.1.heap) : z_sf G h s nm ds v := fun H hR => by
  obtain ⟨cf, k, i, f, cell, h1, h2, h3, h4, h5, -⟩ := hs
  exact ⟨cf, k, i, f, cell, h1, h2, (hR.2.2 s (Array.getElem?_eq_some_iff.mp h3).1).trans h3, h4, h5⟩
/-- a text that can be read: w letters, told by f -/
def z_tx (G : z_G) (h : z_H) (s w : Nat) (f : Int → Int) : Prop := z_so G h s ∧ z_sf G h s "coder" "B" (z_i 0) ∧ ∃ v : Nat, z_sf G h s "value" "[B" (.ref v) ∧ z_sr G h v w f
/-- a text in a heap -/
def sbT (G : z_G) (H : z_H) (s : Nat) (w : Int) (g : Int → Int) : Prop := ∃ (v n : Nat) (f : Int → Int), (n : Int) = w ∧ (∀ i : Int, 0 ≤ i → i < w → f i = g i ∧ -128 ≤ f i ∧ f i ≤ 127) ∧ ((∃ x y, H s = some (z_ob 11 [.ref v, z_i 0, x, y]) ∧ H v = some (z_ya n f)) ∨ z_low G s v n f)
theorem sbT_c {G : z_G} {H : z_H} {tx : String} {s : Nat} {w : Int} {g : Int → Int} (hk : sbK G tx s) (hw : w = tx.length) (hg : ∀ i : Nat, (i : Int) < w → g i = ((tx.toList.getD i 'a').toNat : Int)) : sbT G H s w g := by
  obtain ⟨v, h1, h2⟩ := hk
  refine ⟨v, tx.length, _, hw.symm, fun i i0 i1 => ?_, Or.inr h1⟩
  have e : g i = ((tx.toList.getD i.toNat 'a').toNat : Int) := by
    have z := hg i.toNat (by omega)
    rwa [Int.toNat_of_nonneg i0] at z
  have z2 := h2 i.toNat (by omega)
  exact ⟨e.symm, by show (-128 : Int) ≤ ((tx.toList.getD i.toNat 'a').toNat : Int); omega, by show ((tx.toList.getD i.toNat 'a').toNat : Int) ≤ 127; omega⟩
/-- what is read of it, also when the builder has changed -/
theorem sbT_x {G : z_G} {H H' : z_H} {s b : Nat} {w : Int} {g : Int → Int} {fs : List Value} (hG : z_OK G) (hT : sbT G H s w g) (hb : H b = some (z_ob 10 fs)) (hF : ∀ x c, H x = some c → x ≠ b → H' x = some c) : ∃ (n : Nat) (f : Int → Int), (n : Int) = w ∧ (∀ i : Int, 0 ≤ i → i < w → f i = g i ∧ -128 ≤ f i ∧ f i ≤ 127) ∧ z_tx G H s n f ∧ z_tx G H' s n f := by
  obtain ⟨v, n, f, h1, h2, h3⟩ := hT
  refine ⟨n, f, h1, h2, ?_⟩
  rcases h3 with ⟨x, y, k1, k2⟩ | ⟨k1, k2, k3, k4⟩
  · have hsb : s ≠ b := fun e => by
      rw [e, hb] at k1
      have z : (10 : Nat) = 11 := congrArg (fun q : Option va_E => match q with | some (Sum.inr o) => o.1 | _ => 0) k1
      omega
    have hvb : v ≠ b := fun e => by
      rw [e, hb] at k2
      have z : (1 : Nat) = 0 := congrArg (fun q : Option va_E => match q with | some (Sum.inr _) => 1 | _ => 0) k2
      omega
    have key : ∀ K : z_H, K s = some (z_ob 11 [.ref v, z_i 0, x, y]) → K v = some (z_ya n f) → z_tx G K s n f := fun K m1 m2 =>
      ⟨z_so_of hG m1, z_sf_of (kf := 1) hG m1 (by decide) ⟨rfl, rfl, rfl⟩ rfl, v, z_sf_of (kf := 0) hG m1 (by decide) ⟨rfl, rfl, rfl⟩ rfl, z_sr_of hG m2⟩
    exact ⟨key H k1 k2, key H' (hF s _ k1 hsb) (hF v _ k2 hvb)⟩
  · have key : ∀ K : z_H, z_tx G K s n f := fun K => ⟨z_so_low k1, z_sf_low k2, v, z_sf_low k3, z_sr_low k4⟩
    exact ⟨key H, key H'⟩
section
variable {Y : z_Y} {d : Nat} {M M' : z_M} {pc pc' : Nat} {ls : List (Nat × Value)} {st rest : List Value} {h : z_H} {k n : Nat}
theorem z_ifnn {x : Nat} {off : Int} {tgt : Nat} (hY : z_ok Y d M) (dd : z_br M pc (.ifnonnull off) off pc' tgt) (kk : z_W Y tgt ls st h k n) : z_W Y pc ls (.ref x :: st) h k n :=
  z_lift hY (fun p l e R s m args below meth c H locs cells slots Q lsA hx hb kk => lv_ifnonnull hx hb dd.1 dd.2.2 kk) kk
theorem z_getS {a ix ci kf : Nat} {t0 : FieldType} {fin : Bool} {nm ds : String} {v : Value} (hY : z_ok Y d M) (dd : z_at M pc (.getfield ix) 3 pc' ∧ z_fd M.1.cls ix ci kf t0 fin) (hl : Cond.fieldLink M.1.cls ix "java/lang/String" nm ds ∈ lw_tbl) (ha : z_sf (z_gg Y) h a nm ds v) (kk : z_W Y pc' ls (v :: st) h k n) : z_W Y pc ls (.ref a :: st) h k n := by
  obtain ⟨G, ⟨p, e, R, s, m, args, below, meth, c⟩, nL, mc, ms, φ, ψ⟩ := Y
  obtain ⟨hG, hx, hb, -, -, hown, -, -, hW, -⟩ := hY
  obtain ⟨⟨d1, rfl⟩, -⟩ := dd
  intro H locs lsA hR hL hlv
  have kk := kk H locs lsA hR hL hlv
  obtain ⟨cf, k9, fi, f, cell, h1, h2, h3, h4, h5⟩ := ha H hR
  obtain ⟨k', hi', -⟩ := State.fieldFound?_setVm hW.alike h1
  exact W.getf hx hb hown (z_wd hG hW hl rfl) hi' h2 h3 h4 (v := v) h5 rfl rfl d1 kk
theorem z_callVS {ix b d1 mc1 ms1 : Nat} {As : List Value} {φ1 : Option Value → z_H → Prop} {ψ1 : String → z_H → Prop} (hY : z_ok Y d M) (dd : z_at M pc (.invokevirtual ix) 3 pc' ∧ z_lk M.1.cls ix M'.1 ∧ z_mt M' As.length ∧ z_mv M' 11) (ht : z_T (z_gg Y) M' (.ref b :: As) h d1 mc1 ms1 φ1 ψ1) (hb : z_so (z_gg Y) h b) (hd : d1 < d) (hrest : (rest.map fun v => v.category).sum ≤ 8) (hc : k + mc1 ≤ z_mc Y ∧ n + ms1 ≤ z_ms Y)
    (kx : ∀ (E : String) (h' : z_H), ψ1 E h' → z_ψ Y E h') (kk : ∀ (v : Option Value) (h' : z_H), φ1 v h' → z_W Y pc' ls (v.toList ++ rest) h' (k + mc1) (n + ms1)) : z_W Y pc ls (As.reverse ++ .ref b :: rest) h k n := by
  obtain ⟨G, ⟨p, e, R, s, m, args, below, meth, c⟩, nL, mc, ms, φ, ψ⟩ := Y
  have hY' := hY
  obtain ⟨hG, hx, hbc, hml, hnl, hown, -, -, hW, -, hRm, -⟩ := hY
  obtain ⟨⟨d2, rfl⟩, hlk, hm, w1, w2, ⟨T, N⟩, hcl⟩ := dd
  subst hRm
  intro H locs lsA hR hL hlv
  have e0 : "java/lang/String" = M'.1.cls := congrArg (fun q : vw_C => q.1) (Option.some.inj (show some ((RJ0, TJ0, 4) : vw_C) = some (M'.1.cls, T, N) from hcl))
  have hrec : ∃ cell : Cell, H[b]? = some cell ∧ cell.vm.isStatics = false ∧ s.vm.findClass M'.1.cls = some cell.cls := by
    obtain ⟨cell, h1, h2, h3⟩ := hb H hR
    exact ⟨cell, h1, h2, by rw [← e0, hW.alike.findClass]; exact h3⟩
  have hp : PreV s H M'.1.cls b (z_Pc G (.ref b :: As) h) As := ⟨z_blind, hrec, fun U hU hWU => ⟨rfl, by rw [hU]; exact hR, State.WarmedH.trans hW hWU⟩⟩
  rcases hlk with hlk | ⟨host, hlk⟩
  · exact z_run hY' (vx_runV (Ts := []) ⟨hx, hbc, hml, hown, fun w hw => by cases hw⟩ ht ⟨z_cb hG hW hm hd hlk, z_wd hG hW w1 rfl, z_wd hG hW w2 rfl⟩ hp rfl rfl hlv.1 rfl (lv_room hrest) d2 hc) hL hlv hc kx kk
  · exact z_run hY' (vx_runVN (Ts := []) ⟨hx, hbc, hml, hown, fun w hw => by cases hw⟩ ht ⟨z_cn hG hW hm hd hlk, z_wd hG hW w1 rfl, z_wd hG hW w2 rfl⟩ hp rfl rfl hlv.1 rfl (lv_room hrest) d2 hc) hL hlv hc kx kk
theorem z_callVSr {ix b d1 : Nat} {As : List Value} {r : Value} (hY : z_ok Y d M) (dd : z_at M pc (.invokevirtual ix) 3 pc' ∧ z_lk M.1.cls ix M'.1 ∧ z_mt M' As.length ∧ z_mv M' 11) (ht : z_Tr (z_gg Y) M' (.ref b :: As) h d1 r) (hb : z_so (z_gg Y) h b) (hd : d1 < d) (hrest : (rest.map fun v => v.category).sum ≤ 8) (hc : k ≤ z_mc Y ∧ n ≤ z_ms Y)
    (kk : z_W Y pc' ls (r :: rest) h k n) : z_W Y pc ls (As.reverse ++ .ref b :: rest) h k n :=
  z_callVS hY dd ht hb hd hrest hc (fun _ _ q => q.elim) (fun v h' q => by obtain ⟨rfl, rfl⟩ := q; exact kk)
/-- a constant text is loaded -/
theorem z_ldcS {ix : Nat} {tx : String} (hY : z_ok Y d M) (hSB : z_SB (z_gg Y)) (dd : z_at M pc (.ldc ix) 2 pc') (hw : Cond.stringRef M.1.cls ix tx ∈ lw_tbl) (kk : ∀ s, sbK (z_gg Y) tx s → z_W Y pc' ls (.ref s :: st) h k n) (hq : (ix, tx) ∈ scL := by decide) (ho : M.1.cls = "StandingsHallLaw" := by rfl) : z_W Y pc ls st h k n := by
  obtain ⟨G, ⟨p, e, R, s, m, args, below, meth, c⟩, nL, mc, ms, φ, ψ⟩ := Y
  obtain ⟨hG, hx, hb, -, -, hown, -, -, hW, -⟩ := hY
  obtain ⟨d1, rfl⟩ := dd
  obtain ⟨a, ha, hk⟩ := hSB.2.2 _ hq
  intro H locs lsA hR hL hlv
  have kk := kk a hk H locs lsA hR hL hlv
  rw [← ho] at ha
  exact va_ldcS hx hb hown (vk_R.warm hW (show vk_R M.1.cls ix tx a G.2.1 from ha)) d1 kk
end
variable {G : z_G} {H : z_H}
theorem sg_coder {s : Nat} (hG : z_OK G) (hS : z_SBs G) (hs : z_sf G H s "coder" "B" (z_i 0)) : z_Tr G mJ0_coder_7d493 [.ref s] H 0 (z_i 0) := by
  refine z_T_of hG pJ0_coder_7d493 (Nat.le_of_ble_eq_true rfl) (ls0 := [(0, .ref s)]) rfl fun Y hY hg hmc hms hφ hψ => ?_
  subst hg
  refine z_gets hY eJ0_coder_7d493_0 wG_String_38 hS.1 ?_
  refine z_ifeq hY eJ0_coder_7d493_3 (by decide) (fun c => absurd c (by decide)) (fun _ => ?_)
  refine z_aload hY eJ0_coder_7d493_6 0 rfl ?_
  refine z_getS hY eJ0_coder_7d493_7 wB4_0 hs ?_
  refine z_goto hY eJ0_coder_7d493_10 ?_
  exact z_nreturn hY eJ0_coder_7d493_14 rfl (z_nb (by decide) (by decide)) (by rw [hφ]; exact ⟨rfl, rfl⟩) ⟨Nat.zero_le _, Nat.zero_le _⟩
theorem sg_length {s w : Nat} {f : Int → Int} (hG : z_OK G) (hS : z_SBs G) (ht : z_tx G H s w f) (hw : w ≤ 1000) : z_Tr G mJ0_length_8abf5 [.ref s] H 1 (z_i w) := by
  obtain ⟨t1, t2, v, t3, t4⟩ := ht
  refine z_T_of hG pJ0_length_8abf5 (Nat.le_of_ble_eq_true rfl) (ls0 := [(0, .ref s)]) rfl fun Y hY hg hmc hms hφ hψ => ?_
  subst hg
  refine z_aload hY eJ0_length_8abf5_0 0 rfl ?_
  refine z_getS hY eJ0_length_8abf5_1 wB3_239 t3 ?_
  refine z_arrlenR hY eJ0_length_8abf5_4 t4 ?_
  refine z_aload hY eJ0_length_8abf5_5 0 rfl ?_
  refine z_callVSr (As := []) (rest := [z_i w]) hY eJ0_length_8abf5_6 (sg_coder hG hS t2) t1 (by decide) (Nat.le_of_ble_eq_true rfl) ⟨Nat.zero_le _, Nat.zero_le _⟩ ?_
  refine z_ishr hY eJ0_length_8abf5_9 (by omega) (Or.inl ⟨rfl, rfl⟩) ?_
  rw [Int.ediv_one]
  exact z_ireturn hY eJ0_length_8abf5_10 rfl (by rw [hφ]; exact ⟨rfl, rfl⟩) ⟨Nat.zero_le _, Nat.zero_le _⟩
theorem wB3_140 : (Jvm.Cond.methodLink "java/lang/String" (212 : Nat) ({ cls := "java/lang/System", name := "arraycopy", desc := "(Ljava/lang/Object;ILjava/lang/Object;II)V" } : Jvm.MethodName)) ∈ lw_tbl := z_in3 (List.mem_of_getElem? (i := 140) rfl)
theorem sg_getBytes {s w a N : Nat} {p : Int} {f g : Int → Int} (hG : z_OK G) (hS : z_SBs G) (ht : z_tx G H s w f) (ha : H a = some (z_ya N g)) (hp : 0 ≤ p ∧ p + w ≤ N ∧ N ≤ 1000) (h8 : ∀ i : Int, 0 ≤ i → i < w → -128 ≤ f i ∧ f i ≤ 127) : z_T G mJ0_getBytes_840e7 [.ref s, .ref a, z_i p, z_i 0] H 1 0 0 (fun v H' => v = none ∧ H' = z_set H a (z_ya N (z_cpY f g 0 p w))) z_no := by
  obtain ⟨t1, t2, v, t3, t4⟩ := ht
  refine z_T_of hG pJ0_getBytes_840e7 (Nat.le_of_ble_eq_true rfl) (ls0 := [(0, .ref s), (1, .ref a), (2, z_i p), (3, z_i 0)]) rfl fun Y hY hg hmc hms hφ hψ => ?_
  subst hg
  refine z_aload hY eJ0_getBytes_840e7_0 0 rfl ?_
  refine z_callVSr (As := []) (rest := []) hY eJ0_getBytes_840e7_1 (sg_coder hG hS t2) t1 (by decide) (Nat.le_of_ble_eq_true rfl) ⟨Nat.zero_le _, Nat.zero_le _⟩ ?_
  refine z_iload hY eJ0_getBytes_840e7_4 3 rfl ?_
  refine z_icmpne hY eJ0_getBytes_840e7_5 (by decide) (fun c => absurd rfl c) (fun _ => ?_)
  refine z_aload hY eJ0_getBytes_840e7_8 0 rfl ?_
  refine z_getS hY eJ0_getBytes_840e7_9 wB3_239 t3 ?_
  refine z_const hY eJ0_getBytes_840e7_12 ?_
  refine z_aload hY eJ0_getBytes_840e7_13 1 rfl ?_
  refine z_iload hY eJ0_getBytes_840e7_14 2 rfl ?_
  refine z_iload hY eJ0_getBytes_840e7_15 3 rfl ?_
  refine z_ishl0 hY eJ0_getBytes_840e7_16 ?_
  refine z_aload hY eJ0_getBytes_840e7_17 0 rfl ?_
  refine z_getS hY eJ0_getBytes_840e7_18 wB3_239 t3 ?_
  refine z_arrlenR hY eJ0_getBytes_840e7_21 t4 ?_
  refine z_copyY hY eJ0_getBytes_840e7_22 wB3_140 t4 ha (by omega) (fun i i0 i1 => by rw [Int.zero_add]; exact h8 i i0 i1) (Nat.le_of_ble_eq_true rfl) ?_
  refine z_goto hY eJ0_getBytes_840e7_25 ?_
  exact z_return hY eJ0_getBytes_840e7_43 rfl (by rw [hφ]; exact ⟨rfl, rfl⟩) (by rw [hmc, hms]; omega)
end LVO
