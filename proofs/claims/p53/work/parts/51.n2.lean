/-! HOW THEY COMPARE: merits of the class, values of the model. -/
section N2
/-- a merit: a criterion's value, the greater the better -/
def mer (σ : z_S) (e c : Int) : Int := if c < σ 12 0 then (if σ 10 c = 1 then vl σ e c else -(vl σ e c)) else 0
abbrev g4 (a b : Int → Int) : Prop := b 0 < a 0 ∨ (a 0 = b 0 ∧ (b 1 < a 1 ∨ (a 1 = b 1 ∧ (b 2 < a 2 ∨ (a 2 = b 2 ∧ b 3 < a 3)))))
abbrev hh (σ : z_S) (e o : Int) : Prop := g4 (mer σ e) (mer σ o) ∨ (e < o ∧ ¬ g4 (mer σ o) (mer σ e))
theorem g4_i (a : Int → Int) : ¬ g4 a a := by omega
theorem g4_t {a b c : Int → Int} (h1 : g4 a b) (h2 : g4 b c) : g4 a c := by omega
theorem g4_s {a b : Int → Int} (h1 : g4 a b) : ¬ g4 b a := by omega
/-- who is not better is worse or alike with all that it is compared with -/
theorem g4_n {a b c : Int → Int} (h1 : g4 a c) : g4 a b ∨ g4 b c := by omega
theorem hh_o (σ : z_S) : jO (hh σ) := by
  refine ⟨fun a h => ?_, fun a b c h1 h2 => ?_⟩
  · rcases h with h | h
    · exact g4_i _ h
    · omega
  · by_cases c1 : g4 (mer σ a) (mer σ c)
    · exact Or.inl c1
    · have n1 : ¬ g4 (mer σ c) (mer σ a) := by
        intro q
        rcases h1 with h1 | ⟨-, h1⟩
        · rcases h2 with h2 | ⟨-, h2⟩
          · exact g4_s (g4_t h1 h2) q
          · rcases g4_n (b := mer σ b) q with q | q
            · exact h2 q
            · exact g4_s h1 q
        · rcases g4_n (b := mer σ b) q with q | q
          · rcases h2 with h2 | ⟨-, h2⟩
            · exact g4_s h2 q
            · exact h2 q
          · exact h1 q
      rcases h1 with h1 | ⟨h1, h1'⟩
      · rcases g4_n (b := mer σ c) h1 with q | q
        · exact absurd q c1
        · rcases h2 with h2 | ⟨-, h2⟩
          · exact absurd (g4_t h1 h2) c1
          · exact absurd q h2
      · rcases h2 with h2 | ⟨h2, h2'⟩
        · rcases g4_n (b := mer σ a) h2 with q | q
          · exact absurd q h1'
          · exact absurd q c1
        · exact Or.inr ⟨by omega, n1⟩
theorem hh_c (σ : z_S) {a b : Int} (h : a ≠ b) : hh σ a b ∨ hh σ b a := by
  by_cases c1 : g4 (mer σ a) (mer σ b)
  · exact Or.inl (Or.inl c1)
  · by_cases c2 : g4 (mer σ b) (mer σ a)
    · exact Or.inr (Or.inl c2)
    · by_cases c3 : a < b
      · exact Or.inl (Or.inr ⟨c3, c2⟩)
      · exact Or.inr (Or.inr ⟨by omega, c1⟩)
def gL (a b : Int → Int) : Nat → Int → Prop
  | 0, _ => False
  | f + 1, c => b c < a c ∨ (a c = b c ∧ gL a b f (c + 1))
theorem cm_g {σ : z_S} {e o : Int} : ∀ (f : Nat) (c : Int), c + f = σ 12 0 → (0 < cm σ e o f c ↔ gL (mer σ e) (mer σ o) f c) ∧ (cm σ e o f c < 0 ↔ gL (mer σ o) (mer σ e) f c) := by
  intro f
  induction f with
  | zero => intro c _; exact ⟨⟨fun h => absurd (show (0 : Int) < 0 from h) (by omega), fun h => h.elim⟩, ⟨fun h => absurd (show (0 : Int) < 0 from h) (by omega), fun h => h.elim⟩⟩
  | succ f ih =>
    intro c hc
    obtain ⟨i1, i2⟩ := ih (c + 1) (by omega)
    unfold cm gL
    have m1 : ∀ x, mer σ x c = if σ 10 c = 1 then vl σ x c else -(vl σ x c) := fun x => if_pos (by omega)
    rw [m1 e, m1 o]
    by_cases hv : vl σ e c = vl σ o c
    · rw [if_pos hv, hv, i1, i2]
      exact ⟨⟨fun q => Or.inr ⟨rfl, q⟩, fun q => q.elim (fun h => absurd h (Int.lt_irrefl _)) (fun h => h.2)⟩, ⟨fun q => Or.inr ⟨rfl, q⟩, fun q => q.elim (fun h => absurd h (Int.lt_irrefl _)) (fun h => h.2)⟩⟩
    · rw [if_neg hv]
      by_cases h10 : σ 10 c = 1
      · rw [if_pos h10, if_pos h10]
        by_cases hlt : vl σ o c < vl σ e c
        · rw [if_pos ⟨fun _ => h10, fun _ => hlt⟩]
          exact ⟨⟨fun _ => Or.inl hlt, fun _ => by omega⟩, ⟨fun q => by omega, fun q => by rcases q with q | ⟨q, -⟩ <;> omega⟩⟩
        · rw [if_neg (fun q => hlt (q.mpr h10))]
          exact ⟨⟨fun q => by omega, fun q => by rcases q with q | ⟨q, -⟩ <;> omega⟩, ⟨fun _ => Or.inl (by omega), fun _ => by omega⟩⟩
      · rw [if_neg h10, if_neg h10]
        by_cases hlt : vl σ o c < vl σ e c
        · rw [if_neg (fun q => h10 (q.mp hlt))]
          exact ⟨⟨fun q => by omega, fun q => by rcases q with q | ⟨q, -⟩ <;> omega⟩, ⟨fun _ => Or.inl (by omega), fun _ => by omega⟩⟩
        · rw [if_pos ⟨fun q => absurd q hlt, fun q => absurd q h10⟩]
          exact ⟨⟨fun _ => Or.inl (by omega), fun _ => by omega⟩, ⟨fun q => by omega, fun q => by rcases q with q | ⟨q, -⟩ <;> omega⟩⟩
theorem gL_4 {a b : Int → Int} {n : Nat} (hn : 1 ≤ n ∧ n ≤ 4) (ha : ∀ c : Int, (n : Int) ≤ c → a c = 0) (hb : ∀ c : Int, (n : Int) ≤ c → b c = 0) : gL a b n 0 ↔ g4 a b := by
  have h1 := ha 1; have h2 := ha 2; have h3 := ha 3
  have k1 := hb 1; have k2 := hb 2; have k3 := hb 3
  rcases (show n = 1 ∨ n = 2 ∨ n = 3 ∨ n = 4 by omega) with rfl | rfl | rfl | rfl <;> simp only [gL, g4, show (0 : Int) + 1 = 1 from rfl, show (1 : Int) + 1 = 2 from rfl, show (2 : Int) + 1 = 3 from rfl, and_false, or_false] <;> omega
theorem cp_g {σ : z_S} (hn : 1 ≤ σ 12 0 ∧ σ 12 0 ≤ 4) (e o : Int) : (0 < cp σ e o ↔ g4 (mer σ e) (mer σ o)) ∧ (cp σ e o < 0 ↔ g4 (mer σ o) (mer σ e)) := by
  obtain ⟨k1, k2⟩ := cm_g (σ := σ) (e := e) (o := o) (σ 12 0 - 0).toNat 0 (by omega)
  have hz : ∀ x c : Int, ((σ 12 0 - 0).toNat : Int) ≤ c → mer σ x c = 0 := fun x c h => if_neg (by omega)
  have h4 : 1 ≤ (σ 12 0 - 0).toNat ∧ (σ 12 0 - 0).toNat ≤ 4 := by omega
  unfold cp
  exact ⟨k1.trans (gL_4 h4 (hz e) (hz o)), k2.trans (gL_4 h4 (hz o) (hz e))⟩
theorem bI_g {κ : c_K} {e o : Int} : bI κ e o ≠ 0 ↔ g4 (κ 31 e) (κ 31 o) := by
  unfold bI
  (repeat' split) <;> omega
theorem g4_e {a b a' b' : Int → Int} (ha : ∀ c, 0 ≤ c → c < 4 → a c = a' c) (hb : ∀ c, 0 ≤ c → c < 4 → b c = b' c) : g4 a b ↔ g4 a' b' := by
  unfold g4
  rw [ha 0 (by omega) (by omega), ha 1 (by omega) (by omega), ha 2 (by omega) (by omega), ha 3 (by omega) (by omega), hb 0 (by omega) (by omega), hb 1 (by omega) (by omega), hb 2 (by omega) (by omega), hb 3 (by omega) (by omega)]
/-- the entrant e of the class bears the merits of f -/
abbrev mrt (κ : c_K) (σ : z_S) (e f : Int) : Prop := ∀ c, 0 ≤ c → c < 4 → κ 31 e c = mer σ f c
theorem bI_r {κ : c_K} {σ : z_S} {e o e' o' : Int} (he : mrt κ σ e e') (ho : mrt κ σ o o') : bI κ e o ≠ 0 ↔ g4 (mer σ e') (mer σ o') := bI_g.trans (g4_e he ho)
theorem aI_r {κ : c_K} {σ : z_S} {e o e' o' : Int} (he : mrt κ σ e e') (ho : mrt κ σ o o') : aI κ e o ≠ 0 ↔ (¬ g4 (mer σ e') (mer σ o') ∧ ¬ g4 (mer σ o') (mer σ e')) := by
  have h1 := bI_r he ho
  have h2 := bI_r ho he
  rw [← h1, ← h2]
  unfold aI
  split <;> omega
theorem hI_r {κ : c_K} {σ : z_S} {e o e' o' : Int} (he : mrt κ σ e e') (ho : mrt κ σ o o') (h34 : κ 34 e 0 = e' ∧ κ 34 o 0 = o') : hI κ e o ≠ 0 ↔ hh σ e' o' := by
  have h1 := bI_r he ho
  have h2 := bI_r ho he
  unfold hh
  rw [← h1, ← h2, ← h34.1, ← h34.2]
  unfold hI
  split <;> omega
theorem cp_0 {σ : z_S} (hn : 1 ≤ σ 12 0 ∧ σ 12 0 ≤ 4) {e o : Int} : cp σ e o = 0 ↔ (¬ g4 (mer σ e) (mer σ o) ∧ ¬ g4 (mer σ o) (mer σ e)) := by
  obtain ⟨h1, h2⟩ := cp_g hn e o
  rw [← h1, ← h2]
  omega
/-- a sum over a beginning -/
theorem jn_cut {f : Int → Int} {e m : Int} (h : 0 ≤ e ∧ e ≤ m) : z_sm f e = z_sm (fun o => if o < e then f o else 0) m := by
  have key : ∀ m : Int, 0 ≤ m → z_sm (fun o => if o < e then f o else 0) m = if m < e then z_sm f m else z_sm f e := by
    refine jn_ind ?_ ?_
    · rw [z_sm0 (by omega)]
      split
      · rw [z_sm0 (by omega)]
      · rw [z_sm0 (by omega)]
    · intro n h0 ih
      rw [z_smS h0, ih]
      by_cases c : n < e
      · rw [if_pos c, if_pos c]
        by_cases c2 : n + 1 < e
        · rw [if_pos c2, z_smS h0]
        · rw [if_neg c2, show e = n + 1 by omega, z_smS h0]
      · rw [if_neg c, if_neg c, if_neg (by omega)]
        omega
  rw [key m (by omega), if_neg (by omega)]
/-- a place counts those that are ahead -/
theorem pl_h {σ : z_S} (hn : 1 ≤ σ 12 0 ∧ σ 12 0 ≤ 4) {e : Int} (he : 0 ≤ e ∧ e < σ 19 0) : pl σ e = z_sm (fun o => if pr σ o ∧ hh σ o e then (1 : Int) else 0) (σ 19 0) + 1 := by
  unfold pl bt
  rw [jn_cut (e := e) (m := σ 19 0) (by omega), Int.add_assoc, Int.add_comm 1, ← Int.add_assoc, ← jn_add (by omega)]
  congr 1
  refine z_sm_congr fun o h0 h1 => ?_
  have k1 := (cp_g hn o e).1
  have k2 := cp_0 hn (e := o) (o := e)
  by_cases hp : σ 18 o ≠ 0
  · by_cases hg : g4 (mer σ o) (mer σ e)
    · rw [if_pos ⟨hp, k1.mpr hg⟩, if_pos (show pr σ o ∧ hh σ o e from ⟨⟨h0, h1, hp⟩, Or.inl hg⟩)]
      by_cases c : o < e
      · rw [if_pos c, if_neg (fun q => (k2.mp q.2).1 hg)]; rfl
      · rw [if_neg c]; rfl
    · rw [if_neg (fun q => hg (k1.mp q.2))]
      by_cases c : o < e
      · rw [if_pos c]
        by_cases hq : g4 (mer σ e) (mer σ o)
        · rw [if_neg (fun q => (k2.mp q.2).2 hq), if_neg (show ¬ (pr σ o ∧ hh σ o e) from fun q => by rcases q.2 with q | q; exact hg q; exact q.2 hq)]; rfl
        · rw [if_pos ⟨hp, k2.mpr ⟨hg, hq⟩⟩, if_pos (show pr σ o ∧ hh σ o e from ⟨⟨h0, h1, hp⟩, Or.inr ⟨c, hq⟩⟩)]; rfl
      · rw [if_neg c, if_neg (show ¬ (pr σ o ∧ hh σ o e) from fun q => by rcases q.2 with q | q; exact hg q; exact c q.1)]; rfl
  · rw [if_neg (fun q => hp q.1), if_neg (show ¬ (pr σ o ∧ hh σ o e) from fun q => hp q.1.2.2)]
    by_cases c : o < e
    · rw [if_pos c, if_neg (fun q => hp q.1)]; rfl
    · rw [if_neg c]; rfl
theorem bt_h {σ : z_S} (hn : 1 ≤ σ 12 0 ∧ σ 12 0 ≤ 4) (e : Int) : bt σ e = z_sm (fun o => if pr σ o ∧ g4 (mer σ o) (mer σ e) then (1 : Int) else 0) (σ 19 0) := by
  unfold bt
  refine z_sm_congr fun o h0 h1 => ?_
  have k1 := (cp_g hn o e).1
  by_cases c : σ 18 o ≠ 0 ∧ 0 < cp σ o e
  · rw [if_pos c, if_pos (show pr σ o ∧ _ from ⟨⟨h0, h1, c.1⟩, k1.mp c.2⟩)]
  · rw [if_neg c, if_neg (show ¬ (pr σ o ∧ _) from fun q => c ⟨q.1.2.2, k1.mpr q.2⟩)]
theorem al_h {σ : z_S} (hn : 1 ≤ σ 12 0 ∧ σ 12 0 ≤ 4) (e : Int) : al σ e = z_sm (fun o => if pr σ o ∧ (¬ g4 (mer σ o) (mer σ e) ∧ ¬ g4 (mer σ e) (mer σ o)) then (1 : Int) else 0) (σ 19 0) := by
  unfold al
  refine z_sm_congr fun o h0 h1 => ?_
  have k1 := cp_0 hn (e := o) (o := e)
  by_cases c : σ 18 o ≠ 0 ∧ cp σ o e = 0
  · rw [if_pos c, if_pos (show pr σ o ∧ _ from ⟨⟨h0, h1, c.1⟩, k1.mp c.2⟩)]
  · rw [if_neg c, if_neg (show ¬ (pr σ o ∧ _) from fun q => c ⟨q.1.2.2, k1.mpr q.2⟩)]
theorem my_h (σ : z_S) : my σ = z_sm (fun o => if pr σ o then (1 : Int) else 0) (σ 19 0) := by
  unfold my
  refine z_sm_congr fun o h0 h1 => ?_
  by_cases c : σ 18 o ≠ 0
  · rw [if_pos c, if_pos (show pr σ o from ⟨h0, h1, c⟩)]
  · rw [if_neg c, if_neg (show ¬ pr σ o from fun q => c q.2.2)]
end N2
