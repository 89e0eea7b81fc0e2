/-! NUMBERS: sums over rows, rows in order. -/
section N1
theorem jn_ind {P : Int → Prop} (h0 : P 0) (hs : ∀ n, 0 ≤ n → P n → P (n + 1)) : ∀ n : Int, 0 ≤ n → P n := by
  intro n hn
  obtain ⟨k, rfl⟩ := Int.eq_ofNat_of_zero_le hn
  clear hn
  induction k with
  | zero => exact h0
  | succ k ih =>
    rw [show ((k + 1 : Nat) : Int) = (k : Int) + 1 from by omega]
    exact hs k (by omega) ih
theorem jn_add {f g : Int → Int} {n : Int} (hn : 0 ≤ n) : z_sm (fun i => f i + g i) n = z_sm f n + z_sm g n := by
  refine jn_ind (P := fun n => z_sm (fun i => f i + g i) n = z_sm f n + z_sm g n) ?_ ?_ n hn
  · show z_sm _ 0 = z_sm _ 0 + z_sm _ 0
    rw [z_sm0 (by omega), z_sm0 (by omega), z_sm0 (by omega)]; rfl
  · intro n h0 ih
    show z_sm _ (n + 1) = z_sm _ (n + 1) + z_sm _ (n + 1)
    rw [z_smS h0, z_smS h0, z_smS h0, ih]
    omega
theorem jn_one {a v n : Int} (ha : 0 ≤ a ∧ a < n) : z_sm (fun i => if i = a then v else 0) n = v := by
  have key : ∀ n : Int, 0 ≤ n → z_sm (fun i => if i = a then v else 0) n = if a < n then v else 0 := by
    refine jn_ind ?_ ?_
    · rw [z_sm0 (by omega), if_neg (by omega)]
    · intro n h0 ih
      rw [z_smS h0, ih]
      by_cases h1 : a < n
      · rw [if_pos h1, if_neg (show ¬ n = a by omega), if_pos (by omega)]; omega
      · rw [if_neg h1]
        by_cases h2 : n = a
        · rw [if_pos h2, if_pos (by omega)]; omega
        · rw [if_neg h2, if_neg (by omega)]; omega
  rw [key n (by omega), if_pos ha.2]
theorem jn_swap {f : Int → Int → Int} {n m : Int} (hn : 0 ≤ n) (hm : 0 ≤ m) : z_sm (fun i => z_sm (fun j => f i j) m) n = z_sm (fun j => z_sm (fun i => f i j) n) m := by
  refine jn_ind (P := fun n => z_sm (fun i => z_sm (fun j => f i j) m) n = z_sm (fun j => z_sm (fun i => f i j) n) m) ?_ ?_ n hn
  · show z_sm _ 0 = _
    rw [z_sm0 (by omega)]
    exact (z_sm_zero fun j _ _ => z_sm0 (by omega)).symm
  · intro n h0 ih
    show z_sm _ (n + 1) = _
    rw [z_smS h0, ih, ← jn_add hm]
    exact z_sm_congr fun j _ _ => (z_smS h0).symm
theorem jn_lt {i n : Int} (hi : 0 ≤ i ∧ i ≤ n) : z_sm (fun j => if j < i then (1 : Int) else 0) n = i := by
  have key : ∀ n : Int, 0 ≤ n → z_sm (fun j => if j < i then (1 : Int) else 0) n = if n < i then n else i := by
    refine jn_ind ?_ ?_
    · rw [z_sm0 (by omega)]; split <;> omega
    · intro n h0 ih
      rw [z_smS h0, ih]
      by_cases h1 : n < i
      · rw [if_pos h1, if_pos h1]; split <;> omega
      · rw [if_neg h1, if_neg h1, if_neg (by omega)]; omega
  rw [key n (by omega)]
  split <;> omega
/-- a row that holds each of those with P once: sums over the row are sums over all -/
theorem jn_perm {P : Int → Prop} [DecidablePred P] {l f : Int → Int} {n m : Int} (hn : 0 ≤ n) (hm : 0 ≤ m) (h1 : ∀ i, 0 ≤ i → i < n → 0 ≤ l i ∧ l i < m ∧ P (l i)) (h2 : ∀ i j, 0 ≤ i → i < n → 0 ≤ j → j < n → l i = l j → i = j) (h3 : ∀ e, 0 ≤ e → e < m → P e → ∃ i, 0 ≤ i ∧ i < n ∧ l i = e) : z_sm (fun i => f (l i)) n = z_sm (fun e => if P e then f e else 0) m := by
  have e1 : z_sm (fun i => f (l i)) n = z_sm (fun i => z_sm (fun e => if e = l i then f (l i) else 0) m) n := z_sm_congr fun i h0 hi => (jn_one ⟨(h1 i h0 hi).1, (h1 i h0 hi).2.1⟩).symm
  rw [e1, jn_swap hn hm]
  refine z_sm_congr fun e h0 he => ?_
  by_cases hp : P e
  · rw [if_pos hp]
    obtain ⟨i0, a, b, c⟩ := h3 e h0 he hp
    have e2 : z_sm (fun i => if e = l i then f (l i) else 0) n = z_sm (fun i => if i = i0 then f e else 0) n := z_sm_congr fun i hi0 hin => by
      by_cases hq : i = i0
      · subst hq; rw [if_pos c.symm, if_pos rfl, c]
      · rw [if_neg hq, if_neg (fun hc => hq (h2 i i0 hi0 hin a b (hc.symm.trans c.symm)))]
    rw [e2]
    exact jn_one ⟨a, b⟩
  · rw [if_neg hp]
    exact z_sm_zero fun i hi0 hin => if_neg (fun hc => hp (by rw [hc]; exact (h1 i hi0 hin).2.2))
/-- how many come before the first that fails P -/
theorem jn_fwL {P : Int → Prop} [DecidablePred P] : ∀ (f : Nat) (i : Int), (i ≤ z_fwL P f i ∧ z_fwL P f i ≤ i + f) ∧ (∀ j, i ≤ j → j < z_fwL P f i → P j) ∧ (z_fwL P f i < i + f → ¬ P (z_fwL P f i)) := by
  intro f
  induction f with
  | zero => intro i; exact ⟨⟨by unfold z_fwL; omega, by unfold z_fwL; omega⟩, fun j h1 h2 => by unfold z_fwL at h2; omega, fun h => by unfold z_fwL at h; omega⟩
  | succ f ih =>
    intro i
    unfold z_fwL
    by_cases h : P i
    · rw [if_pos h]
      obtain ⟨⟨a1, a2⟩, b, c⟩ := ih (i + 1)
      refine ⟨⟨by omega, by omega⟩, fun j h1 h2 => ?_, fun h2 => c (by omega)⟩
      by_cases hj : j = i
      · rw [hj]; exact h
      · exact b j (by omega) h2
    · rw [if_neg h]
      exact ⟨⟨by omega, by omega⟩, fun j h1 h2 => by omega, fun _ => h⟩
theorem jn_fw {P : Int → Prop} [DecidablePred P] {n : Int} (hn : 0 ≤ n) : (0 ≤ z_fw P n ∧ z_fw P n ≤ n) ∧ (∀ i, 0 ≤ i → i < z_fw P n → P i) ∧ (z_fw P n < n → ¬ P (z_fw P n)) := by
  obtain ⟨a, b, c⟩ := jn_fwL (P := P) (n - 0).toNat 0
  unfold z_fw
  exact ⟨by omega, b, fun h => c (by omega)⟩
/-- where P holds of a beginning alone -/
theorem jn_fwi {P : Int → Prop} [DecidablePred P] {n : Int} (hn : 0 ≤ n) (hP : ∀ i j, 0 ≤ i → i < j → j < n → P j → P i) {i : Int} (hi : 0 ≤ i ∧ i < n) : P i ↔ i < z_fw P n := by
  obtain ⟨a, b, c⟩ := jn_fw (P := P) hn
  constructor
  · intro h
    by_cases h2 : i < z_fw P n
    · exact h2
    · exfalso
      by_cases h3 : z_fw P n = i
      · exact c (by omega) (h3 ▸ h)
      · exact c (by omega) (hP _ i a.1 (by omega) hi.2 h)
  · exact b i hi.1
theorem jn_fwc {P : Int → Prop} [DecidablePred P] {n : Int} (hn : 0 ≤ n) (hP : ∀ i j, 0 ≤ i → i < j → j < n → P j → P i) : z_sm (fun i => if P i then (1 : Int) else 0) n = z_fw P n := by
  have e : z_sm (fun i => if P i then (1 : Int) else 0) n = z_sm (fun i => if i < z_fw P n then (1 : Int) else 0) n := z_sm_congr fun i h0 h1 => by
    by_cases h : P i
    · rw [if_pos h, if_pos ((jn_fwi hn hP ⟨h0, h1⟩).mp h)]
    · rw [if_neg h, if_neg (fun q => h ((jn_fwi hn hP ⟨h0, h1⟩).mpr q))]
  rw [e]
  exact jn_lt (jn_fw hn).1
/-- the first one -/
theorem jn_ff {P : Int → Prop} [DecidablePred P] {n a : Int} (ha : 0 ≤ a ∧ a < n) (hp : P a) (hu : ∀ j, 0 ≤ j → j < a → ¬ P j) : z_ff P n = a := by
  rcases z_ff_s P n with ⟨-, h⟩ | ⟨h1, h2, h3, h4⟩
  · exact absurd hp (h a ha.1 ha.2)
  · by_cases c : z_ff P n < a
    · exact absurd h3 (hu _ h1 c)
    · by_cases c2 : a < z_ff P n
      · exact absurd hp (h4 a ha.1 c2)
      · omega
theorem jn_ffn {P : Int → Prop} [DecidablePred P] {n : Int} (h : ∀ j, 0 ≤ j → j < n → ¬ P j) : z_ff P n = -1 := by
  rcases z_ff_s P n with ⟨h1, -⟩ | ⟨h1, h2, h3, h4⟩
  · exact h1
  · exact absurd h3 (h _ h1 h2)
/-- rows in order: lt the order, P who is in it -/
def jS (lt : Int → Int → Prop) (P : Int → Prop) (l : Int → Int) (n : Int) : Prop := 0 ≤ n ∧ (∀ i, 0 ≤ i → i < n → P (l i)) ∧ (∀ i j, 0 ≤ i → i < j → j < n → lt (l i) (l j)) ∧ ∀ e, P e → ∃ i, 0 ≤ i ∧ i < n ∧ l i = e
/-- an order -/
def jO (lt : Int → Int → Prop) : Prop := (∀ a, ¬ lt a a) ∧ ∀ a b c, lt a b → lt b c → lt a c
theorem jS_lt {lt : Int → Int → Prop} {P : Int → Prop} {l : Int → Int} {n : Int} (hO : jO lt) (hS : jS lt P l n) {i j : Int} (hi : 0 ≤ i ∧ i < n) (hj : 0 ≤ j ∧ j < n) : lt (l i) (l j) ↔ i < j := by
  constructor
  · intro h
    by_cases c : i < j
    · exact c
    · exfalso
      by_cases c2 : i = j
      · subst c2; exact hO.1 _ h
      · exact hO.1 _ (hO.2 _ _ _ h (hS.2.2.1 j i hj.1 (by omega) hi.2))
  · exact fun h => hS.2.2.1 i j hi.1 h hj.2
theorem jS_inj {lt : Int → Int → Prop} {P : Int → Prop} {l : Int → Int} {n : Int} (hO : jO lt) (hS : jS lt P l n) {i j : Int} (hi : 0 ≤ i ∧ i < n) (hj : 0 ≤ j ∧ j < n) (h : l i = l j) : i = j := by
  by_cases c : i < j
  · exact absurd (h ▸ hS.2.2.1 i j hi.1 c hj.2) (hO.1 _)
  · by_cases c2 : j < i
    · exact absurd (h ▸ hS.2.2.1 j i hj.1 c2 hi.2) (hO.1 _)
    · omega
/-- sums over a row in order -/
theorem jS_sum {lt : Int → Int → Prop} {P : Int → Prop} [DecidablePred P] {l f : Int → Int} {n m : Int} (hO : jO lt) (hS : jS lt P l n) (hm : 0 ≤ m) (hP : ∀ e, P e → 0 ≤ e ∧ e < m) : z_sm (fun i => f (l i)) n = z_sm (fun e => if P e then f e else 0) m :=
  jn_perm hS.1 hm (fun i h0 h1 => ⟨(hP _ (hS.2.1 i h0 h1)).1, (hP _ (hS.2.1 i h0 h1)).2, hS.2.1 i h0 h1⟩) (fun i j a b c d e => jS_inj hO hS ⟨a, b⟩ ⟨c, d⟩ e) (fun e _ _ h => hS.2.2.2 e h)
theorem jS_ct {lt : Int → Int → Prop} {P Q : Int → Prop} [DecidablePred P] [DecidablePred Q] {l : Int → Int} {n m : Int} (hO : jO lt) (hS : jS lt P l n) (hm : 0 ≤ m) (hP : ∀ e, P e → 0 ≤ e ∧ e < m) : z_sm (fun i => if Q (l i) then (1 : Int) else 0) n = z_sm (fun e => if P e ∧ Q e then (1 : Int) else 0) m := by
  rw [jS_sum (f := fun e => if Q e then (1 : Int) else 0) hO hS hm hP]
  refine z_sm_congr fun e _ _ => ?_
  by_cases h1 : P e
  · by_cases h2 : Q e
    · rw [if_pos h1, if_pos h2, if_pos ⟨h1, h2⟩]
    · rw [if_pos h1, if_neg h2, if_neg (fun q => h2 q.2)]
  · rw [if_neg h1, if_neg (fun q => h1 q.1)]
/-- how many are ahead of one is its place -/
theorem jS_pos {lt : Int → Int → Prop} [DecidableRel lt] {P : Int → Prop} [DecidablePred P] {l : Int → Int} {n m i : Int} (hO : jO lt) (hS : jS lt P l n) (hm : 0 ≤ m) (hP : ∀ e, P e → 0 ≤ e ∧ e < m) (hi : 0 ≤ i ∧ i < n) : z_sm (fun e => if P e ∧ lt e (l i) then (1 : Int) else 0) m = i := by
  rw [← jS_ct (Q := fun e => lt e (l i)) hO hS hm hP, z_sm_congr (g := fun j => if j < i then (1 : Int) else 0) (fun j h0 h1 => ?_)]
  · exact jn_lt ⟨hi.1, by omega⟩
  · by_cases c : j < i
    · rw [if_pos c, if_pos ((jS_lt hO hS ⟨h0, h1⟩ hi).mpr c)]
    · rw [if_neg c, if_neg (fun q => c ((jS_lt hO hS ⟨h0, h1⟩ hi).mp q))]
theorem jS_num {lt : Int → Int → Prop} {P : Int → Prop} [DecidablePred P] {l : Int → Int} {n m : Int} (hO : jO lt) (hS : jS lt P l n) (hm : 0 ≤ m) (hP : ∀ e, P e → 0 ≤ e ∧ e < m) : z_sm (fun e => if P e then (1 : Int) else 0) m = n := by
  rw [← jS_sum (f := fun _ => 1) hO hS hm hP, z_sm_congr (g := fun j => if j < n then (1 : Int) else 0) (fun j h0 h1 => (if_pos h1).symm)]
  exact jn_lt ⟨hS.1, by omega⟩
/-- another order, others in it, that say the same here -/
theorem jS_cg {lt lt' : Int → Int → Prop} {P P' : Int → Prop} {l l' : Int → Int} {n n' : Int} (hS : jS lt P l n) (hn : n' = n) (hl : ∀ i, 0 ≤ i → i < n → l' i = l i) (hP : ∀ e, P' e ↔ P e) (hlt : ∀ a b, P a → P b → lt a b → lt' a b) : jS lt' P' l' n' := by
  subst hn
  refine ⟨hS.1, fun i h0 h1 => ?_, fun i j h0 h1 h2 => ?_, fun e he => ?_⟩
  · rw [hl i h0 h1]; exact (hP _).mpr (hS.2.1 i h0 h1)
  · rw [hl i h0 (by omega), hl j (by omega) h2]
    exact hlt _ _ (hS.2.1 i h0 (by omega)) (hS.2.1 j (by omega) h2) (hS.2.2.1 i j h0 h1 h2)
  · obtain ⟨i, a, b, c⟩ := hS.2.2.2 e ((hP e).mp he)
    exact ⟨i, a, b, (hl i a b).trans c⟩
/-- one put in -/
theorem jS_in {lt : Int → Int → Prop} {P P' : Int → Prop} {l : Int → Int} {n w e : Int} (hS : jS lt P l n) (hw : 0 ≤ w ∧ w ≤ n) (h1 : ∀ i, 0 ≤ i → i < w → lt (l i) e) (h2 : ∀ i, w ≤ i → i < n → lt e (l i)) (hP : ∀ x, P' x ↔ (P x ∨ x = e)) : jS lt P' (fun j => if j < w then l j else if j = w then e else l (j - 1)) (n + 1) := by
  refine ⟨by have := hS.1; omega, fun i h0 hi => ?_, fun i j h0 hij hj => ?_, fun x hx => ?_⟩
  · show P' (if i < w then l i else if i = w then e else l (i - 1))
    rw [hP]
    by_cases c : i < w
    · rw [if_pos c]; exact Or.inl (hS.2.1 i h0 (by omega))
    · rw [if_neg c]
      by_cases c2 : i = w
      · rw [if_pos c2]; exact Or.inr rfl
      · rw [if_neg c2]; exact Or.inl (hS.2.1 _ (by omega) (by omega))
  · show lt (if i < w then l i else if i = w then e else l (i - 1)) (if j < w then l j else if j = w then e else l (j - 1))
    by_cases c : j < w
    · rw [if_pos c, if_pos (by omega)]; exact hS.2.2.1 i j h0 hij (by omega)
    · rw [if_neg c]
      by_cases c2 : j = w
      · rw [if_pos c2, if_pos (by omega)]; exact h1 i h0 (by omega)
      · rw [if_neg c2]
        by_cases c3 : i < w
        · rw [if_pos c3]; exact hS.2.2.1 _ _ h0 (by omega) (by omega)
        · rw [if_neg c3]
          by_cases c4 : i = w
          · rw [if_pos c4]; exact h2 _ (by omega) (by omega)
          · rw [if_neg c4]; exact hS.2.2.1 _ _ (by omega) (by omega) (by omega)
  · rcases (hP x).mp hx with hx | hx
    · obtain ⟨i, a, b, c⟩ := hS.2.2.2 x hx
      by_cases c1 : i < w
      · exact ⟨i, a, by omega, by show (if i < w then l i else _) = x; rw [if_pos c1]; exact c⟩
      · exact ⟨i + 1, by omega, by omega, by show (if i + 1 < w then _ else if i + 1 = w then e else l (i + 1 - 1)) = x; rw [if_neg (by omega), if_neg (by omega), show i + 1 - 1 = i by omega]; exact c⟩
    · exact ⟨w, hw.1, by omega, by show (if w < w then _ else if w = w then e else _) = x; rw [if_neg (by omega), if_pos rfl]; exact hx.symm⟩
/-- one taken out -/
theorem jS_out {lt : Int → Int → Prop} {P P' : Int → Prop} {l : Int → Int} {n w : Int} (hO : jO lt) (hS : jS lt P l n) (hw : 0 ≤ w ∧ w < n) (hP : ∀ x, P' x ↔ (P x ∧ x ≠ l w)) : jS lt P' (fun j => if j < w then l j else l (j + 1)) (n - 1) := by
  refine ⟨by omega, fun i h0 hi => ?_, fun i j h0 hij hj => ?_, fun x hx => ?_⟩
  · show P' (if i < w then l i else l (i + 1))
    rw [hP]
    by_cases c : i < w
    · rw [if_pos c]; exact ⟨hS.2.1 i h0 (by omega), fun q => by have := jS_inj hO hS ⟨h0, by omega⟩ hw q; omega⟩
    · rw [if_neg c]; exact ⟨hS.2.1 _ (by omega) (by omega), fun q => by have := jS_inj hO hS ⟨by omega, by omega⟩ hw q; omega⟩
  · show lt (if i < w then l i else l (i + 1)) (if j < w then l j else l (j + 1))
    by_cases c : j < w
    · rw [if_pos c, if_pos (by omega)]; exact hS.2.2.1 i j h0 hij (by omega)
    · rw [if_neg c]
      by_cases c3 : i < w
      · rw [if_pos c3]; exact hS.2.2.1 _ _ h0 (by omega) (by omega)
      · rw [if_neg c3]; exact hS.2.2.1 _ _ (by omega) (by omega) (by omega)
  · obtain ⟨h1, h2⟩ := (hP x).mp hx
    obtain ⟨i, a, b, c⟩ := hS.2.2.2 x h1
    have hiw : i ≠ w := fun q => h2 (by rw [← c, q])
    by_cases c1 : i < w
    · exact ⟨i, a, by omega, by show (if i < w then l i else _) = x; rw [if_pos c1]; exact c⟩
    · exact ⟨i - 1, by omega, by omega, by show (if i - 1 < w then _ else l (i - 1 + 1)) = x; rw [if_neg (by omega), show i - 1 + 1 = i by omega]; exact c⟩
/-- the place for one more: behind those that are ahead of it -/
theorem jS_put {lt : Int → Int → Prop} {P P' : Int → Prop} {Q : Int → Prop} [DecidablePred Q] {l : Int → Int} {n e : Int} (hO : jO lt) (hS : jS lt P l n) (hQ : ∀ i, 0 ≤ i → i < n → (Q i ↔ lt (l i) e)) (ht : ∀ x, P x → lt x e ∨ lt e x) (hP : ∀ x, P' x ↔ (P x ∨ x = e)) : jS lt P' (fun j => if j < z_fw Q n then l j else if j = z_fw Q n then e else l (j - 1)) (n + 1) := by
  obtain ⟨a, b, c⟩ := jn_fw (P := Q) hS.1
  refine jS_in hS a (fun i h0 h1 => (hQ i h0 (by omega)).mp (b i h0 h1)) (fun i h0 h1 => ?_) hP
  have h2 : lt e (l (z_fw Q n)) := by
    rcases ht _ (hS.2.1 (z_fw Q n) a.1 (by omega)) with h | h
    · exact absurd ((hQ _ a.1 (by omega)).mpr h) (c (by omega))
    · exact h
  by_cases hi : i = z_fw Q n
  · rw [hi]; exact h2
  · exact hO.2 _ _ _ h2 (hS.2.2.1 _ _ a.1 (by omega) h1)
end N1
