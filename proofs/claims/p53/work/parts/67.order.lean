/-! THE ORDER's TEXT: the model's reading stays in bounds. -/
section ORB
variable {t : Nat} {κ κ' κr κc : c_K} {σ ρ : z_S}
def mO (σ : z_S) : Prop := mB σ ∧ mP σ ∧ (0 ≤ σ 5 0 ∧ σ 5 0 ≤ 100) ∧ (∀ i, -3996 ≤ σ 9 i ∧ σ 9 i ≤ 3996) ∧ (σ 4 0 = 2 → 0 ≤ σ 6 0 ∧ σ 6 0 ≤ 999)
def mQ (m : Int) (σ : z_S) : Prop := mO σ ∧ ∀ i, 4 * σ 13 0 ≤ i → i < 4 * σ 13 0 + 4 → -(999 * m) ≤ σ 9 i ∧ σ 9 i ≤ 999 * m
theorem O_rd0 (hB : mB σ) (hP : mP0 σ) (h6 : -1000000 ≤ σ 6 0 ∧ σ 6 0 ≤ 1000000) (h9 : ∀ i, -3996 ≤ σ 9 i ∧ σ 9 i ≤ 3996) : mO (yRd σ) := by
  have hP' := mP_yRd hP h6
  have ha := yA_b hP
  have he := yE_b hP
  have hw := yW_b (σ := σ)
  have hto : ∀ b, 0 ≤ yTo b ∧ yTo b ≤ 4 ∧ yTo b ≠ 2 := fun b => by
    unfold yTo
    split
    · omega
    · split <;> omega
  obtain ⟨q1, q2, q4⟩ := hP
  have hb := q2 (yA σ)
  have ht := hto (σ 1 (yA σ))
  have e1 : mB (yRd σ) := by
    unfold yRd
    split
    · exact mB_u (mB_u (mB_u hB (by omega)) (by omega)) (by omega)
    · split
      · exact mB_u (mB_u (mB_u (mB_u hB (by omega)) (by omega)) (by split <;> omega)) (by omega)
      · exact mB_u (mB_u (mB_u (mB_u hB (by omega)) (by omega)) (by omega)) (by omega)
  have e2 : yRd σ 5 0 = yA σ := by
    unfold yRd
    split
    · rfl
    · split
      · rfl
      · rfl
  have e3 : yRd σ 4 0 = 2 → 0 ≤ yRd σ 6 0 ∧ yRd σ 6 0 ≤ 999 := by
    unfold yRd
    split
    · intro (h : (0 : Int) = 2)
      omega
    · split
      · intro _
        exact hw
      · intro (h : yTo (σ 1 (yA σ)) = 2)
        exact absurd h ht.2.2
  exact ⟨e1, hP', by rw [e2]; omega, fun i => by rw [congrFun (yRd_k (k := 9) (by decide)) i]; exact h9 i, e3⟩
theorem O_rd (h : mO σ) : mO (yRd σ) := O_rd0 h.1 h.2.1.1 h.2.1.2.1 h.2.2.2.1
theorem Q_rd {m : Int} (h : mQ m σ) : mQ m (yRd σ) := ⟨O_rd h.1, fun i => by
  rw [congrFun (yRd_k (k := 13) (by decide)) 0, congrFun (yRd_k (k := 9) (by decide)) i]
  exact h.2 i⟩
theorem Q_up {m : Int} (h : mQ m σ) : mQ (m + 1) σ := ⟨h.1, fun i a b => by have := h.2 i a b; omega⟩
theorem Q_tt {m s x : Int} (h : mQ m σ) (hm : 0 ≤ m ∧ m ≤ 3) (hx : -999 ≤ s * x ∧ s * x ≤ 999) : mQ (m + 1) (yTt σ s x).2 := by
  unfold yTt
  split
  · exact Q_up h
  · rename_i c
    have c3 : σ 4 0 = 3 := Classical.byContradiction c
    have h6 := h.1.2.1.2.2.2 c3
    have hr := h.2 (4 * σ 13 0 + σ 6 0 - 97) (by omega) (by omega)
    generalize s * x = v at hx
    refine Q_rd ⟨⟨mB_u h.1.1 (by omega), h.1.2.1, h.1.2.2.1, fun i => ?_, h.1.2.2.2.2⟩, fun i a b => ?_⟩
    · rw [z_u_eq]
      unfold z_up
      split
      · omega
      · exact h.1.2.2.2.1 i
    · rw [z_u_eq]
      have hq := h.2 i a b
      unfold z_up
      split <;> omega
theorem Q_rt {m s : Int} (h : mQ m σ) (hm : 0 ≤ m ∧ m ≤ 3) (hs : s = 1 ∨ s = -1) : mQ (m + 1) (yRt σ s).2 := by
  unfold yRt
  split
  · rename_i c
    have h6 := h.1.2.2.2.2 c
    split
    · refine Q_tt (Q_rd (Q_rd h)) hm ?_
      rcases hs with rfl | rfl <;> omega
    · exact Q_up (Q_rd h)
  · refine Q_tt h hm ?_
    rcases hs with rfl | rfl <;> omega
theorem Q_tl : ∀ (f : Nat) (σ : z_S) (m : Int), mQ m σ → 0 ≤ m → m + f ≤ 4 → mQ 4 (yTl f σ).2 := by
  intro f
  induction f with
  | zero =>
    intro σ m h h0 h1
    have up : ∀ ρ, mQ m ρ → mQ 4 ρ := fun ρ q => ⟨q.1, fun i a b => by have := q.2 i a b; omega⟩
    unfold yTl
    split
    · exact up _ (Q_rd h)
    · exact up _ h
  | succ f ih =>
    intro σ m h h0 h1
    have hs : ySg σ = 1 ∨ ySg σ = -1 := by unfold ySg; split; exact Or.inl rfl; exact Or.inr rfl
    have h2 := Q_rt (Q_rd h) (m := m) ⟨h0, by omega⟩ hs
    have up : ∀ (k : Int) ρ, k ≤ 4 → mQ k ρ → mQ 4 ρ := fun k ρ hk q => ⟨q.1, fun i a b => by have := q.2 i a b; omega⟩
    unfold yTl
    split
    · split
      · exact up (m + 1) _ (by omega) h2
      · exact ih _ (m + 1) h2 (by omega) (by omega)
    · exact up m _ (by omega) h
theorem Q_c0 (h : mO σ) : mQ 0 (yC0 σ) := by
  have e13 : yC0 σ 13 0 = σ 13 0 := rfl
  have e9 : ∀ i, yC0 σ 9 i = if 4 * σ 13 0 ≤ i ∧ i < 4 * σ 13 0 + 4 then 0 else σ 9 i := fun i => by
    unfold yC0
    rw [z_u_eq, z_u_eq, z_u_eq, z_u_eq, z_u_ne (k := 11) (k' := 9) (by decide)]
    unfold z_up
    by_cases c : 4 * σ 13 0 ≤ i ∧ i < 4 * σ 13 0 + 4
    · rw [if_pos c]
      by_cases c3 : i = 4 * σ 13 0 + 3
      · rw [if_pos c3]
      · rw [if_neg c3]
        by_cases c2 : i = 4 * σ 13 0 + 2
        · rw [if_pos c2]
        · rw [if_neg c2]
          by_cases c1 : i = 4 * σ 13 0 + 1
          · rw [if_pos c1]
          · rw [if_neg c1, if_pos (by omega)]
    · rw [if_neg c, if_neg (by omega), if_neg (by omega), if_neg (by omega), if_neg (by omega)]
  obtain ⟨hB, hP, h5, h9, hk⟩ := h
  refine ⟨⟨?_, hP, h5, fun i => ?_, hk⟩, fun i a b => ?_⟩
  · unfold yC0
    exact mB_u (mB_u (mB_u (mB_u (mB_u hB (by split <;> omega)) (by omega)) (by omega)) (by omega)) (by omega)
  · rw [e9]
    split
    · omega
    · exact h9 i
  · rw [e13] at a b
    rw [e9, if_pos ⟨a, b⟩]
    omega
theorem O_rc (h : mO σ) : mO (yRc σ).2 := by
  have hP := (yRc_s h.2.1).1
  have h1 := Q_rt (Q_rd (Q_c0 h)) (m := 0) (s := 1) (by omega) (Or.inl rfl)
  have h2 := Q_tl 3 _ _ h1 (by omega) (by omega)
  have hN : ∀ q : Int × z_S, mO q.2 → mP (yNc q).2 → mO (yNc q).2 := fun q hq hp => by
    unfold yNc at hp ⊢
    split at hp
    · rename_i c
      rw [if_pos c]; exact hq
    · rename_i c
      rw [if_neg c]
      have b := hq.2.1.1.2.2
      exact ⟨mB_u hq.1 (by omega), hp, hq.2.2.1, hq.2.2.2.1, hq.2.2.2.2⟩
  unfold yRc at hP ⊢
  by_cases c : yGo σ
  · rw [if_pos c] at hP ⊢
    refine hN _ ?_ hP
    split
    · exact h1.1
    · exact h2.1
  · rw [if_neg c]; exact h
theorem O_cl : ∀ (f : Nat) (σ : z_S), mO σ → mO (yCl2 f σ).2 := by
  intro f
  induction f with
  | zero => intro σ h; exact h
  | succ f ih =>
    intro σ h
    have h1 := O_rc (O_rd h)
    unfold yCl2
    split
    · split
      · exact h1
      · exact ih _ h1
    · exact h
theorem mO_ro (h : jJ t κ σ) : mO (yRo σ).2 ∧ ((yRo σ).1 = 0 ∨ ((yRo σ).1 = 1 ∧ 1 ≤ (yRo σ).2 13 0)) := by
  have hV := h.V
  have hB := h.B
  have htm := hV.2.2.2.2.2.2.2.2.2.2.1
  have htp := hV.2.2.2.2.2.2.2.2.2.2.2.2.2.1
  have h9 := h.2.2.2.2.2.2.1
  have hPi : mP0 (z_u (z_u σ 7 0 0) 13 0 0) := ⟨⟨by show (0 : Int) ≤ 0; omega, by show (0 : Int) ≤ σ 2 0; omega, htm.2⟩, htp, by show (0 : Int) ≤ 0 ∧ (0 : Int) ≤ 4; omega⟩
  have h0 : mO (yRo0 σ) := O_rd0 (mB_u (mB_u hB (by omega)) (by omega)) hPi (hB 6 0) h9
  refine ⟨?_, (yRo_s h0.2.1).2⟩
  have h1 := O_rc h0
  unfold yRo
  split
  · exact h1
  · exact O_cl _ _ h1
/-- what the bounds do not look at -/
theorem mV_m (hk : ∀ k, ¬ (k = 4 ∨ k = 5 ∨ k = 6 ∨ k = 7 ∨ k = 9 ∨ k = 11 ∨ k = 13) → ρ k = σ k) (h : mV σ) : mV ρ := by
  have e : ρ = fun k => if k = 4 ∨ k = 5 ∨ k = 6 ∨ k = 7 ∨ k = 9 ∨ k = 11 ∨ k = 13 then ρ k else σ k := by
    funext k
    by_cases c : k = 4 ∨ k = 5 ∨ k = 6 ∨ k = 7 ∨ k = 9 ∨ k = 11 ∨ k = 13
    · exact (if_pos c).symm
    · exact (hk k c).trans (if_neg c).symm
  exact Eq.subst (motive := fun s => mV s) e.symm (show mV (fun k => if k = 4 ∨ k = 5 ∨ k = 6 ∨ k = 7 ∨ k = 9 ∨ k = 11 ∨ k = 13 then ρ k else σ k) from h)
theorem yRo_o (σ : z_S) {k : Nat} (hk : ¬ (k = 4 ∨ k = 5 ∨ k = 6 ∨ k = 7 ∨ k = 9 ∨ k = 11 ∨ k = 13)) : (yRo σ).2 k = σ k := yRo_k (by omega) (by omega) (by omega) σ
theorem jM_ro (h : jJ t κ σ) : jM t (yRo σ).2 := by
  obtain ⟨hO, -⟩ := mO_ro h
  obtain ⟨hB, hV, m1, m2, m3, m4, m5, m6⟩ := h.2
  refine ⟨hO.1, mV_m (fun k hk => yRo_o σ hk) hV, m11_ro m1, ?_, ?_, hO.2.2.2.1, hO.2.2.1, ?_⟩
  · rw [yRo_o σ (k := 17) (by omega)]; exact m2
  · rw [yRo_o σ (k := 20) (by omega)]; exact m3
  · unfold jIl
    rw [yRo_o σ (k := 25) (by omega), yRo_o σ (k := 21) (by omega), yRo_o σ (k := 22) (by omega)]
    exact m6
theorem jR_So (hV : cV κ) (h : jJ t κ σ) (hk : kSo κ κr (1 - κ 17 0 0)) : jR κr (yRo σ).2 :=
  jR_m (fun k hk => yRo_o σ (by omega)) (jR_k hV (fun k i a b c => funext fun j => hk k i j (by omega)) h.V h.1)
theorem jR_Rf {v : Int} (h : jR κ σ) : jR (kRe κ v) (z_u (z_u σ 3 0 v) 2 0 0) := by
  obtain ⟨ht, ha, ho, he, hz, hs, hp, hl, hm, hj⟩ := h
  refine ⟨⟨?_, ?_, fun i h0 h1 => ?_⟩, ⟨?_, ha.2⟩, ho, he, hz, hs, hp, hl, hm, hj⟩
  · unfold kRe; rw [k_u_at, z_u_at]
  · rw [z_u_at]; omega
  · rw [z_u_at] at h1; omega
  · unfold kRe
    rw [k_u_ne (by decide), k_u_at, z_u_ne (by decide), z_u_at]
theorem jM_Rf {v : Int} (hv : -1000000 ≤ v ∧ v ≤ 1000000) (h : jM t σ) : jM t (z_u (z_u σ 3 0 v) 2 0 0) := by
  obtain ⟨hB, hV, m1, m2, m3, m4, m5, m6⟩ := h
  have a1 : mV (z_u σ 2 0 0) := mVu_2 hV (by omega)
  exact ⟨mB_u (mB_u hB hv) (by omega), a1, m1, m2, m3, m4, m5, m6⟩
/-- the standing made anew -/
def kMi (κc : c_K) (ρ : z_S) (m : Nat) (κm : c_K) : Prop := (∀ k, k ≠ 20 → k ≠ 24 → k ≠ 25 → k ≠ 26 → k ≠ 31 → k ≠ 37 → κm k = κc k) ∧ (∀ (k : Nat) (i : Int), i ≠ 1 → k = 20 ∨ k = 24 → κm k i = κc k i) ∧ jSt (hh ρ) (fun x => pr ρ x ∧ x < m) κm ∧ (∀ x, pr ρ x → x < m → mrt κm ρ x x) ∧ ∀ x, ¬ pr ρ x → κm 37 x 0 = κc 37 x 0
theorem kMi_all (hO : jRo κc ρ) (h24 : κc 24 1 0 = 0) (h30 : ∀ e, pr ρ e → ∀ j, 0 ≤ j → j < 4 → κc 30 e j = ρ 14 (4 * e + j)) (h34 : ∀ e, pr ρ e → κc 34 e 0 = e) (h36 : ∀ e, 0 ≤ e → e < ρ 19 0 → κc 36 e 0 = ρ 18 e) : ∀ (m : Nat) (κ' : c_K), (m : Int) ≤ ρ 19 0 → kMr κc m κ' → kMi κc ρ m κ' := by
  intro m
  induction m with
  | zero =>
    intro κ' _ hk
    have e : κ' = κc := hk
    subst e
    exact ⟨fun _ _ _ _ _ _ _ => rfl, fun _ _ _ _ => rfl, ⟨⟨by omega, fun i a b => by omega, fun i j a b c => by omega, fun e he => by have := he.1.1; have := he.2; omega⟩, fun i a b => by omega⟩, fun x hx hm => by have := hx.1; omega, fun _ _ => rfl⟩
  | succ m ih =>
    intro κ' hm hk
    obtain ⟨κ0, hk0, hstep⟩ := hk
    obtain ⟨a1, a2, a3, a4, a5⟩ := ih κ0 (by omega) hk0
    have e36 : κ0 36 (m : Int) 0 = ρ 18 (m : Int) := by rw [a1 36 (by decide) (by decide) (by decide) (by decide) (by decide) (by decide)]; exact h36 _ (by omega) (by omega)
    rcases hstep with ⟨hz, rfl⟩ | ⟨hz, N, rfl⟩
    · have hnp : ¬ pr ρ (m : Int) := fun q => q.2.2 (by rw [← e36]; exact hz)
      have hP : ∀ x, (pr ρ x ∧ x < ((m + 1 : Nat) : Int)) ↔ (pr ρ x ∧ x < (m : Int)) := fun x => ⟨fun q => ⟨q.1, by
        by_cases c : x = (m : Int)
        · subst c; exact absurd q.1 hnp
        · have := q.2; omega⟩, fun q => ⟨q.1, by have := q.2; omega⟩⟩
      exact ⟨a1, a2, ⟨jS_cg a3.1 rfl (fun _ _ _ => rfl) hP (fun _ _ _ _ z => z), a3.2⟩, fun x hx hxm => a4 x hx ((hP x).mp ⟨hx, hxm⟩).2, a5⟩
    · have hp : pr ρ (m : Int) := ⟨by omega, by omega, by rw [← e36]; exact hz⟩
      have hO0 : jRo κ0 ρ := by
        unfold jRo
        rw [a1 16 (by decide) (by decide) (by decide) (by decide) (by decide) (by decide), a1 17 (by decide) (by decide) (by decide) (by decide) (by decide) (by decide), a1 12 (by decide) (by decide) (by decide) (by decide) (by decide) (by decide), a1 14 (by decide) (by decide) (by decide) (by decide) (by decide) (by decide)]
        exact hO
      have hmm : mrt (kJd κ0 (κ0 17 0 0) (m : Int)) ρ (m : Int) (m : Int) := jud1 hO0 rfl (fun k a b => by rw [a1 30 (by decide) (by decide) (by decide) (by decide) (by decide) (by decide)]; exact h30 _ hp k a b)
      have hmx : ∀ x, pr ρ x → x < (m : Int) → mrt (kJd κ0 (κ0 17 0 0) (m : Int)) ρ x x := fun x hx hxm c b1 b2 => by
        rw [kJd_ni (by omega)]
        exact a4 x hx hxm c b1 b2
      have e34 : ∀ x, pr ρ x → kJd κ0 (κ0 17 0 0) (m : Int) 34 x 0 = x := fun x hx => by
        rw [kJd_ne (by decide), a1 34 (by decide) (by decide) (by decide) (by decide) (by decide) (by decide)]
        exact h34 x hx
      have r1 : ∀ k : Nat, k = 20 ∨ k = 24 → kJd κ0 (κ0 17 0 0) (m : Int) k = κ0 k := fun k hk => kJd_ne (by omega)
      obtain ⟨sA, sB⟩ := Sp_st (κ := kJd κ0 (κ0 17 0 0) (m : Int)) (N := N) (P := fun x => pr ρ x ∧ x < (m : Int)) (P' := fun x => pr ρ x ∧ x < ((m + 1 : Nat) : Int)) (e := (m : Int)) (hh_o ρ) (by rw [r1 20 (Or.inl rfl), r1 24 (Or.inr rfl)]; exact a3.1) (fun i b1 b2 => by
        rw [r1 20 (Or.inl rfl)]
        rw [r1 24 (Or.inr rfl)] at b2
        have hx := a3.1.2.1 i b1 b2
        exact hI_r (hmx _ hx.1 hx.2) hmm ⟨e34 _ hx.1, e34 _ hp⟩) (fun x hx => hh_c _ (by have := hx.2; omega)) (fun x => by
        by_cases c : x = (m : Int)
        · subst c
          exact ⟨fun _ => Or.inr rfl, fun _ => ⟨hp, by omega⟩⟩
        · exact ⟨fun q => Or.inl ⟨q.1, by have := q.2; omega⟩, fun q => q.elim (fun z => ⟨z.1, by have := z.2; omega⟩) (fun z => absurd z c)⟩)
      refine ⟨fun k b1 b2 b3 b4 b5 b6 => ?_, fun k i b1 b2 => ?_, sA, fun x hx hxm c b1 b2 => ?_, fun x hx => ?_⟩
      · rw [kSp_ne ⟨b1, b2, b3, b4, b6⟩, kJd_ne b5]
        exact a1 k b1 b2 b3 b4 b5 b6
      · rw [kSp_ni (by omega) b1, r1 k b2]
        exact a2 k i b1 b2
      · rw [kSp_ne (by decide)]
        by_cases c' : x = (m : Int)
        · subst c'; exact hmm c b1 b2
        · exact hmx x hx (by omega) c b1 b2
      · rw [sB x (fun q => hx q.1), kJd_ne (by decide)]
        exact a5 x hx
theorem jJ_order (h : jJ t κ σ) (hV : cV κ) (hS : cS κ) (hk : kSo κ κr (1 - κ 17 0 0)) (hF : FO κr (yRo σ).2 (1 - κ 17 0 0) ((yRo σ).2 13 0)) (hQ : SO κr (yRo σ).2 (1 - κ 17 0 0) ((yRo σ).2 13 0)) (h16 : κr 16 (1 - κ 17 0 0) 0 = (yRo σ).2 13 0) (h1 : (yRo σ).1 ≠ 0) (hM : kMr (kCl (kSw (kRe κr (-1)))) (κ 24 0 0).toNat κ') : jJ t κ' (ySo σ) := by
  have hR := jR_So hV h hk
  have hE := jR_Rf (v := -1) hR
  have hJM := jM_Rf (v := -1) (by omega) (jM_ro h)
  obtain ⟨hOO, h01⟩ := mO_ro h
  have hn13 := (h01.resolve_left h1).2
  have hn4 := hOO.2.1.1.2.2.2
  have h17 := hV.2.2.2.1
  have er17 : κr 17 0 0 = κ 17 0 0 := hk 17 0 0 (by omega)
  have c1 : ∀ k, k ≠ 20 → k ≠ 24 → k ≠ 25 → k ≠ 17 → kCl (kSw (kRe κr (-1))) k = kRe κr (-1) k := fun k a b c d => by
    unfold kCl kSw
    rw [kRw_ne ⟨a, b, c⟩, k_u_ne d]
  have c2 : ∀ (k : Nat) (i : Int), i ≠ 1 → k ≠ 17 → kCl (kSw (kRe κr (-1))) k i = kRe κr (-1) k i := fun k i a d => by
    unfold kCl kSw
    rw [kRw_ni a, k_u_ne d]
  have c17 : kCl (kSw (kRe κr (-1))) 17 0 0 = 1 - κ 17 0 0 := by
    unfold kCl kSw
    rw [kRw_ne (by decide), k_u_at, show kRe κr (-1) 17 0 0 = κr 17 0 0 from by unfold kRe; rw [k_u_ne (by decide), k_u_ne (by decide)], er17]
  have cr : ∀ k, k ≠ 0 → k ≠ 5 → kRe κr (-1) k = κr k := fun k a b => by unfold kRe; rw [k_u_ne b, k_u_ne a]
  have e24 : κ 24 0 0 = σ 19 0 := h.1.n
  have y12 : ySo σ 12 0 = (yRo σ).2 13 0 := by
    unfold ySo
    rw [z_ur_ne (by decide), z_ur_ne (by decide), z_u_at]
  have y8 : ySo σ 8 = fun i => if 0 ≤ i ∧ i < 4 * (yRo σ).2 13 0 then (yRo σ).2 9 i else (yRo σ).2 8 i := by
    unfold ySo
    rw [z_ur_ne (by decide), z_ur_at]
  have y10 : ySo σ 10 = fun i => if 0 ≤ i ∧ i < (yRo σ).2 13 0 then (yRo σ).2 11 i else (yRo σ).2 10 i := by
    unfold ySo
    rw [z_ur_at]
  have yo : ∀ k, k ≠ 12 → k ≠ 8 → k ≠ 10 → ySo σ k = z_u (z_u (yRo σ).2 3 0 (-1)) 2 0 0 k := fun k a b c => by
    unfold ySo
    rw [z_ur_ne c, z_ur_ne b, z_u_ne a]
  have hO : jRo (kCl (kSw (kRe κr (-1)))) (ySo σ) := by
    unfold jRo
    rw [c17, c1 16 (by decide) (by decide) (by decide) (by decide), c1 12 (by decide) (by decide) (by decide) (by decide), c1 14 (by decide) (by decide) (by decide) (by decide), cr 16 (by decide) (by decide), cr 12 (by decide) (by decide), cr 14 (by decide) (by decide), y12, y8, y10]
    refine ⟨h16, fun j a b => ?_, fun c a b => ?_⟩
    · rw [hF j a b]
      by_cases c : j < 4 * (yRo σ).2 13 0
      · rw [if_pos c, if_pos c]
        exact (if_pos ⟨a, c⟩).symm
      · rw [if_neg c, if_neg c]
    · rw [hQ c a b]
      by_cases d : c < (yRo σ).2 13 0
      · rw [if_pos d, if_pos d]
        show _ = if (if 0 ≤ c ∧ c < (yRo σ).2 13 0 then (yRo σ).2 11 c else (yRo σ).2 10 c) = 1 then (1 : Int) else -1
        rw [if_pos (show 0 ≤ c ∧ c < (yRo σ).2 13 0 from ⟨a, d⟩)]
      · rw [if_neg d, if_neg d]
  have y19 : ySo σ 19 = σ 19 := (yo 19 (by decide) (by decide) (by decide)).trans (by rw [z_u_ne (by decide), z_u_ne (by decide)]; exact yRo_o σ (by omega))
  have y18 : ySo σ 18 = σ 18 := (yo 18 (by decide) (by decide) (by decide)).trans (by rw [z_u_ne (by decide), z_u_ne (by decide)]; exact yRo_o σ (by omega))
  have y14 : ySo σ 14 = σ 14 := (yo 14 (by decide) (by decide) (by decide)).trans (by rw [z_u_ne (by decide), z_u_ne (by decide)]; exact yRo_o σ (by omega))
  have hpr : ∀ x, pr (ySo σ) x ↔ pr σ x := fun x => by unfold pr; rw [y19, y18]
  have kk : ∀ k, 30 ≤ k → kCl (kSw (kRe κr (-1))) k = κ k := fun k a => by
    rw [c1 k (by omega) (by omega) (by omega) (by omega), cr k (by omega) (by omega)]
    funext i j
    exact hk k i j (by omega)
  obtain ⟨a1, a2, a3, a4, a5⟩ := kMi_all hO (by unfold kCl; exact kRw_24) (fun e he j a b => by rw [kk 30 (by decide), y14]; exact (h.1.e (pr_b ((hpr e).mp he))).1 j a b) (fun e he => by rw [kk 34 (by decide)]; exact jR.xn34 hS h.1 ((hpr e).mp he)) (fun e a b => by rw [kk 36 (by decide), y18]; exact (h.1.e ⟨a, by rw [y19] at b; exact b⟩).2.2.1) (κ 24 0 0).toNat κ' (by rw [y19, e24]; have := mV_n h.V; omega) hM
  have hst : jR κ' (z_ur (z_ur (z_u (z_u (z_u (yRo σ).2 3 0 (-1)) 2 0 0) 12 0 ((yRo σ).2 13 0)) 8 (fun i => if 0 ≤ i ∧ i < 4 * (yRo σ).2 13 0 then (yRo σ).2 9 i else (yRo σ).2 8 i)) 10 (fun i => if 0 ≤ i ∧ i < (yRo σ).2 13 0 then (yRo σ).2 11 i else (yRo σ).2 10 i)) := by
    have q0 : ∀ k, k ≠ 20 → k ≠ 24 → k ≠ 25 → k ≠ 26 → k ≠ 31 → k ≠ 37 → k ≠ 17 → κ' k = kRe κr (-1) k := fun k b1 b2 b3 b4 b5 b6 b7 => (a1 k b1 b2 b3 b4 b5 b6).trans (c1 k b1 b2 b3 b7)
    have qr : ∀ (k : Nat) (i : Int), i ≠ 1 → k = 20 ∨ k = 24 → κ' k i = kRe κr (-1) k i := fun k i b1 b2 => (a2 k i b1 b2).trans (c2 k i b1 (by omega))
    have hnn : (((κ 24 0 0).toNat : Nat) : Int) = σ 19 0 := by rw [e24]; have := mV_n h.V; omega
    have hP : ∀ x, pr (ySo σ) x ↔ (pr (ySo σ) x ∧ x < (((κ 24 0 0).toNat : Nat) : Int)) := fun x => ⟨fun q => ⟨q, by rw [hnn]; exact ((hpr x).mp q).2.1⟩, fun q => q.1⟩
    refine ⟨?_, ?_, ?_, fun x h0 h1 => ?_, hE.2.2.2.2.1, ?_, ?_, ?_, hE.m, hE.k⟩
    · unfold TR
      rw [q0 5 (by decide) (by decide) (by decide) (by decide) (by decide) (by decide) (by decide), q0 4 (by decide) (by decide) (by decide) (by decide) (by decide) (by decide) (by decide)]
      exact hE.t
    · unfold jRa
      rw [q0 0 (by decide) (by decide) (by decide) (by decide) (by decide) (by decide) (by decide), q0 1 (by decide) (by decide) (by decide) (by decide) (by decide) (by decide) (by decide), q0 18 (by decide) (by decide) (by decide) (by decide) (by decide) (by decide) (by decide), q0 19 (by decide) (by decide) (by decide) (by decide) (by decide) (by decide) (by decide), qr 24 0 (by decide) (Or.inr rfl)]
      exact hE.a
    · have e := hO
      unfold jRo at e ⊢
      rw [a1 16 (by decide) (by decide) (by decide) (by decide) (by decide) (by decide), a1 17 (by decide) (by decide) (by decide) (by decide) (by decide) (by decide), a1 12 (by decide) (by decide) (by decide) (by decide) (by decide) (by decide), a1 14 (by decide) (by decide) (by decide) (by decide) (by decide) (by decide)]
      exact e
    · obtain ⟨q1, q2, q3, q4, q5, q6, q7⟩ := hE.e (e := x) ⟨h0, h1⟩
      refine ⟨fun k a b => ?_, ?_, ?_, fun j a b c => ?_, fun s a b c => ?_, fun hc => ⟨?_, ?_, ?_, ?_⟩, fun hc => ?_⟩
      · rw [q0 30 (by decide) (by decide) (by decide) (by decide) (by decide) (by decide) (by decide)]; exact q1 k a b
      · rw [q0 35 (by decide) (by decide) (by decide) (by decide) (by decide) (by decide) (by decide)]; exact q2
      · rw [q0 36 (by decide) (by decide) (by decide) (by decide) (by decide) (by decide) (by decide)]; exact q3
      · rw [q0 33 (by decide) (by decide) (by decide) (by decide) (by decide) (by decide) (by decide)]; exact q4 j a b c
      · rw [q0 32 (by decide) (by decide) (by decide) (by decide) (by decide) (by decide) (by decide)]; exact q5 s a b c
      · rw [q0 38 (by decide) (by decide) (by decide) (by decide) (by decide) (by decide) (by decide)]; exact (q6 hc).1
      · have hp : pr (ySo σ) x := ⟨h0, h1, hc⟩
        exact a4 x hp ((hP x).mp hp).2
      · rw [q0 39 (by decide) (by decide) (by decide) (by decide) (by decide) (by decide) (by decide), q0 40 (by decide) (by decide) (by decide) (by decide) (by decide) (by decide) (by decide)]; exact (q6 hc).2.2.1
      · rw [q0 40 (by decide) (by decide) (by decide) (by decide) (by decide) (by decide) (by decide)]; exact (q6 hc).2.2.2
      · have hnp : ¬ pr (ySo σ) x := fun q => q.2.2 hc
        rw [a5 x hnp, c1 37 (by decide) (by decide) (by decide) (by decide)]
        exact q7 hc
    · exact ⟨jS_cg a3.1 rfl (fun _ _ _ => rfl) hP (fun _ _ _ _ z => z), a3.2⟩
    · unfold jRp
      rw [qr 20 2 (by decide) (Or.inl rfl), qr 24 2 (by decide) (Or.inr rfl)]
      exact hE.p
    · unfold jRl
      rw [qr 20 3 (by decide) (Or.inl rfl), qr 24 3 (by decide) (Or.inr rfl)]
      exact hE.l
  refine ⟨hst, ?_⟩
  obtain ⟨hB, hV2, m1, m2, m3, m4, m5, m6⟩ := hJM
  have b8 : ∀ i, -3996 ≤ (if 0 ≤ i ∧ i < 4 * (yRo σ).2 13 0 then (yRo σ).2 9 i else (yRo σ).2 8 i) ∧ (if 0 ≤ i ∧ i < 4 * (yRo σ).2 13 0 then (yRo σ).2 9 i else (yRo σ).2 8 i) ≤ 3996 := fun i => by
    split
    · exact hOO.2.2.2.1 i
    · rw [yRo_o σ (k := 8) (by omega)]; exact h.V.1 i
  have b10 : ∀ i, (if 0 ≤ i ∧ i < (yRo σ).2 13 0 then (yRo σ).2 11 i else (yRo σ).2 10 i) = 0 ∨ (if 0 ≤ i ∧ i < (yRo σ).2 13 0 then (yRo σ).2 11 i else (yRo σ).2 10 i) = 1 := fun i => by
    split
    · exact m11_ro h.m11 i
    · rw [yRo_o σ (k := 10) (by omega)]; exact h.V.2.2.2.2.2.1 i
  unfold ySo
  exact ⟨mB_ur (mB_ur (mB_u hB (by omega)) (fun i => ⟨Int.le_trans (by decide) (b8 i).1, Int.le_trans (b8 i).2 (by decide)⟩)) (fun i => by rcases b10 i with q | q <;> rw [q] <;> decide), mVr_10 (mVr_8 (mVu_12 hV2 ⟨hn13, hn4⟩) b8) b10, m1, m2, m3, m4, m5, m6⟩
end ORB
section ORC
end ORC
