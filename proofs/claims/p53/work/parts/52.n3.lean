/-! THE RELATION between the class's state and the model's, and what both read. -/
section N3
/-- the numbers; the order; an entrant; one that has not come; the standing; the row of points; the ladder; when they came to their points; the rounds kept -/
def jRa (κ : c_K) (σ : z_S) : Prop := κ 0 0 0 = σ 3 0 ∧ κ 1 0 0 = σ 30 0 ∧ κ 18 0 0 = σ 26 0 ∧ κ 19 0 0 = σ 27 0 ∧ κ 24 0 0 = σ 19 0
def jRo (κ : c_K) (σ : z_S) : Prop := κ 16 (κ 17 0 0) 0 = σ 12 0 ∧ (∀ j, 0 ≤ j → j < 16 → κ 12 (κ 17 0 0) j = if j < 4 * σ 12 0 then σ 8 j else 0) ∧ ∀ c, 0 ≤ c → c < 4 → κ 14 (κ 17 0 0) c = if c < σ 12 0 then (if σ 10 c = 1 then 1 else -1) else 0
/-- in the ladder -/
abbrev jIl (σ : z_S) (e : Int) : Prop := ∃ i, 0 ≤ i ∧ i < σ 25 0 ∧ σ 21 i = e
def jRt (κ : c_K) (σ : z_S) (e : Int) : Prop := κ 38 e 0 = σ 14 (4 * e) - σ 17 e ∧ mrt κ σ e e ∧ (jIl σ e → κ 39 e 0 = σ 22 e ∧ κ 40 e 0 = σ 23 e) ∧ (¬ jIl σ e → κ 40 e 0 = -1)
def jRe (κ : c_K) (σ : z_S) (e : Int) : Prop := (∀ k, 0 ≤ k → k < 4 → κ 30 e k = σ 14 (4 * e + k)) ∧ κ 35 e 0 = σ 15 e ∧ κ 36 e 0 = σ 18 e ∧ (∀ j, 0 ≤ j → j < 20 → j < σ 30 0 → κ 33 e j = σ 29 (20 * e + j)) ∧ (∀ r, 0 ≤ r → r < σ 30 0 → σ 30 0 - 10 ≤ r → κ 32 e (r % 10) = σ 28 (200 * e + r)) ∧ (σ 18 e ≠ 0 → jRt κ σ e) ∧ (σ 18 e = 0 → κ 37 e 0 = -1)
def jRz (σ : z_S) (e : Int) : Prop := (∀ k, 0 ≤ k → k < 4 → σ 14 (4 * e + k) = 0) ∧ σ 18 e = 0 ∧ σ 17 e = 0 ∧ (∀ j, 0 ≤ j → j < 20 → j < σ 30 0 → σ 29 (20 * e + j) = -1) ∧ ∀ r, 0 ≤ r → r < σ 30 0 → σ 28 (200 * e + r) = 0
def jRs (κ : c_K) (σ : z_S) : Prop := jS (hh σ) (pr σ) (κ 20 1) (κ 24 1 0) ∧ ∀ i, 0 ≤ i → i < κ 24 1 0 → κ 37 (κ 20 1 i) 0 = i + 1
abbrev pp (σ : z_S) (a b : Int) : Prop := σ 14 (4 * a) < σ 14 (4 * b) ∨ (σ 14 (4 * a) = σ 14 (4 * b) ∧ σ 16 a < σ 16 b)
def jRp (κ : c_K) (σ : z_S) : Prop := jS (pp σ) (pr σ) (κ 20 2) (κ 24 2 0)
def jRl (κ : c_K) (σ : z_S) : Prop := κ 24 3 0 = σ 25 0 ∧ (∀ i, 0 ≤ i → i < σ 25 0 → κ 20 3 i = σ 21 i ∧ pr σ (σ 21 i)) ∧ mD σ
def jRm (σ : z_S) : Prop := (∀ e, pr σ e → 1 ≤ σ 16 e ∧ σ 16 e ≤ σ 20 0) ∧ ∀ e o, pr σ e → pr σ o → σ 16 e = σ 16 o → e = o
def jRk (σ : z_S) : Prop := ∀ j, 0 ≤ j → j < 20 → j < σ 30 0 → (∀ e, 0 ≤ e → e < σ 19 0 → σ 29 (20 * e + j) = -1 ∨ (1 ≤ σ 29 (20 * e + j) ∧ σ 29 (20 * e + j) ≤ 30)) ∧ ∀ e o, 0 ≤ e → e < σ 19 0 → 0 ≤ o → o < σ 19 0 → e ≠ o → σ 29 (20 * e + j) ≠ -1 → σ 29 (20 * e + j) ≠ σ 29 (20 * o + j)
def jR (κ : c_K) (σ : z_S) : Prop := TR κ σ ∧ jRa κ σ ∧ jRo κ σ ∧ (∀ e, 0 ≤ e → e < σ 19 0 → jRe κ σ e) ∧ (∀ e, σ 19 0 ≤ e → e < 30 → jRz σ e) ∧ jRs κ σ ∧ jRp κ σ ∧ jRl κ σ ∧ jRm σ ∧ jRk σ
section
variable {κ : c_K} {σ : z_S}
theorem jR.t (h : jR κ σ) : TR κ σ := h.1
theorem jR.a (h : jR κ σ) : jRa κ σ := h.2.1
theorem jR.o (h : jR κ σ) : jRo κ σ := h.2.2.1
theorem jR.e (h : jR κ σ) {e : Int} (he : 0 ≤ e ∧ e < σ 19 0) : jRe κ σ e := h.2.2.2.1 e he.1 he.2
theorem jR.z (h : jR κ σ) {e : Int} (he : σ 19 0 ≤ e ∧ e < 30) : jRz σ e := h.2.2.2.2.1 e he.1 he.2
theorem jR.s (h : jR κ σ) : jRs κ σ := h.2.2.2.2.2.1
theorem jR.p (h : jR κ σ) : jRp κ σ := h.2.2.2.2.2.2.1
theorem jR.l (h : jR κ σ) : jRl κ σ := h.2.2.2.2.2.2.2.1
theorem jR.m (h : jR κ σ) : jRm σ := h.2.2.2.2.2.2.2.2.1
theorem jR.k (h : jR κ σ) : jRk σ := h.2.2.2.2.2.2.2.2.2
theorem jR.n (h : jR κ σ) : κ 24 0 0 = σ 19 0 := h.a.2.2.2.2
theorem jR.xmr (h : jR κ σ) {e : Int} (he : pr σ e) : mrt κ σ e e := ((h.e ⟨he.1, he.2.1⟩).2.2.2.2.2.1 he.2.2).2.1
theorem jR.xsp (h : jR κ σ) {i : Int} (hi : 0 ≤ i ∧ i < κ 24 1 0) : pr σ (κ 20 1 i) := h.s.1.2.1 i hi.1 hi.2
theorem jR.xpp (h : jR κ σ) {i : Int} (hi : 0 ≤ i ∧ i < κ 24 2 0) : pr σ (κ 20 2 i) := h.p.2.1 i hi.1 hi.2
/-- the class's and the model's 'is there' -/
theorem jR.xpr (h : jR κ σ) (e : Int) : (0 ≤ e ∧ e < κ 24 0 0 ∧ κ 36 e 0 ≠ 0) ↔ pr σ e := by
  rw [h.n]
  constructor
  · rintro ⟨a, b, c⟩; exact ⟨a, b, by rw [← (h.e ⟨a, b⟩).2.2.1]; exact c⟩
  · rintro ⟨a, b, c⟩; exact ⟨a, b, by rw [(h.e ⟨a, b⟩).2.2.1]; exact c⟩
theorem jR.xn34 (hS : cS κ) (h : jR κ σ) {e : Int} (he : pr σ e) : κ 34 e 0 = e := hS.n0 e he.1 (by rw [h.n]; exact he.2.1)
theorem jR.xpts (h : jR κ σ) {e : Int} (he : 0 ≤ e ∧ e < σ 19 0) : κ 30 e 0 = σ 14 (4 * e) := by
  have := (h.e he).1 0 (by omega) (by omega)
  rw [this, Int.add_zero]
theorem pp_o (σ : z_S) : jO (pp σ) := ⟨fun a h => by omega, fun a b c h1 h2 => by omega⟩
theorem pp_c (hm : jRm σ) {a b : Int} (ha : pr σ a) (hb : pr σ b) (h : a ≠ b) : pp σ a b ∨ pp σ b a := by
  have : σ 16 a ≠ σ 16 b := fun q => h (hm.2 a b ha hb q)
  omega
end
variable {κ : c_K} {σ : z_S}
theorem mV_n (hV : mV σ) : 0 ≤ σ 19 0 ∧ σ 19 0 ≤ 30 := hV.2.2.1
theorem mV_c (hV : mV σ) : 1 ≤ σ 12 0 ∧ σ 12 0 ≤ 4 := hV.2.2.2.1
theorem pr_b {e : Int} (h : pr σ e) : 0 ≤ e ∧ e < σ 19 0 := ⟨h.1, h.2.1⟩
/-- sums over the standing, over the row of points -/
theorem jR.xss (h : jR κ σ) (hV : mV σ) (f : Int → Int) : z_sm (fun i => f (κ 20 1 i)) (κ 24 1 0) = z_sm (fun e => if pr σ e then f e else 0) (σ 19 0) := jS_sum (hh_o σ) h.s.1 (mV_n hV).1 (fun _ q => pr_b q)
theorem jR.xsq (h : jR κ σ) (hV : mV σ) (f : Int → Int) : z_sm (fun i => f (κ 20 2 i)) (κ 24 2 0) = z_sm (fun e => if pr σ e then f e else 0) (σ 19 0) := jS_sum (pp_o σ) h.p (mV_n hV).1 (fun _ q => pr_b q)
theorem jR.xcs (h : jR κ σ) (hV : mV σ) (Q : Int → Prop) [DecidablePred Q] : z_sm (fun i => if Q (κ 20 1 i) then (1 : Int) else 0) (κ 24 1 0) = z_sm (fun e => if pr σ e ∧ Q e then (1 : Int) else 0) (σ 19 0) := jS_ct (hh_o σ) h.s.1 (mV_n hV).1 (fun _ q => pr_b q)
theorem jR.xcq (h : jR κ σ) (hV : mV σ) (Q : Int → Prop) [DecidablePred Q] : z_sm (fun i => if Q (κ 20 2 i) then (1 : Int) else 0) (κ 24 2 0) = z_sm (fun e => if pr σ e ∧ Q e then (1 : Int) else 0) (σ 19 0) := jS_ct (pp_o σ) h.p (mV_n hV).1 (fun _ q => pr_b q)
/-- two ways to count the same -/
theorem jn_ct {P Q : Int → Prop} [DecidablePred P] [DecidablePred Q] {n : Int} (h : ∀ i, 0 ≤ i → i < n → (P i ↔ Q i)) : z_sm (fun i => if P i then (1 : Int) else 0) n = z_sm (fun i => if Q i then (1 : Int) else 0) n := z_sm_congr fun i h0 h1 => by
  by_cases c : P i
  · rw [if_pos c, if_pos ((h i h0 h1).mp c)]
  · rw [if_neg c, if_neg (fun q => c ((h i h0 h1).mpr q))]
theorem jR.xn1 (h : jR κ σ) (hV : mV σ) : κ 24 1 0 = my σ := by rw [my_h]; exact (jS_num (hh_o σ) h.s.1 (mV_n hV).1 (fun _ q => pr_b q)).symm
theorem jR.xn2 (h : jR κ σ) (hV : mV σ) : κ 24 2 0 = my σ := by rw [my_h]; exact (jS_num (pp_o σ) h.p (mV_n hV).1 (fun _ q => pr_b q)).symm
/-- the i-th of the standing has the place i + 1 -/
theorem jR.xpl1 (h : jR κ σ) (hV : mV σ) {i : Int} (hi : 0 ≤ i ∧ i < κ 24 1 0) : pl σ (κ 20 1 i) = i + 1 := by
  rw [pl_h (mV_c hV) (pr_b (h.xsp hi)), jS_pos (hh_o σ) h.s.1 (mV_n hV).1 (fun _ q => pr_b q) hi]
theorem jR.xat (h : jR κ σ) {e : Int} (he : pr σ e) : ∃ i, (0 ≤ i ∧ i < κ 24 1 0) ∧ κ 20 1 i = e := by
  obtain ⟨i, a, b, c⟩ := h.s.1.2.2.2 e he
  exact ⟨i, ⟨a, b⟩, c⟩
theorem jR.xpl (h : jR κ σ) (hV : mV σ) {e : Int} (he : pr σ e) : pl σ e = κ 37 e 0 ∧ 1 ≤ pl σ e ∧ pl σ e ≤ κ 24 1 0 ∧ κ 20 1 (pl σ e - 1) = e := by
  obtain ⟨i, hi, rfl⟩ := h.xat he
  rw [h.xpl1 hV hi]
  exact ⟨(h.s.2 i hi.1 hi.2).symm, by omega, by omega, by rw [show i + 1 - 1 = i by omega]⟩
theorem jR.xea (h : jR κ σ) (hV : mV σ) {p : Int} (hp : 1 ≤ p ∧ p ≤ κ 24 1 0) : ea σ p = κ 20 1 (p - 1) := by
  have hq := h.xsp (i := p - 1) (by omega)
  have hl := h.xpl1 hV (i := p - 1) (by omega)
  unfold ea
  refine jn_ff (pr_b hq) ⟨hq.2.2, by omega⟩ fun j h0 h1 h2 => ?_
  have hj : pr σ j := ⟨h0, by have := hq.2.1; omega, h2.1⟩
  have h3 := (h.xpl hV hj).2.2.2
  rw [h2.2] at h3
  omega
theorem jR.xmE (h : jR κ σ) (hV : mV σ) : mE σ := fun p h1 h2 => by
  rw [h.xea hV (by rw [h.xn1 hV]; omega)]
  have := (h.xsp (i := p - 1) (by rw [h.xn1 hV]; omega)).1
  omega
theorem jR.xat1 (h : jR κ σ) (hV : mV σ) (hS : cS κ) {p : Int} (hp : 1 ≤ p ∧ p ≤ κ 24 1 0) : κ 34 (κ 20 1 (p - 1)) 0 = ea σ p := by
  rw [jR.xn34 hS h (h.xsp (i := p - 1) (by omega)), h.xea hV hp]
/-- ranks -/
theorem jR.xsRk (h : jR κ σ) (hV : mV σ) (hS : cS κ) {e : Int} (he : pr σ e) : sRk κ e = bt σ e + 1 := by
  unfold sRk
  rw [h.xcs hV (fun x => κ 34 x 0 ≠ κ 34 e 0 ∧ bI κ x e ≠ 0), bt_h (mV_c hV)]
  congr 1
  refine jn_ct fun o _ _ => ?_
  constructor
  · rintro ⟨a, -, c⟩; exact ⟨a, (bI_r (h.xmr a) (h.xmr he)).mp c⟩
  · rintro ⟨a, c⟩
    refine ⟨a, ?_, (bI_r (h.xmr a) (h.xmr he)).mpr c⟩
    rw [jR.xn34 hS h a, jR.xn34 hS h he]
    intro q; subst q; exact g4_i _ c
theorem jR.xcAl (h : jR κ σ) (hV : mV σ) {e : Int} (he : pr σ e) : cAl κ e = al σ e := by
  unfold cAl
  rw [h.xcs hV (fun x => aI κ x e ≠ 0), al_h (mV_c hV)]
  exact jn_ct fun o _ _ => and_congr_right fun a => aI_r (h.xmr a) (h.xmr he)
/-- those that are worse -/
theorem jR.xcWo (h : jR κ σ) (hV : mV σ) {e : Int} (he : pr σ e) : cWo κ e = my σ - bt σ e - al σ e := by
  unfold cWo
  rw [h.xcs hV (fun x => bI κ e x ≠ 0), bt_h (mV_c hV), al_h (mV_c hV), my_h]
  have e1 : z_sm (fun o => if pr σ o then (1 : Int) else 0) (σ 19 0) = z_sm (fun o => (if pr σ o ∧ bI κ e o ≠ 0 then (1 : Int) else 0) + ((if pr σ o ∧ g4 (mer σ o) (mer σ e) then (1 : Int) else 0) + (if pr σ o ∧ (¬ g4 (mer σ o) (mer σ e) ∧ ¬ g4 (mer σ e) (mer σ o)) then (1 : Int) else 0))) (σ 19 0) := z_sm_congr fun o _ _ => by
    by_cases c : pr σ o
    · have k := bI_r (h.xmr he) (h.xmr c)
      by_cases c1 : g4 (mer σ o) (mer σ e)
      · rw [if_pos c, if_neg (fun q => g4_s c1 (k.mp q.2)), if_pos ⟨c, c1⟩, if_neg (fun q => q.2.1 c1)]; rfl
      · by_cases c2 : g4 (mer σ e) (mer σ o)
        · rw [if_pos c, if_pos ⟨c, k.mpr c2⟩, if_neg (fun q => c1 q.2), if_neg (fun q => q.2.2 c2)]; rfl
        · rw [if_pos c, if_neg (fun q => c2 (k.mp q.2)), if_neg (fun q => c1 q.2), if_pos ⟨c, c1, c2⟩]; rfl
    · rw [if_neg c, if_neg (fun q => c q.1), if_neg (fun q => c q.1), if_neg (fun q => c q.1)]; rfl
  have hn := (mV_n hV).1
  rw [e1, jn_add hn, jn_add hn]
  omega
theorem pr_ct {Q : Int → Prop} [DecidablePred Q] : z_sm (fun o => if pr σ o ∧ Q o then (1 : Int) else 0) (σ 19 0) = z_sm (fun o => if σ 18 o ≠ 0 ∧ Q o then (1 : Int) else 0) (σ 19 0) :=
  jn_ct fun o h0 h1 => ⟨fun q => ⟨q.1.2.2, q.2⟩, fun q => ⟨⟨h0, h1, q.1⟩, q.2⟩⟩
theorem pr_sm {f : Int → Int} : z_sm (fun o => if pr σ o then f o else 0) (σ 19 0) = z_sm (fun o => if σ 18 o ≠ 0 then f o else 0) (σ 19 0) := z_sm_congr fun o h0 h1 => by
  by_cases c : σ 18 o ≠ 0
  · rw [if_pos c, if_pos (show pr σ o from ⟨h0, h1, c⟩)]
  · rw [if_neg c, if_neg (show ¬ pr σ o from fun q => c q.2.2)]
theorem jR.xcOf (h : jR κ σ) (hV : mV σ) (g : Int) : cOf κ g = z_sm (fun o => if σ 18 o ≠ 0 ∧ σ 15 o = g then (1 : Int) else 0) (σ 19 0) := by
  unfold cOf
  rw [h.xcs hV (fun x => κ 35 x 0 = g), ← pr_ct]
  exact jn_ct fun o _ _ => and_congr_right fun a => by rw [(h.e (pr_b a)).2.1]
theorem jR.xcMs (h : jR κ σ) (hV : mV σ) : cMs κ = z_sm (fun o => if σ 18 o ≠ 0 then σ 14 (4 * o) else 0) (σ 19 0) := by
  unfold cMs
  rw [h.xss hV (fun x => κ 30 x 0), ← pr_sm]
  refine z_sm_congr fun o _ _ => ?_
  by_cases c : pr σ o
  · rw [if_pos c, if_pos c, h.xpts (pr_b c)]
  · rw [if_neg c, if_neg c]
theorem jR.xrSm (h : jR κ σ) (hV : mV σ) (hS : cS κ) : z_sm (fun i => 2 * sRk κ (κ 20 1 i) + cAl κ (κ 20 1 i) - 1) (κ 24 1 0) = z_sm (fun o => if σ 18 o ≠ 0 then tm σ o else 0) (σ 19 0) := by
  rw [h.xss hV (fun x => 2 * sRk κ x + cAl κ x - 1), ← pr_sm]
  refine z_sm_congr fun o _ _ => ?_
  by_cases c : pr σ o
  · rw [if_pos c, if_pos c, h.xsRk hV hS c, h.xcAl hV c]; unfold tm; omega
  · rw [if_neg c, if_neg c]
/-- those that begin a result -/
theorem jR.xgI (h : jR κ σ) (hV : mV σ) {i : Int} (hi : 0 ≤ i ∧ i < κ 24 1 0) : gI κ i ≠ 0 ↔ isF σ (κ 20 1 i) := by
  have hp := h.xsp hi
  have hnn := mV_c hV
  have key : z_ff (fun o => σ 18 o ≠ 0 ∧ cp σ o (κ 20 1 i) = 0) (κ 20 1 i) = -1 ↔ gI κ i ≠ 0 := by
    unfold gI
    by_cases c0 : i = 0
    · rw [if_pos c0]
      refine ⟨fun _ => by decide, fun _ => jn_ffn fun o h0 h1 h2 => ?_⟩
      have ho : pr σ o := ⟨h0, by have := hp.2.1; omega, h2.1⟩
      obtain ⟨j, hj, rfl⟩ := h.xat ho
      have k2 := (cp_0 hnn).mp h2.2
      have : hh σ (κ 20 1 j) (κ 20 1 i) := Or.inr ⟨h1, k2.2⟩
      have := (jS_lt (hh_o σ) h.s.1 hj hi).mp this
      omega
    · rw [if_neg c0]
      have hi1 : 0 ≤ i - 1 ∧ i - 1 < κ 24 1 0 := by omega
      have hp1 := h.xsp hi1
      have ka := aI_r (h.xmr hp) (h.xmr hp1)
      have hord := h.s.1.2.2.1 (i - 1) i (by omega) (by omega) hi.2
      by_cases c : aI κ (κ 20 1 i) (κ 20 1 (i - 1)) ≠ 0
      · rw [if_pos c]
        refine ⟨fun q => ?_, fun q => absurd rfl q⟩
        obtain ⟨a1, a2⟩ := ka.mp c
        rcases hord with hord | hord
        · exact absurd hord a2
        · rcases z_ff_s (fun o => σ 18 o ≠ 0 ∧ cp σ o (κ 20 1 i) = 0) (κ 20 1 i) with ⟨-, q2⟩ | ⟨q2, -⟩
          · exact absurd ⟨hp1.2.2, (cp_0 hnn).mpr ⟨a2, a1⟩⟩ (q2 _ hp1.1 hord.1)
          · omega
      · rw [if_neg c]
        refine ⟨fun _ => by decide, fun _ => jn_ffn fun o h0 h1 h2 => ?_⟩
        have ho : pr σ o := ⟨h0, by have := hp.2.1; omega, h2.1⟩
        obtain ⟨j, hj, rfl⟩ := h.xat ho
        obtain ⟨k1, k2⟩ := (cp_0 hnn).mp h2.2
        have hlt := (jS_lt (hh_o σ) h.s.1 hj hi).mp (Or.inr ⟨h1, k2⟩)
        refine c (ka.mpr ⟨fun q => g4_s q ?_, fun q => ?_⟩)
        · rcases hord with q2 | q2
          · exact q2
          · exact absurd q q2.2
        · by_cases e1 : j = i - 1
          · subst e1; exact k1 q
          · rcases g4_n (b := mer σ (κ 20 1 j)) q with q2 | q2
            · rcases h.s.1.2.2.1 j (i - 1) hj.1 (by omega) hi1.2 with q3 | q3
              · exact g4_s q3 q2
              · exact q3.2 q2
            · exact k1 q2
  exact ⟨fun q => ⟨key.mpr q, hp.2.2⟩, fun q => key.mp q.1⟩
theorem jR.xcRe (h : jR κ σ) (hV : mV σ) : cRe κ = z_sm (fun o => if isF σ o then (1 : Int) else 0) (σ 19 0) := by
  unfold cRe
  rw [jn_ct (Q := fun i => isF σ (κ 20 1 i)) (fun i h0 h1 => h.xgI hV ⟨h0, h1⟩), h.xcs hV (fun x => isF σ x)]
  exact jn_ct fun o h0 h1 => ⟨fun q => q.2, fun q => ⟨⟨h0, h1, q.2⟩, q⟩⟩
theorem jR.xcDn (h : jR κ σ) (hV : mV σ) {e : Int} (he : pr σ e) : cDn κ e = dn σ e := by
  have hn0 := h.s.1.1
  have hpre : ∀ i j, 0 ≤ i → i < j → j < κ 24 1 0 → bI κ (κ 20 1 j) e ≠ 0 → bI κ (κ 20 1 i) e ≠ 0 := fun i j h0 hij hj hb => by
    have pi := h.xsp (i := i) ⟨h0, by omega⟩
    have pj := h.xsp (i := j) ⟨by omega, hj⟩
    have hb' := (bI_r (h.xmr pj) (h.xmr he)).mp hb
    refine (bI_r (h.xmr pi) (h.xmr he)).mpr ?_
    rcases h.s.1.2.2.1 i j h0 hij hj with q | q
    · exact g4_t q hb'
    · rcases g4_n (b := mer σ (κ 20 1 i)) hb' with q2 | q2
      · exact absurd q2 q.2
      · exact q2
  have hfw := (jn_fw (P := fun i => bI κ (κ 20 1 i) e ≠ 0) hn0).1
  unfold cDn dn
  rw [jn_cut (m := κ 24 1 0) hfw]
  have e1 : z_sm (fun i => if i < z_fw (fun i => bI κ (κ 20 1 i) e ≠ 0) (κ 24 1 0) then (if gI κ i ≠ 0 then (1 : Int) else 0) else 0) (κ 24 1 0) = z_sm (fun i => if isF σ (κ 20 1 i) ∧ 0 < cp σ (κ 20 1 i) e then (1 : Int) else 0) (κ 24 1 0) := z_sm_congr fun i h0 h1 => by
    have k1 := jn_fwi (P := fun i => bI κ (κ 20 1 i) e ≠ 0) hn0 hpre ⟨h0, h1⟩
    have k2 := bI_r (h.xmr (h.xsp ⟨h0, h1⟩)) (h.xmr he)
    have k3 := (cp_g (mV_c hV) (κ 20 1 i) e).1
    have k4 := h.xgI hV ⟨h0, h1⟩
    by_cases c : i < z_fw (fun i => bI κ (κ 20 1 i) e ≠ 0) (κ 24 1 0)
    · rw [if_pos c]
      have c2 := k3.mpr (k2.mp (k1.mpr c))
      by_cases c3 : gI κ i ≠ 0
      · rw [if_pos c3, if_pos ⟨k4.mp c3, c2⟩]
      · rw [if_neg c3, if_neg (fun q => c3 (k4.mpr q.1))]
    · rw [if_neg c, if_neg (fun q => c (k1.mp (k2.mpr (k3.mp q.2))))]
  rw [e1, h.xcs hV (fun x => isF σ x ∧ 0 < cp σ x e), Int.add_comm]
  congr 1
  exact jn_ct fun o h0 h1 => ⟨fun q => q.2, fun q => ⟨⟨h0, h1, q.1.2⟩, q⟩⟩
end N3
