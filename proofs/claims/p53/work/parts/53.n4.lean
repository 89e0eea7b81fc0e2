/-! THE ROW OF POINTS, the ladder: answers of the class are the model's. -/
section N4
theorem jn_btw {a b n : Int} (h : 0 ≤ a ∧ a ≤ b ∧ b ≤ n) : z_sm (fun j => if a ≤ j ∧ j < b then (1 : Int) else 0) n = b - a := by
  have e1 : z_sm (fun j => if j < b then (1 : Int) else 0) n = z_sm (fun j => (if j < a then (1 : Int) else 0) + (if a ≤ j ∧ j < b then (1 : Int) else 0)) n := z_sm_congr fun j _ _ => by
    by_cases c : j < a
    · rw [if_pos c, if_pos (by omega), if_neg (by omega)]; rfl
    · by_cases c2 : j < b
      · rw [if_neg c, if_pos c2, if_pos (by omega)]; rfl
      · rw [if_neg c, if_neg c2, if_neg (by omega)]; rfl
  rw [jn_lt (by omega), jn_add (by omega), jn_lt (by omega)] at e1
  omega
theorem jn_ffc {P Q : Int → Prop} [DecidablePred P] [DecidablePred Q] {n : Int} (h : ∀ i, 0 ≤ i → i < n → (P i ↔ Q i)) : z_ff P n = z_ff Q n := by
  rcases z_ff_s Q n with ⟨h1, h2⟩ | ⟨h1, h2, h3, h4⟩
  · rw [h1]; exact jn_ffn fun j a b c => h2 j a b ((h j a b).mp c)
  · exact jn_ff ⟨h1, h2⟩ ((h _ h1 h2).mpr h3) fun j a b c => h4 j a b ((h j a (by omega)).mp c)
theorem jn_fl {f : Int → Int → Int} {a n : Int} (I : Int → Int → Prop) (h0 : I 0 a) (hs : ∀ o t, 0 ≤ o → o < n → I o t → I (o + 1) (f t o)) (hn : 0 ≤ n) : I n (z_fl f a n) := by
  have key : ∀ m : Int, 0 ≤ m → m ≤ n → I m (z_fl f a m) := by
    refine jn_ind (P := fun m => m ≤ n → I m (z_fl f a m)) ?_ ?_
    · intro _; rw [z_fl0 (by omega)]; exact h0
    · intro m hm ih hmn
      rw [z_flS hm]
      exact hs m _ hm (by omega) (ih (by omega))
  exact key n hn (Int.le_refl n)
variable {κ : c_K} {σ : z_S}
theorem jR.ypt (h : jR κ σ) {i : Int} (hi : 0 ≤ i ∧ i < κ 24 2 0) : κ 30 (κ 20 2 i) 0 = σ 14 (4 * κ 20 2 i) := h.xpts (pr_b (h.xpp hi))
theorem jR.yso (h : jR κ σ) {i j : Int} (h0 : 0 ≤ i) (hij : i < j) (hj : j < κ 24 2 0) : pp σ (κ 20 2 i) (κ 20 2 j) := h.p.2.2.1 i j h0 hij hj
theorem jR.yup (h : jR κ σ) (p : Int) {i : Int} (hi : 0 ≤ i ∧ i < κ 24 2 0) : κ 30 (κ 20 2 i) 0 ≤ p ↔ i < cUp κ p :=
  jn_fwi (P := fun i => κ 30 (κ 20 2 i) 0 ≤ p) h.p.1 (fun i j h0 hij hj hb => by
    have := h.yso h0 hij hj
    rw [h.ypt ⟨by omega, hj⟩] at hb
    rw [h.ypt ⟨h0, by omega⟩]
    omega) hi
theorem jR.ylw (h : jR κ σ) (p : Int) {i : Int} (hi : 0 ≤ i ∧ i < κ 24 2 0) : κ 30 (κ 20 2 i) 0 < p ↔ i < cLw κ p :=
  jn_fwi (P := fun i => κ 30 (κ 20 2 i) 0 < p) h.p.1 (fun i j h0 hij hj hb => by
    have := h.yso h0 hij hj
    rw [h.ypt ⟨by omega, hj⟩] at hb
    rw [h.ypt ⟨h0, by omega⟩]
    omega) hi
theorem jR.ycu (h : jR κ σ) (hV : mV σ) (p : Int) : cUp κ p = z_sm (fun o => if pr σ o ∧ σ 14 (4 * o) ≤ p then (1 : Int) else 0) (σ 19 0) := by
  unfold cUp
  rw [← jn_fwc h.p.1 (fun i j h0 hij hj hb => ?_), h.xcq hV (fun x => κ 30 x 0 ≤ p)]
  · exact jn_ct fun o _ _ => and_congr_right fun a => by rw [h.xpts (pr_b a)]
  · have := h.yso h0 hij hj
    rw [h.ypt ⟨by omega, hj⟩] at hb
    show κ 30 (κ 20 2 i) 0 ≤ p
    rw [h.ypt ⟨h0, by omega⟩]
    omega
theorem jR.ycl (h : jR κ σ) (hV : mV σ) (p : Int) : cLw κ p = z_sm (fun o => if pr σ o ∧ σ 14 (4 * o) < p then (1 : Int) else 0) (σ 19 0) := by
  unfold cLw
  rw [← jn_fwc h.p.1 (fun i j h0 hij hj hb => ?_), h.xcq hV (fun x => κ 30 x 0 < p)]
  · exact jn_ct fun o _ _ => and_congr_right fun a => by rw [h.xpts (pr_b a)]
  · have := h.yso h0 hij hj
    rw [h.ypt ⟨by omega, hj⟩] at hb
    show κ 30 (κ 20 2 i) 0 < p
    rw [h.ypt ⟨h0, by omega⟩]
    omega
theorem jR.ybd (h : jR κ σ) (p : Int) : (0 ≤ cLw κ p ∧ cLw κ p ≤ κ 24 2 0) ∧ (0 ≤ cUp κ p ∧ cUp κ p ≤ κ 24 2 0) ∧ cLw κ p ≤ cUp κ p := by
  have k1 : 0 ≤ cLw κ p ∧ cLw κ p ≤ κ 24 2 0 := (jn_fw h.p.1).1
  have k2 : 0 ≤ cUp κ p ∧ cUp κ p ≤ κ 24 2 0 := (jn_fw h.p.1).1
  refine ⟨k1, k2, ?_⟩
  by_cases c : cLw κ p ≤ cUp κ p
  · exact c
  · exfalso
    have h1 := (h.ylw p (i := cUp κ p) (by omega)).mpr (by omega)
    have h2 := (h.yup p (i := cUp κ p) (by omega)).mp (by omega)
    omega
/-- who has p points: those from the first place on to behind the last -/
theorem jR.yeq (h : jR κ σ) (p : Int) {i : Int} (hi : 0 ≤ i ∧ i < κ 24 2 0) : σ 14 (4 * κ 20 2 i) = p ↔ (cLw κ p ≤ i ∧ i < cUp κ p) := by
  have h1 := h.ylw p hi
  have h2 := h.yup p hi
  rw [← h.ypt hi]
  omega
theorem jR.aAbove (h : jR κ σ) (hV : mV σ) (p : Int) : κ 24 2 0 - cUp κ p = z_sm (fun o => if σ 18 o ≠ 0 ∧ p < σ 14 (4 * o) then (1 : Int) else 0) (σ 19 0) := by
  rw [← pr_ct, h.xn2 hV, my_h, h.ycu hV]
  have e1 : z_sm (fun o => if pr σ o then (1 : Int) else 0) (σ 19 0) = z_sm (fun o => (if pr σ o ∧ σ 14 (4 * o) ≤ p then (1 : Int) else 0) + (if pr σ o ∧ p < σ 14 (4 * o) then (1 : Int) else 0)) (σ 19 0) := z_sm_congr fun o _ _ => by
    by_cases c : pr σ o
    · by_cases c2 : σ 14 (4 * o) ≤ p
      · rw [if_pos c, if_pos ⟨c, c2⟩, if_neg (fun q => by have := q.2; omega)]; rfl
      · rw [if_pos c, if_neg (fun q => c2 q.2), if_pos ⟨c, by omega⟩]; rfl
    · rw [if_neg c, if_neg (fun q => c q.1), if_neg (fun q => c q.1)]; rfl
  rw [e1, jn_add (mV_n hV).1]
  omega
theorem jR.aWith (h : jR κ σ) (hV : mV σ) (p : Int) : cUp κ p - cLw κ p = z_sm (fun o => if σ 18 o ≠ 0 ∧ σ 14 (4 * o) = p then (1 : Int) else 0) (σ 19 0) := by
  rw [← pr_ct, h.ycu hV, h.ycl hV]
  have e1 : z_sm (fun o => if pr σ o ∧ σ 14 (4 * o) ≤ p then (1 : Int) else 0) (σ 19 0) = z_sm (fun o => (if pr σ o ∧ σ 14 (4 * o) < p then (1 : Int) else 0) + (if pr σ o ∧ σ 14 (4 * o) = p then (1 : Int) else 0)) (σ 19 0) := z_sm_congr fun o _ _ => by
    by_cases c : pr σ o
    · by_cases c2 : σ 14 (4 * o) < p
      · rw [if_pos ⟨c, by omega⟩, if_pos ⟨c, c2⟩, if_neg (fun q => by have := q.2; omega)]; rfl
      · by_cases c3 : σ 14 (4 * o) = p
        · rw [if_pos ⟨c, by omega⟩, if_neg (fun q => c2 q.2), if_pos ⟨c, c3⟩]; rfl
        · rw [if_neg (fun q => by have := q.2; omega), if_neg (fun q => c2 q.2), if_neg (fun q => c3 q.2)]; rfl
    · rw [if_neg (fun q => c q.1), if_neg (fun q => c q.1), if_neg (fun q => c q.1)]; rfl
  rw [e1, jn_add (mV_n hV).1]
  omega
theorem jR.aBetween (h : jR κ σ) (hV : mV σ) {p q : Int} (hpq : p ≤ q) : cLw κ q - cLw κ p = z_sm (fun o => if σ 18 o ≠ 0 ∧ p ≤ σ 14 (4 * o) ∧ σ 14 (4 * o) < q then (1 : Int) else 0) (σ 19 0) := by
  rw [← pr_ct (Q := fun o => p ≤ σ 14 (4 * o) ∧ σ 14 (4 * o) < q), h.ycl hV, h.ycl hV]
  have e1 : z_sm (fun o => if pr σ o ∧ σ 14 (4 * o) < q then (1 : Int) else 0) (σ 19 0) = z_sm (fun o => (if pr σ o ∧ σ 14 (4 * o) < p then (1 : Int) else 0) + (if pr σ o ∧ p ≤ σ 14 (4 * o) ∧ σ 14 (4 * o) < q then (1 : Int) else 0)) (σ 19 0) := z_sm_congr fun o _ _ => by
    by_cases c : pr σ o
    · by_cases c2 : σ 14 (4 * o) < p
      · rw [if_pos ⟨c, by omega⟩, if_pos ⟨c, c2⟩, if_neg (fun q => by have := q.2; omega)]; rfl
      · by_cases c3 : σ 14 (4 * o) < q
        · rw [if_pos ⟨c, c3⟩, if_neg (fun q => c2 q.2), if_pos ⟨c, by omega, c3⟩]; rfl
        · rw [if_neg (fun q => c3 q.2), if_neg (fun q => c2 q.2), if_neg (fun q => c3 q.2.2)]; rfl
    · rw [if_neg (fun q => c q.1), if_neg (fun q => c q.1), if_neg (fun q => c q.1)]; rfl
  rw [e1, jn_add (mV_n hV).1]
  omega
theorem jR.yix (h : jR κ σ) {e : Int} (he : pr σ e) : ∃ i, (0 ≤ i ∧ i < κ 24 2 0) ∧ κ 20 2 i = e := by
  obtain ⟨i, a, b, c⟩ := h.p.2.2.2 e he
  exact ⟨i, ⟨a, b⟩, c⟩
/-- how many have the same points and came to them before -/
theorem jR.yah (h : jR κ σ) (hV : mV σ) {j : Int} (hj : 0 ≤ j ∧ j < κ 24 2 0) : yAh σ (σ 14 (4 * κ 20 2 j)) (κ 20 2 j) = j - cLw κ (σ 14 (4 * κ 20 2 j)) := by
  have hp := h.xpp hj
  have hb := h.ybd (σ 14 (4 * κ 20 2 j))
  have h3 := (h.yeq _ hj).mp rfl
  unfold yAh
  rw [← pr_ct (Q := fun o => σ 14 (4 * o) = σ 14 (4 * κ 20 2 j) ∧ σ 16 o < σ 16 (κ 20 2 j)), ← h.xcq hV (fun o => σ 14 (4 * o) = σ 14 (4 * κ 20 2 j) ∧ σ 16 o < σ 16 (κ 20 2 j)), ← jn_btw (n := κ 24 2 0) (a := cLw κ (σ 14 (4 * κ 20 2 j))) (b := j) (by omega)]
  refine jn_ct fun i h0 h1 => ?_
  have k1 := h.yeq (σ 14 (4 * κ 20 2 j)) (i := i) ⟨h0, h1⟩
  have k2 := jS_lt (pp_o σ) h.p (i := i) (j := j) ⟨h0, h1⟩ hj
  constructor
  · rintro ⟨a, b⟩
    exact ⟨(k1.mp a).1, k2.mp (Or.inr ⟨a, b⟩)⟩
  · rintro ⟨a, b⟩
    have a1 := k1.mpr ⟨a, by omega⟩
    refine ⟨a1, ?_⟩
    rcases k2.mpr b with q | q
    · omega
    · exact q.2
theorem jR.aWithAt (h : jR κ σ) (hV : mV σ) (hS : cS κ) (p i : Int) : (if 0 ≤ i ∧ i < cUp κ p - cLw κ p then κ 34 (κ 20 2 (cLw κ p + i)) 0 else -1) = z_ff (fun e => σ 18 e ≠ 0 ∧ σ 14 (4 * e) = p ∧ yAh σ p e = i) (σ 19 0) := by
  have hb := h.ybd p
  by_cases c : 0 ≤ i ∧ i < cUp κ p - cLw κ p
  · rw [if_pos c]
    have hj : 0 ≤ cLw κ p + i ∧ cLw κ p + i < κ 24 2 0 := by omega
    have hp := h.xpp hj
    rw [jR.xn34 hS h hp]
    have he := (h.yeq p hj).mpr ⟨by omega, by omega⟩
    have ha := h.yah hV hj
    rw [he] at ha
    refine (jn_ff (pr_b hp) ⟨hp.2.2, he, by omega⟩ fun o h0 h1 h2 => ?_).symm
    have ho : pr σ o := ⟨h0, by have := hp.2.1; omega, h2.1⟩
    obtain ⟨j, hj2, rfl⟩ := h.yix ho
    have ha2 := h.yah hV hj2
    rw [h2.2.1] at ha2
    have : j = cLw κ p + i := by have := h2.2.2; omega
    subst this
    omega
  · rw [if_neg c]
    refine (jn_ffn fun o h0 h1 h2 => ?_).symm
    have ho : pr σ o := ⟨h0, h1, h2.1⟩
    obtain ⟨j, hj2, rfl⟩ := h.yix ho
    have ha2 := h.yah hV hj2
    rw [h2.2.1] at ha2
    have h3 := (h.yeq p hj2).mp h2.2.1
    have := h2.2.2
    omega
theorem jR.aNext (h : jR κ σ) (hV : mV σ) (p : Int) : (cUp κ p < κ 24 2 0 ↔ yNx σ p ≠ -1) ∧ (cUp κ p < κ 24 2 0 → κ 30 (κ 20 2 (cUp κ p)) 0 = σ 14 (4 * yNx σ p)) := by
  have hb := (h.ybd p).2.1
  have key : (yNx σ p = -1 ∧ ∀ o, 0 ≤ o → o < σ 19 0 → ¬ (σ 18 o ≠ 0 ∧ p < σ 14 (4 * o))) ∨ ((0 ≤ yNx σ p ∧ yNx σ p < σ 19 0) ∧ (σ 18 (yNx σ p) ≠ 0 ∧ p < σ 14 (4 * yNx σ p)) ∧ ∀ o, 0 ≤ o → o < σ 19 0 → σ 18 o ≠ 0 ∧ p < σ 14 (4 * o) → σ 14 (4 * yNx σ p) ≤ σ 14 (4 * o)) := by
    unfold yNx
    refine jn_fl (fun n t => (t = -1 ∧ ∀ o, 0 ≤ o → o < n → ¬ (σ 18 o ≠ 0 ∧ p < σ 14 (4 * o))) ∨ ((0 ≤ t ∧ t < n) ∧ (σ 18 t ≠ 0 ∧ p < σ 14 (4 * t)) ∧ ∀ o, 0 ≤ o → o < n → σ 18 o ≠ 0 ∧ p < σ 14 (4 * o) → σ 14 (4 * t) ≤ σ 14 (4 * o))) (Or.inl ⟨rfl, fun o h0 h1 => by omega⟩) (fun n t h0 h1 ih => ?_) (mV_n hV).1
    show _ ∨ _
    by_cases c : σ 18 n ≠ 0 ∧ p < σ 14 (4 * n) ∧ (t = -1 ∨ σ 14 (4 * n) < σ 14 (4 * t))
    · rw [if_pos c]
      refine Or.inr ⟨by omega, ⟨c.1, c.2.1⟩, fun o a b d => ?_⟩
      by_cases e : o = n
      · subst e; omega
      · rcases ih with ⟨-, i2⟩ | ⟨i1, i2, i3⟩
        · exact absurd d (i2 o a (by omega))
        · have := i3 o a (by omega) d
          rcases c.2.2 with q | q <;> omega
    · rw [if_neg c]
      rcases ih with ⟨i1, i2⟩ | ⟨i1, i2, i3⟩
      · refine Or.inl ⟨i1, fun o a b d => ?_⟩
        by_cases e : o = n
        · subst e; exact c ⟨d.1, d.2, Or.inl i1⟩
        · exact i2 o a (by omega) d
      · refine Or.inr ⟨by omega, i2, fun o a b d => ?_⟩
        by_cases e : o = n
        · subst e
          by_cases f : σ 14 (4 * o) < σ 14 (4 * t)
          · exact absurd ⟨d.1, d.2, Or.inr f⟩ c
          · omega
        · exact i3 o a (by omega) d
  rcases key with ⟨k1, k2⟩ | ⟨k1, k2, k3⟩
  · have : ¬ cUp κ p < κ 24 2 0 := fun q => by
      have hp := h.xpp (i := cUp κ p) ⟨hb.1, q⟩
      have h1 := h.yup p (i := cUp κ p) ⟨hb.1, q⟩
      rw [h.ypt ⟨hb.1, q⟩] at h1
      exact k2 _ hp.1 hp.2.1 ⟨hp.2.2, by omega⟩
    exact ⟨by omega, fun q => absurd q this⟩
  · obtain ⟨j, hj, he⟩ := h.yix (e := yNx σ p) ⟨k1.1, k1.2, k2.1⟩
    have h1 := h.yup p hj
    rw [h.ypt hj, he] at h1
    have hlt : cUp κ p ≤ j := by omega
    refine ⟨by omega, fun q => ?_⟩
    have hp := h.xpp (i := cUp κ p) ⟨hb.1, q⟩
    have h2 := h.yup p (i := cUp κ p) ⟨hb.1, q⟩
    rw [h.ypt ⟨hb.1, q⟩] at h2 ⊢
    have h3 := k3 _ hp.1 hp.2.1 ⟨hp.2.2, by omega⟩
    by_cases c : cUp κ p = j
    · rw [c, he]
    · have := h.yso hb.1 (show cUp κ p < j by omega) hj.2
      rw [he] at this
      omega
theorem jR.yls (h : jR κ σ) (hV : mV σ) (e : Int) : yLs σ e = cLw κ (σ 14 (4 * e)) := by
  rw [h.ycl hV, pr_ct]; rfl
theorem jR.ysa (h : jR κ σ) (hV : mV σ) (e : Int) : ySa σ e = cUp κ (σ 14 (4 * e)) - cLw κ (σ 14 (4 * e)) := (h.aWith hV _).symm
theorem jR.aAt (h : jR κ σ) (hV : mV σ) {p : Int} (hp : 1 ≤ p ∧ p ≤ κ 24 2 0) : cAt κ p = yPa σ p := by
  have hi : 0 ≤ p - 1 ∧ p - 1 < κ 24 2 0 := by omega
  have hq := h.xpp hi
  have h1 := (h.yeq _ hi).mp rfl
  unfold cAt yPa
  rw [if_pos hp, h.ypt hi]
  rcases z_ff_s (fun e => σ 18 e ≠ 0 ∧ yLs σ e + 1 ≤ p ∧ p ≤ yLs σ e + ySa σ e) (σ 19 0) with ⟨-, k2⟩ | ⟨k1, k2, k3, -⟩
  · refine absurd ⟨hq.2.2, ?_⟩ (k2 _ hq.1 hq.2.1)
    rw [h.yls hV, h.ysa hV]
    omega
  · rw [if_neg (by omega)]
    generalize z_ff (fun e => σ 18 e ≠ 0 ∧ yLs σ e + 1 ≤ p ∧ p ≤ yLs σ e + ySa σ e) (σ 19 0) = e at k1 k2 k3 ⊢
    have k4 := k3.2
    rw [h.yls hV, h.ysa hV] at k4
    exact (h.yeq (σ 14 (4 * e)) hi).mpr ⟨by omega, by omega⟩
theorem jR.aMedian (h : jR κ σ) (hV : mV σ) {b : Int} (h0 : 0 < my σ) : cAt κ (cMp κ b) = yPa σ (if b ≠ 0 then my σ / 2 + 1 else (my σ + 1) / 2) := by
  have hn := h.xn2 hV
  have e1 : cMp κ b = if b ≠ 0 then my σ / 2 + 1 else (my σ + 1) / 2 := by unfold cMp; rw [hn]
  rw [e1]
  refine h.aAt hV ?_
  rw [hn]
  split <;> omega
theorem jR.aQuantile (h : jR κ σ) (hV : mV σ) {p q : Int} (h0 : 0 < my σ) (hq : 1 ≤ q ∧ q ≤ 100 ∧ 0 ≤ p ∧ p ≤ q) : cAt κ (if 1 < ((κ 24 2 0 * p + q - 1) / q) then ((κ 24 2 0 * p + q - 1) / q) else 1) = yPa σ (if (my σ * p + q - 1) / q < 1 then 1 else (my σ * p + q - 1) / q) := by
  have hn := h.xn2 hV
  rw [hn]
  have e1 : (if 1 < (my σ * p + q - 1) / q then (my σ * p + q - 1) / q else 1) = (if (my σ * p + q - 1) / q < 1 then 1 else (my σ * p + q - 1) / q) := by
    split <;> split <;> omega
  rw [e1]
  refine h.aAt hV ?_
  rw [hn]
  have h1 : my σ * p ≤ my σ * q := Int.mul_le_mul_of_nonneg_left hq.2.2.2 (by omega)
  have h2 : (my σ * p + q - 1) / q < my σ + 1 := Int.ediv_lt_of_lt_mul (by omega) (by rw [Int.add_mul]; omega)
  split <;> omega
theorem jR.aMean (h : jR κ σ) (hV : mV σ) : cMe κ = yMp σ := by
  unfold cMe yMp
  rw [h.xn1 hV, h.xcMs hV]
  rfl
theorem jR.aBeats (h : jR κ σ) (hV : mV σ) {e : Int} (he : pr σ e) : cBf κ e = yBf σ e := by
  have hk := (h.xpl hV he).2
  rw [h.xn1 hV] at hk
  unfold cBf yBf
  rw [h.xn1 hV, h.xcWo hV he]
  by_cases c : my σ - 1 < 1
  · rw [if_pos c, if_pos (by omega)]
  · rw [if_neg c, if_neg (by omega)]
/-- the ladder -/
theorem jR.aLp (h : jR κ σ) (e : Int) : cLp κ e = lp σ e := by
  have e1 : z_ff (fun i => κ 20 3 i = e) (κ 24 3 0) = z_ff (fun k => σ 21 k = e) (σ 25 0) := by
    rw [h.l.1]
    exact jn_ffc fun i h0 h1 => by rw [(h.l.2.1 i h0 h1).1]
  unfold cLp lp
  rw [e1]
theorem lp_il {σ : z_S} (e : Int) : lp σ e ≠ -1 ↔ jIl σ e := by
  unfold lp
  rcases z_ff_s (fun k => σ 21 k = e) (σ 25 0) with ⟨h1, h2⟩ | ⟨h1, h2, h3, -⟩
  · rw [if_pos h1]
    exact ⟨fun q => absurd rfl q, fun ⟨i, a, b, c⟩ => absurd c (h2 i a b)⟩
  · rw [if_neg (by omega)]
    exact ⟨fun _ => ⟨_, h1, h2, h3⟩, fun _ => by omega⟩
theorem jR.aLadderAt (h : jR κ σ) (hS : cS κ) {p : Int} (hp : 1 ≤ p ∧ p ≤ κ 24 3 0) : κ 34 (κ 20 3 (p - 1)) 0 = σ 21 (p - 1) := by
  have h1 := h.l.2.1 (p - 1) (by omega) (by have := h.l.1; omega)
  rw [h1.1, jR.xn34 hS h h1.2]
/-- second ways to count -/
theorem jR.zcu (h : jR κ σ) (hV : mV σ) (p : Int) : cCu κ p = cUp κ p := by
  unfold cCu
  rw [h.ycu hV, pr_ct, h.n]
  exact jn_ct fun o h0 h1 => by rw [(h.e ⟨h0, h1⟩).2.2.1, h.xpts ⟨h0, h1⟩]
theorem jR.zcl (h : jR κ σ) (hV : mV σ) (p : Int) : cCu κ (p - 1) = cLw κ p := by
  rw [h.zcu hV, h.ycu hV, h.ycl hV]
  exact jn_ct fun o h0 h1 => and_congr_right fun _ => by omega
theorem jR.aWp (h : jR κ σ) (hV : mV σ) : cWp κ = 0 := z_sm_zero fun e _ _ => if_neg fun q => q.2.2 ⟨h.zcu hV _, h.zcl hV _⟩
theorem jR.aWm (h : jR κ σ) (hV : mV σ) (b : Int) : cWm κ b = 0 := by
  unfold cWm
  by_cases c : κ 24 1 0 = 0
  · rw [if_pos c]
  · rw [if_neg c]
    have h1 := h.xn1 hV
    have h2 := h.xn2 hV
    have h0 := h.s.1.1
    have hp : 1 ≤ cMp κ b ∧ cMp κ b ≤ κ 24 2 0 := by unfold cMp; split <;> omega
    have hi : 0 ≤ cMp κ b - 1 ∧ cMp κ b - 1 < κ 24 2 0 := by omega
    have h3 := (h.yeq _ hi).mp rfl
    have h4 : cAt κ (cMp κ b) = σ 14 (4 * κ 20 2 (cMp κ b - 1)) := by unfold cAt; rw [if_pos hp, h.ypt hi]
    rw [h4, h.zcl hV, h.zcu hV, if_pos (by omega)]
end N4
