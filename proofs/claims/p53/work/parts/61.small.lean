/-! THE MODEL's BOUNDS kept; small changes; one that leaves (laid by wip/whole/gen/gen81.py). -/
section MVU
variable {σ : z_S}
theorem mVu_8 (hV : mV σ) {i v : Int} (hv : -3996 ≤ v ∧ v ≤ 3996) : mV (z_u σ 8 i v) := by
  obtain ⟨v0, v1, v2, v3, v4, v5, v6, v7, v8, v9, v10, v11, v12, v13, v14⟩ := hV
  exact ⟨(fun j => by rw [z_u_eq]; unfold z_up; split; exact hv; exact v0 j), v1, v2, v3, v4, v5, v6, v7, v8, v9, v10, v11, v12, v13, v14⟩
theorem mVr_8 (hV : mV σ) {f : Int → Int} (hf : ∀ j, -3996 ≤ f j ∧ f j ≤ 3996) : mV (z_ur σ 8 f) := by
  obtain ⟨v0, v1, v2, v3, v4, v5, v6, v7, v8, v9, v10, v11, v12, v13, v14⟩ := hV
  exact ⟨(fun j => by rw [z_ur_at]; exact hf j), v1, v2, v3, v4, v5, v6, v7, v8, v9, v10, v11, v12, v13, v14⟩
theorem mVu_14 (hV : mV σ) {i v : Int} (hv : -100000 ≤ v ∧ v ≤ 100000) : mV (z_u σ 14 i v) := by
  obtain ⟨v0, v1, v2, v3, v4, v5, v6, v7, v8, v9, v10, v11, v12, v13, v14⟩ := hV
  exact ⟨v0, (fun j => by rw [z_u_eq]; unfold z_up; split; exact hv; exact v1 j), v2, v3, v4, v5, v6, v7, v8, v9, v10, v11, v12, v13, v14⟩
theorem mVr_14 (hV : mV σ) {f : Int → Int} (hf : ∀ j, -100000 ≤ f j ∧ f j ≤ 100000) : mV (z_ur σ 14 f) := by
  obtain ⟨v0, v1, v2, v3, v4, v5, v6, v7, v8, v9, v10, v11, v12, v13, v14⟩ := hV
  exact ⟨v0, (fun j => by rw [z_ur_at]; exact hf j), v2, v3, v4, v5, v6, v7, v8, v9, v10, v11, v12, v13, v14⟩
theorem mVu_19 (hV : mV σ) {v : Int} (hv : 0 ≤ v ∧ v ≤ 30) : mV (z_u σ 19 0 v) := by
  obtain ⟨v0, v1, v2, v3, v4, v5, v6, v7, v8, v9, v10, v11, v12, v13, v14⟩ := hV
  exact ⟨v0, v1, (by rw [z_u_at]; exact hv), v3, v4, v5, v6, v7, v8, v9, v10, v11, v12, v13, v14⟩
theorem mVr_19 (hV : mV σ) {f : Int → Int} (hf : 0 ≤ f 0 ∧ f 0 ≤ 30) : mV (z_ur σ 19 f) := by
  obtain ⟨v0, v1, v2, v3, v4, v5, v6, v7, v8, v9, v10, v11, v12, v13, v14⟩ := hV
  exact ⟨v0, v1, (by rw [z_ur_at]; exact hf), v3, v4, v5, v6, v7, v8, v9, v10, v11, v12, v13, v14⟩
theorem mVu_12 (hV : mV σ) {v : Int} (hv : 1 ≤ v ∧ v ≤ 4) : mV (z_u σ 12 0 v) := by
  obtain ⟨v0, v1, v2, v3, v4, v5, v6, v7, v8, v9, v10, v11, v12, v13, v14⟩ := hV
  exact ⟨v0, v1, v2, (by rw [z_u_at]; exact hv), v4, v5, v6, v7, v8, v9, v10, v11, v12, v13, v14⟩
theorem mVr_12 (hV : mV σ) {f : Int → Int} (hf : 1 ≤ f 0 ∧ f 0 ≤ 4) : mV (z_ur σ 12 f) := by
  obtain ⟨v0, v1, v2, v3, v4, v5, v6, v7, v8, v9, v10, v11, v12, v13, v14⟩ := hV
  exact ⟨v0, v1, v2, (by rw [z_ur_at]; exact hf), v4, v5, v6, v7, v8, v9, v10, v11, v12, v13, v14⟩
theorem mVu_18 (hV : mV σ) {i v : Int} (hv : v = 0 ∨ v = 1) : mV (z_u σ 18 i v) := by
  obtain ⟨v0, v1, v2, v3, v4, v5, v6, v7, v8, v9, v10, v11, v12, v13, v14⟩ := hV
  exact ⟨v0, v1, v2, v3, (fun j => by rw [z_u_eq]; unfold z_up; split; exact hv; exact v4 j), v5, v6, v7, v8, v9, v10, v11, v12, v13, v14⟩
theorem mVr_18 (hV : mV σ) {f : Int → Int} (hf : ∀ j, f j = 0 ∨ f j = 1) : mV (z_ur σ 18 f) := by
  obtain ⟨v0, v1, v2, v3, v4, v5, v6, v7, v8, v9, v10, v11, v12, v13, v14⟩ := hV
  exact ⟨v0, v1, v2, v3, (fun j => by rw [z_ur_at]; exact hf j), v5, v6, v7, v8, v9, v10, v11, v12, v13, v14⟩
theorem mVu_10 (hV : mV σ) {i v : Int} (hv : v = 0 ∨ v = 1) : mV (z_u σ 10 i v) := by
  obtain ⟨v0, v1, v2, v3, v4, v5, v6, v7, v8, v9, v10, v11, v12, v13, v14⟩ := hV
  exact ⟨v0, v1, v2, v3, v4, (fun j => by rw [z_u_eq]; unfold z_up; split; exact hv; exact v5 j), v6, v7, v8, v9, v10, v11, v12, v13, v14⟩
theorem mVr_10 (hV : mV σ) {f : Int → Int} (hf : ∀ j, f j = 0 ∨ f j = 1) : mV (z_ur σ 10 f) := by
  obtain ⟨v0, v1, v2, v3, v4, v5, v6, v7, v8, v9, v10, v11, v12, v13, v14⟩ := hV
  exact ⟨v0, v1, v2, v3, v4, (fun j => by rw [z_ur_at]; exact hf j), v6, v7, v8, v9, v10, v11, v12, v13, v14⟩
theorem mVu_25 (hV : mV σ) {v : Int} (hv : 0 ≤ v ∧ v ≤ 30) : mV (z_u σ 25 0 v) := by
  obtain ⟨v0, v1, v2, v3, v4, v5, v6, v7, v8, v9, v10, v11, v12, v13, v14⟩ := hV
  exact ⟨v0, v1, v2, v3, v4, v5, (by rw [z_u_at]; exact hv), v7, v8, v9, v10, v11, v12, v13, v14⟩
theorem mVr_25 (hV : mV σ) {f : Int → Int} (hf : 0 ≤ f 0 ∧ f 0 ≤ 30) : mV (z_ur σ 25 f) := by
  obtain ⟨v0, v1, v2, v3, v4, v5, v6, v7, v8, v9, v10, v11, v12, v13, v14⟩ := hV
  exact ⟨v0, v1, v2, v3, v4, v5, (by rw [z_ur_at]; exact hf), v7, v8, v9, v10, v11, v12, v13, v14⟩
theorem mVu_21 (hV : mV σ) {i v : Int} (hv : 0 ≤ v ∧ v < 30) : mV (z_u σ 21 i v) := by
  obtain ⟨v0, v1, v2, v3, v4, v5, v6, v7, v8, v9, v10, v11, v12, v13, v14⟩ := hV
  exact ⟨v0, v1, v2, v3, v4, v5, v6, (fun j => by rw [z_u_eq]; unfold z_up; split; exact hv; exact v7 j), v8, v9, v10, v11, v12, v13, v14⟩
theorem mVr_21 (hV : mV σ) {f : Int → Int} (hf : ∀ j, 0 ≤ f j ∧ f j < 30) : mV (z_ur σ 21 f) := by
  obtain ⟨v0, v1, v2, v3, v4, v5, v6, v7, v8, v9, v10, v11, v12, v13, v14⟩ := hV
  exact ⟨v0, v1, v2, v3, v4, v5, v6, (fun j => by rw [z_ur_at]; exact hf j), v8, v9, v10, v11, v12, v13, v14⟩
theorem mVu_24 (hV : mV σ) {i v : Int} (hv : 0 ≤ v ∧ v < 30) : mV (z_u σ 24 i v) := by
  obtain ⟨v0, v1, v2, v3, v4, v5, v6, v7, v8, v9, v10, v11, v12, v13, v14⟩ := hV
  exact ⟨v0, v1, v2, v3, v4, v5, v6, v7, (fun j => by rw [z_u_eq]; unfold z_up; split; exact hv; exact v8 j), v9, v10, v11, v12, v13, v14⟩
theorem mVr_24 (hV : mV σ) {f : Int → Int} (hf : ∀ j, 0 ≤ f j ∧ f j < 30) : mV (z_ur σ 24 f) := by
  obtain ⟨v0, v1, v2, v3, v4, v5, v6, v7, v8, v9, v10, v11, v12, v13, v14⟩ := hV
  exact ⟨v0, v1, v2, v3, v4, v5, v6, v7, (fun j => by rw [z_ur_at]; exact hf j), v9, v10, v11, v12, v13, v14⟩
theorem mVu_30 (hV : mV σ) {v : Int} (hv : 0 ≤ v ∧ v ≤ 200) : mV (z_u σ 30 0 v) := by
  obtain ⟨v0, v1, v2, v3, v4, v5, v6, v7, v8, v9, v10, v11, v12, v13, v14⟩ := hV
  exact ⟨v0, v1, v2, v3, v4, v5, v6, v7, v8, (by rw [z_u_at]; exact hv), v10, v11, v12, v13, v14⟩
theorem mVr_30 (hV : mV σ) {f : Int → Int} (hf : 0 ≤ f 0 ∧ f 0 ≤ 200) : mV (z_ur σ 30 f) := by
  obtain ⟨v0, v1, v2, v3, v4, v5, v6, v7, v8, v9, v10, v11, v12, v13, v14⟩ := hV
  exact ⟨v0, v1, v2, v3, v4, v5, v6, v7, v8, (by rw [z_ur_at]; exact hf), v10, v11, v12, v13, v14⟩
theorem mVu_2 (hV : mV σ) {v : Int} (hv : 0 ≤ v ∧ v ≤ 100) : mV (z_u σ 2 0 v) := by
  obtain ⟨v0, v1, v2, v3, v4, v5, v6, v7, v8, v9, v10, v11, v12, v13, v14⟩ := hV
  exact ⟨v0, v1, v2, v3, v4, v5, v6, v7, v8, v9, (by rw [z_u_at]; exact hv), v11, v12, v13, v14⟩
theorem mVr_2 (hV : mV σ) {f : Int → Int} (hf : 0 ≤ f 0 ∧ f 0 ≤ 100) : mV (z_ur σ 2 f) := by
  obtain ⟨v0, v1, v2, v3, v4, v5, v6, v7, v8, v9, v10, v11, v12, v13, v14⟩ := hV
  exact ⟨v0, v1, v2, v3, v4, v5, v6, v7, v8, v9, (by rw [z_ur_at]; exact hf), v11, v12, v13, v14⟩
theorem mVu_26 (hV : mV σ) {v : Int} (hv : 1 ≤ v ∧ v ≤ 5) : mV (z_u σ 26 0 v) := by
  obtain ⟨v0, v1, v2, v3, v4, v5, v6, v7, v8, v9, v10, v11, v12, v13, v14⟩ := hV
  exact ⟨v0, v1, v2, v3, v4, v5, v6, v7, v8, v9, v10, (by rw [z_u_at]; exact hv), v12, v13, v14⟩
theorem mVr_26 (hV : mV σ) {f : Int → Int} (hf : 1 ≤ f 0 ∧ f 0 ≤ 5) : mV (z_ur σ 26 f) := by
  obtain ⟨v0, v1, v2, v3, v4, v5, v6, v7, v8, v9, v10, v11, v12, v13, v14⟩ := hV
  exact ⟨v0, v1, v2, v3, v4, v5, v6, v7, v8, v9, v10, (by rw [z_ur_at]; exact hf), v12, v13, v14⟩
theorem mVu_27 (hV : mV σ) {v : Int} (hv : 1 ≤ v ∧ v ≤ 9) : mV (z_u σ 27 0 v) := by
  obtain ⟨v0, v1, v2, v3, v4, v5, v6, v7, v8, v9, v10, v11, v12, v13, v14⟩ := hV
  exact ⟨v0, v1, v2, v3, v4, v5, v6, v7, v8, v9, v10, v11, (by rw [z_u_at]; exact hv), v13, v14⟩
theorem mVr_27 (hV : mV σ) {f : Int → Int} (hf : 1 ≤ f 0 ∧ f 0 ≤ 9) : mV (z_ur σ 27 f) := by
  obtain ⟨v0, v1, v2, v3, v4, v5, v6, v7, v8, v9, v10, v11, v12, v13, v14⟩ := hV
  exact ⟨v0, v1, v2, v3, v4, v5, v6, v7, v8, v9, v10, v11, (by rw [z_ur_at]; exact hf), v13, v14⟩
theorem mVu_1 (hV : mV σ) {i v : Int} (hv : 0 ≤ v ∧ v ≤ 255) : mV (z_u σ 1 i v) := by
  obtain ⟨v0, v1, v2, v3, v4, v5, v6, v7, v8, v9, v10, v11, v12, v13, v14⟩ := hV
  exact ⟨v0, v1, v2, v3, v4, v5, v6, v7, v8, v9, v10, v11, v12, (fun j => by rw [z_u_eq]; unfold z_up; split; exact hv; exact v13 j), v14⟩
theorem mVr_1 (hV : mV σ) {f : Int → Int} (hf : ∀ j, 0 ≤ f j ∧ f j ≤ 255) : mV (z_ur σ 1 f) := by
  obtain ⟨v0, v1, v2, v3, v4, v5, v6, v7, v8, v9, v10, v11, v12, v13, v14⟩ := hV
  exact ⟨v0, v1, v2, v3, v4, v5, v6, v7, v8, v9, v10, v11, v12, (fun j => by rw [z_ur_at]; exact hf j), v14⟩
theorem mVu_15 (hV : mV σ) {i v : Int} (hv : 0 ≤ v ∧ v ≤ 4) : mV (z_u σ 15 i v) := by
  obtain ⟨v0, v1, v2, v3, v4, v5, v6, v7, v8, v9, v10, v11, v12, v13, v14⟩ := hV
  exact ⟨v0, v1, v2, v3, v4, v5, v6, v7, v8, v9, v10, v11, v12, v13, (fun j => by rw [z_u_eq]; unfold z_up; split; exact hv; exact v14 j)⟩
theorem mVr_15 (hV : mV σ) {f : Int → Int} (hf : ∀ j, 0 ≤ f j ∧ f j ≤ 4) : mV (z_ur σ 15 f) := by
  obtain ⟨v0, v1, v2, v3, v4, v5, v6, v7, v8, v9, v10, v11, v12, v13, v14⟩ := hV
  exact ⟨v0, v1, v2, v3, v4, v5, v6, v7, v8, v9, v10, v11, v12, v13, (fun j => by rw [z_ur_at]; exact hf j)⟩
end MVU
section SMA
variable {t : Nat} {κ : c_K} {σ : z_S}
theorem jJ_Pb (h : jJ t κ σ) {b : Int} (hb : 0 ≤ b ∧ b ≤ 255) (h5 : σ 2 0 + (if b = 0 then 0 else 1) ≤ 100) : jJ t (kPb κ b) (yPb σ b) := by
  unfold kPb yPb
  by_cases c : b = 0
  · rw [if_pos c, if_pos c]; exact h
  · rw [if_neg c] at h5
    rw [if_neg c, if_neg c]
    obtain ⟨⟨ht, ha, ho, he, hz, hs, hp, hl, hm, hj⟩, hB, hV, hM⟩ := h
    obtain ⟨t1, t2, t3⟩ := ht
    refine ⟨⟨⟨?_, ?_, fun i h0 h1 => ?_⟩, ha, ho, he, hz, hs, hp, hl, hm, hj⟩, mB_u (mB_u hB (by omega)) (by omega), mVu_2 (mVu_1 hV hb) (by omega), hM⟩
    · rw [k_u_at, z_u_at, t1]
    · rw [z_u_at]; omega
    · rw [z_u_at] at h1
      have e4 : k_u (k_u κ 4 0 (κ 5 0 0) b) 5 0 0 (κ 5 0 0 + 1) 4 0 i = z_up (κ 4 0) (κ 5 0 0) b i := by rw [k_u_ne (by decide), k_u_eq]
      have e1 : z_u (z_u σ 1 (σ 2 0) b) 2 0 (σ 2 0 + 1) 1 i = z_up (σ 1) (σ 2 0) b i := by rw [z_u_ne (by decide), z_u_eq]
      rw [e4, e1, t1]
      by_cases c2 : i = σ 2 0
      · rw [show z_up (κ 4 0) (σ 2 0) b i = b from if_pos c2, show z_up (σ 1) (σ 2 0) b i = b from if_pos c2]
        omega
      · rw [show z_up (κ 4 0) (σ 2 0) b i = κ 4 0 i from if_neg c2, show z_up (σ 1) (σ 2 0) b i = σ 1 i from if_neg c2]
        exact t3 i h0 (by omega)
theorem jJ_Tk (h : jJ t κ σ) {v : Int} (h5 : σ 2 0 + yBy v ≤ 100) : jJ t (kTk κ v) (yTk σ v) := by
  unfold yBy at h5
  have h0 : ∀ x : Int, 0 ≤ x % 256 ∧ x % 256 ≤ 255 := fun x => by omega
  have h1 : ∀ x : Int, (0 : Int) ≤ (if x = 0 then (0 : Int) else 1) := fun x => by split <;> omega
  have a1 := h1 (v / 1 % 256)
  have a2 := h1 (v / 256 % 256)
  have a3 := h1 (v / 65536 % 256)
  have a4 := h1 (v / 16777216 % 256)
  have j1 := jJ_Pb h (h0 (v / 16777216)) (by omega)
  have j2 := jJ_Pb j1 (h0 (v / 65536)) (by rw [yPb_2]; omega)
  have j3 := jJ_Pb j2 (h0 (v / 256)) (by rw [yPb_2, yPb_2]; omega)
  exact jJ_Pb j3 (h0 (v / 1)) (by rw [yPb_2, yPb_2, yPb_2]; omega)
theorem jJ_T5 (h : jJ t κ σ) {a b k d e : Int} (h5 : σ 2 0 + (yBy a + yBy b + yBy k + yBy d + yBy e) ≤ 100) : jJ t (kTk (kTk (kTk (kTk (kTk κ a) b) k) d) e) (yTk (yTk (yTk (yTk (yTk σ a) b) k) d) e) := by
  have a1 := yBy_b a
  have a2 := yBy_b b
  have a3 := yBy_b k
  have a4 := yBy_b d
  have a5 := yBy_b e
  have j1 := jJ_Tk h (v := a) (by omega)
  have j2 := jJ_Tk j1 (v := b) (by rw [yTk_2]; omega)
  have j3 := jJ_Tk j2 (v := k) (by rw [yTk_2, yTk_2]; omega)
  have j4 := jJ_Tk j3 (v := d) (by rw [yTk_2, yTk_2, yTk_2]; omega)
  exact jJ_Tk j4 (by rw [yTk_2, yTk_2, yTk_2, yTk_2]; omega)
theorem yPb_0 (σ : z_S) (b : Int) : yPb σ b 0 = σ 0 := by
  unfold yPb
  split
  · rfl
  · rw [z_u_ne (by decide), z_u_ne (by decide)]
theorem yTk_0 (σ : z_S) (v : Int) : yTk σ v 0 = σ 0 := by
  unfold yTk
  rw [yPb_0, yPb_0, yPb_0, yPb_0]
theorem jJ_Ct (h : jJ t κ σ) : jJ t (k_u κ 5 0 0 0) (z_u σ 2 0 0) := by
  obtain ⟨⟨ht, ha, ho, he, hz, hs, hp, hl, hm, hj⟩, hB, hV, hM⟩ := h
  refine ⟨⟨⟨?_, ?_, fun i h0 h1 => ?_⟩, ha, ho, he, hz, hs, hp, hl, hm, hj⟩, mB_u hB (by omega), mVu_2 hV (by omega), hM⟩
  · rw [k_u_at, z_u_at]
  · rw [z_u_at]; omega
  · rw [z_u_at] at h1; omega
theorem jJ_Re (h : jJ t κ σ) {v : Int} (hv : 1 ≤ v ∧ v ≤ 5) : jJ t (k_u κ 18 0 0 v) (z_u σ 26 0 v) := by
  obtain ⟨⟨ht, ha, ho, he, hz, hs, hp, hl, hm, hj⟩, hB, hV, hM⟩ := h
  exact ⟨⟨ht, ⟨ha.1, ha.2.1, by rw [k_u_at, z_u_at], ha.2.2.2.1, ha.2.2.2.2⟩, ho, he, hz, hs, hp, hl, hm, hj⟩, mB_u hB (by omega), mVu_26 hV hv, hM⟩
theorem jJ_Pa (h : jJ t κ σ) {v : Int} (hv : 1 ≤ v ∧ v ≤ 9) : jJ t (k_u κ 19 0 0 v) (z_u σ 27 0 v) := by
  obtain ⟨⟨ht, ha, ho, he, hz, hs, hp, hl, hm, hj⟩, hB, hV, hM⟩ := h
  exact ⟨⟨ht, ⟨ha.1, ha.2.1, ha.2.2.1, by rw [k_u_at, z_u_at], ha.2.2.2.2⟩, ho, he, hz, hs, hp, hl, hm, hj⟩, mB_u hB (by omega), mVu_27 hV hv, hM⟩
end SMA
section SMB
end SMB
