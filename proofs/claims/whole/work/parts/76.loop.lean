/-! THE LAW's LOOP and its start (laid by wip/whole/gen/gen76.py). -/
section LLO
def v_0 (G : z_G) (q : Nat) (A : Nat → Nat) (o1 o2 : Nat) (J1 : c_K → z_S → Prop) (κ : c_K) (σ : z_S) : Prop := ∀ x1 : Int, lsR x1 → ∀ x2 : Int, lsR x2 → ∀ x3 : Int, lsR x3 → ∀ x4 : Int, lsR x4 → ∀ x5 : Int, lsR x5 → vW G q A o1 o2 J1 κ σ mL_append hL_append mX8_append [z_i x1, z_i x2, z_i x3, z_i x4, z_i x5]
def v_1 (G : z_G) (q : Nat) (A : Nat → Nat) (o1 o2 : Nat) (J1 : c_K → z_S → Prop) (κ : c_K) (σ : z_S) : Prop := vD G q A o1 o2 J1 κ σ mX7_clearTape mX8_clearTape []
def v_2 (G : z_G) (q : Nat) (A : Nat → Nat) (o1 o2 : Nat) (J1 : c_K → z_S → Prop) (κ : c_K) (σ : z_S) : Prop := vW G q A o1 o2 J1 κ σ mL_setOrder hL_setOrder mX8_setOrder []
def v_3 (G : z_G) (q : Nat) (A : Nat → Nat) (o1 o2 : Nat) (J1 : c_K → z_S → Prop) (κ : c_K) (σ : z_S) : Prop := vD G q A o1 o2 J1 κ σ mX7_errorPosition mX8_errorPosition []
def v_4 (G : z_G) (q : Nat) (A : Nat → Nat) (o1 o2 : Nat) (J1 : c_K → z_S → Prop) (κ : c_K) (σ : z_S) : Prop := ∀ x1 : Int, lsR x1 → ∀ x2 : Int, lsR x2 → vW G q A o1 o2 J1 κ σ mL_criterion hL_criterion mX8_criterion [z_i x1, z_i x2]
def v_5 (G : z_G) (q : Nat) (A : Nat → Nat) (o1 o2 : Nat) (J1 : c_K → z_S → Prop) (κ : c_K) (σ : z_S) : Prop := ∀ x1 : Int, lsR x1 → vW G q A o1 o2 J1 κ σ mL_come hL_come mX8_come [z_i x1]
def v_6 (G : z_G) (q : Nat) (A : Nat → Nat) (o1 o2 : Nat) (J1 : c_K → z_S → Prop) (κ : c_K) (σ : z_S) : Prop := ∀ x1 : Int, lsR x1 → vW G q A o1 o2 J1 κ σ mL_leave hL_leave mX8_leave [z_i x1]
def v_7 (G : z_G) (q : Nat) (A : Nat → Nat) (o1 o2 : Nat) (J1 : c_K → z_S → Prop) (κ : c_K) (σ : z_S) : Prop := ∀ x1 : Int, lsR x1 → ∀ x2 : Int, lsR x2 → ∀ x3 : Int, lsR x3 → vW G q A o1 o2 J1 κ σ mL_score hL_score mX8_score [z_i x1, z_i x2, z_i x3]
def v_8 (G : z_G) (q : Nat) (A : Nat → Nat) (o1 o2 : Nat) (J1 : c_K → z_S → Prop) (κ : c_K) (σ : z_S) : Prop := ∀ x1 : Int, lsR x1 → ∀ x2 : Int, lsR x2 → ∀ x3 : Int, lsR x3 → vW G q A o1 o2 J1 κ σ mL_setScore hL_setScore mX8_setScore [z_i x1, z_i x2, z_i x3]
def v_9 (G : z_G) (q : Nat) (A : Nat → Nat) (o1 o2 : Nat) (J1 : c_K → z_S → Prop) (κ : c_K) (σ : z_S) : Prop := ∀ x1 : Int, lsR x1 → ∀ x2 : Int, lsR x2 → vW G q A o1 o2 J1 κ σ mL_scoreOf hL_scoreOf mX8_scoreOf [z_i x1, z_i x2]
def v_10 (G : z_G) (q : Nat) (A : Nat → Nat) (o1 o2 : Nat) (J1 : c_K → z_S → Prop) (κ : c_K) (σ : z_S) : Prop := ∀ x1 : Int, lsR x1 → vW G q A o1 o2 J1 κ σ mL_groupOf hL_groupOf mX8_groupOf [z_i x1]
def v_11 (G : z_G) (q : Nat) (A : Nat → Nat) (o1 o2 : Nat) (J1 : c_K → z_S → Prop) (κ : c_K) (σ : z_S) : Prop := vD G q A o1 o2 J1 κ σ mX7_entrants mX8_entrants []
def v_12 (G : z_G) (q : Nat) (A : Nat → Nat) (o1 o2 : Nat) (J1 : c_K → z_S → Prop) (κ : c_K) (σ : z_S) : Prop := ∀ x1 : Int, lsR x1 → vW G q A o1 o2 J1 κ σ mL_at hL_at mX8_at [z_i x1]
def v_13 (G : z_G) (q : Nat) (A : Nat → Nat) (o1 o2 : Nat) (J1 : c_K → z_S → Prop) (κ : c_K) (σ : z_S) : Prop := ∀ x1 : Int, lsR x1 → vW G q A o1 o2 J1 κ σ mL_place hL_place mX8_place [z_i x1]
def v_14 (G : z_G) (q : Nat) (A : Nat → Nat) (o1 o2 : Nat) (J1 : c_K → z_S → Prop) (κ : c_K) (σ : z_S) : Prop := ∀ x1 : Int, lsR x1 → ∀ x2 : Int, lsR x2 → vW G q A o1 o2 J1 κ σ mL_rank hL_rank mX8_rank [z_i x1, z_i x2]
def v_15 (G : z_G) (q : Nat) (A : Nat → Nat) (o1 o2 : Nat) (J1 : c_K → z_S → Prop) (κ : c_K) (σ : z_S) : Prop := ∀ x1 : Int, lsR x1 → vW G q A o1 o2 J1 κ σ mL_alike hL_alike mX8_alike [z_i x1]
def v_16 (G : z_G) (q : Nat) (A : Nat → Nat) (o1 o2 : Nat) (J1 : c_K → z_S → Prop) (κ : c_K) (σ : z_S) : Prop := vD G q A o1 o2 J1 κ σ mX7_results mX8_results []
def v_17 (G : z_G) (q : Nat) (A : Nat → Nat) (o1 o2 : Nat) (J1 : c_K → z_S → Prop) (κ : c_K) (σ : z_S) : Prop := vD G q A o1 o2 J1 κ σ mX7_rankSum mX8_rankSum []
def v_18 (G : z_G) (q : Nat) (A : Nat → Nat) (o1 o2 : Nat) (J1 : c_K → z_S → Prop) (κ : c_K) (σ : z_S) : Prop := ∀ x1 : Int, lsR x1 → ∀ x2 : Int, lsR x2 → ∀ x3 : Int, lsR x3 → vW G q A o1 o2 J1 κ σ mL_wouldGain hL_wouldGain mX8_wouldGain [z_i x1, z_i x2, z_i x3]
def v_19 (G : z_G) (q : Nat) (A : Nat → Nat) (o1 o2 : Nat) (J1 : c_K → z_S → Prop) (κ : c_K) (σ : z_S) : Prop := ∀ x1 : Int, lsR x1 → ∀ x2 : Int, lsR x2 → vW G q A o1 o2 J1 κ σ mL_needed hL_needed mX8_needed [z_i x1, z_i x2]
def v_20 (G : z_G) (q : Nat) (A : Nat → Nat) (o1 o2 : Nat) (J1 : c_K → z_S → Prop) (κ : c_K) (σ : z_S) : Prop := ∀ x1 : Int, lsR x1 → vD G q A o1 o2 J1 κ σ mX7_above mX8_above [z_i x1]
def v_21 (G : z_G) (q : Nat) (A : Nat → Nat) (o1 o2 : Nat) (J1 : c_K → z_S → Prop) (κ : c_K) (σ : z_S) : Prop := ∀ x1 : Int, lsR x1 → vD G q A o1 o2 J1 κ σ mX7_with mX8_with [z_i x1]
def v_22 (G : z_G) (q : Nat) (A : Nat → Nat) (o1 o2 : Nat) (J1 : c_K → z_S → Prop) (κ : c_K) (σ : z_S) : Prop := ∀ x1 : Int, lsR x1 → ∀ x2 : Int, lsR x2 → vD G q A o1 o2 J1 κ σ mX7_withAt mX8_withAt [z_i x1, z_i x2]
def v_23 (G : z_G) (q : Nat) (A : Nat → Nat) (o1 o2 : Nat) (J1 : c_K → z_S → Prop) (κ : c_K) (σ : z_S) : Prop := ∀ x1 : Int, lsR x1 → vW G q A o1 o2 J1 κ σ mL_next hL_next mX8_next [z_i x1]
def v_24 (G : z_G) (q : Nat) (A : Nat → Nat) (o1 o2 : Nat) (J1 : c_K → z_S → Prop) (κ : c_K) (σ : z_S) : Prop := ∀ x1 : Int, lsR x1 → ∀ x2 : Int, lsR x2 → vW G q A o1 o2 J1 κ σ mL_between hL_between mX8_between [z_i x1, z_i x2]
def v_25 (G : z_G) (q : Nat) (A : Nat → Nat) (o1 o2 : Nat) (J1 : c_K → z_S → Prop) (κ : c_K) (σ : z_S) : Prop := ∀ x1 : Int, lsR x1 → vW G q A o1 o2 J1 κ σ mL_median hL_median mX8_median [z_i (if x1 = 0 then 0 else 1)]
def v_26 (G : z_G) (q : Nat) (A : Nat → Nat) (o1 o2 : Nat) (J1 : c_K → z_S → Prop) (κ : c_K) (σ : z_S) : Prop := ∀ x1 : Int, lsR x1 → ∀ x2 : Int, lsR x2 → vW G q A o1 o2 J1 κ σ mL_quantile hL_quantile mX8_quantile [z_i x1, z_i x2]
def v_27 (G : z_G) (q : Nat) (A : Nat → Nat) (o1 o2 : Nat) (J1 : c_K → z_S → Prop) (κ : c_K) (σ : z_S) : Prop := ∀ x1 : Int, lsR x1 → vW G q A o1 o2 J1 κ σ mL_enter hL_enter mX8_enter [z_i x1]
def v_28 (G : z_G) (q : Nat) (A : Nat → Nat) (o1 o2 : Nat) (J1 : c_K → z_S → Prop) (κ : c_K) (σ : z_S) : Prop := ∀ x1 : Int, lsR x1 → ∀ x2 : Int, lsR x2 → ∀ x3 : Int, lsR x3 → vW G q A o1 o2 J1 κ σ mL_challenge hL_challenge mX8_challenge [z_i x1, z_i x2, z_i (if x3 = 0 then 0 else 1)]
def v_29 (G : z_G) (q : Nat) (A : Nat → Nat) (o1 o2 : Nat) (J1 : c_K → z_S → Prop) (κ : c_K) (σ : z_S) : Prop := ∀ x1 : Int, lsR x1 → vW G q A o1 o2 J1 κ σ mL_mayChallenge hL_mayChallenge mX8_mayChallenge [z_i x1]
def v_30 (G : z_G) (q : Nat) (A : Nat → Nat) (o1 o2 : Nat) (J1 : c_K → z_S → Prop) (κ : c_K) (σ : z_S) : Prop := ∀ x1 : Int, lsR x1 → vW G q A o1 o2 J1 κ σ mL_setReach hL_setReach mX8_setReach [z_i x1]
def v_31 (G : z_G) (q : Nat) (A : Nat → Nat) (o1 o2 : Nat) (J1 : c_K → z_S → Prop) (κ : c_K) (σ : z_S) : Prop := ∀ x1 : Int, lsR x1 → vW G q A o1 o2 J1 κ σ mL_setPatience hL_setPatience mX8_setPatience [z_i x1]
def v_32 (G : z_G) (q : Nat) (A : Nat → Nat) (o1 o2 : Nat) (J1 : c_K → z_S → Prop) (κ : c_K) (σ : z_S) : Prop := ∀ x1 : Int, lsR x1 → vW G q A o1 o2 J1 κ σ mL_ladderAt hL_ladderAt mX8_ladderAt [z_i x1]
def v_33 (G : z_G) (q : Nat) (A : Nat → Nat) (o1 o2 : Nat) (J1 : c_K → z_S → Prop) (κ : c_K) (σ : z_S) : Prop := ∀ x1 : Int, lsR x1 → vW G q A o1 o2 J1 κ σ mL_ladderPlace hL_ladderPlace mX8_ladderPlace [z_i x1]
def v_34 (G : z_G) (q : Nat) (A : Nat → Nat) (o1 o2 : Nat) (J1 : c_K → z_S → Prop) (κ : c_K) (σ : z_S) : Prop := vW G q A o1 o2 J1 κ σ mL_endRound hL_endRound mX8_endRound []
def v_35 (G : z_G) (q : Nat) (A : Nat → Nat) (o1 o2 : Nat) (J1 : c_K → z_S → Prop) (κ : c_K) (σ : z_S) : Prop := vD G q A o1 o2 J1 κ σ mX7_round mX8_round []
def v_36 (G : z_G) (q : Nat) (A : Nat → Nat) (o1 o2 : Nat) (J1 : c_K → z_S → Prop) (κ : c_K) (σ : z_S) : Prop := ∀ x1 : Int, lsR x1 → vW G q A o1 o2 J1 κ σ mL_gain hL_gain mX8_gain [z_i x1]
def v_37 (G : z_G) (q : Nat) (A : Nat → Nat) (o1 o2 : Nat) (J1 : c_K → z_S → Prop) (κ : c_K) (σ : z_S) : Prop := ∀ x1 : Int, lsR x1 → ∀ x2 : Int, lsR x2 → ∀ x3 : Int, lsR x3 → vW G q A o1 o2 J1 κ σ mL_form hL_form mX8_form [z_i x1, z_i x2, z_i x3]
def v_38 (G : z_G) (q : Nat) (A : Nat → Nat) (o1 o2 : Nat) (J1 : c_K → z_S → Prop) (κ : c_K) (σ : z_S) : Prop := ∀ x1 : Int, lsR x1 → ∀ x2 : Int, lsR x2 → vW G q A o1 o2 J1 κ σ mL_inForm hL_inForm mX8_inForm [z_i x1, z_i x2]
def v_39 (G : z_G) (q : Nat) (A : Nat → Nat) (o1 o2 : Nat) (J1 : c_K → z_S → Prop) (κ : c_K) (σ : z_S) : Prop := ∀ x1 : Int, lsR x1 → ∀ x2 : Int, lsR x2 → vW G q A o1 o2 J1 κ σ mL_placeThen hL_placeThen mX8_placeThen [z_i x1, z_i x2]
def v_40 (G : z_G) (q : Nat) (A : Nat → Nat) (o1 o2 : Nat) (J1 : c_K → z_S → Prop) (κ : c_K) (σ : z_S) : Prop := ∀ x1 : Int, lsR x1 → vW G q A o1 o2 J1 κ σ mL_climb hL_climb mX8_climb [z_i x1]
def v_41 (G : z_G) (q : Nat) (A : Nat → Nat) (o1 o2 : Nat) (J1 : c_K → z_S → Prop) (κ : c_K) (σ : z_S) : Prop := ∀ x1 : Int, lsR x1 → vW G q A o1 o2 J1 κ σ mL_best hL_best mX8_best [z_i x1]
def v_42 (G : z_G) (q : Nat) (A : Nat → Nat) (o1 o2 : Nat) (J1 : c_K → z_S → Prop) (κ : c_K) (σ : z_S) : Prop := ∀ x1 : Int, lsR x1 → vW G q A o1 o2 J1 κ σ mL_members hL_members mX8_members [z_i x1]
def v_43 (G : z_G) (q : Nat) (A : Nat → Nat) (o1 o2 : Nat) (J1 : c_K → z_S → Prop) (κ : c_K) (σ : z_S) : Prop := ∀ x1 : Int, lsR x1 → vW G q A o1 o2 J1 κ σ mL_teamScore hL_teamScore mX8_teamScore [z_i x1]
def v_44 (G : z_G) (q : Nat) (A : Nat → Nat) (o1 o2 : Nat) (J1 : c_K → z_S → Prop) (κ : c_K) (σ : z_S) : Prop := ∀ x1 : Int, lsR x1 → vW G q A o1 o2 J1 κ σ mL_groupAt hL_groupAt mX8_groupAt [z_i x1]
def v_45 (G : z_G) (q : Nat) (A : Nat → Nat) (o1 o2 : Nat) (J1 : c_K → z_S → Prop) (κ : c_K) (σ : z_S) : Prop := ∀ x1 : Int, lsR x1 → ∀ x2 : Int, lsR x2 → vW G q A o1 o2 J1 κ σ mL_inversions hL_inversions mX8_inversions [z_i x1, z_i x2]
def v_46 (G : z_G) (q : Nat) (A : Nat → Nat) (o1 o2 : Nat) (J1 : c_K → z_S → Prop) (κ : c_K) (σ : z_S) : Prop := ∀ x1 : Int, lsR x1 → ∀ x2 : Int, lsR x2 → vW G q A o1 o2 J1 κ σ mL_swaps hL_swaps mX8_swaps [z_i x1, z_i x2]
def v_47 (G : z_G) (q : Nat) (A : Nat → Nat) (o1 o2 : Nat) (J1 : c_K → z_S → Prop) (κ : c_K) (σ : z_S) : Prop := vM G q A o1 o2 J1 κ σ mX7_meanPoints mX8_meanPoints
def v_48 (G : z_G) (q : Nat) (A : Nat → Nat) (o1 o2 : Nat) (J1 : c_K → z_S → Prop) (κ : c_K) (σ : z_S) : Prop := ∀ x1 : Int, lsR x1 → vB G q A o1 o2 J1 κ σ mL_beats hL_beats mX8_beats x1
def v_49 (G : z_G) (q : Nat) (A : Nat → Nat) (o1 o2 : Nat) (J1 : c_K → z_S → Prop) (κ : c_K) (σ : z_S) : Prop := vD G q A o1 o2 J1 κ σ mX7_errors mX8_errors []
/-- what every pair of calls gives -/
def vAll (G : z_G) (q : Nat) (A : Nat → Nat) (o1 o2 : Nat) (J1 : c_K → z_S → Prop) (κ : c_K) (σ : z_S) : Prop := v_0 G q A o1 o2 J1 κ σ ∧ v_1 G q A o1 o2 J1 κ σ ∧ v_2 G q A o1 o2 J1 κ σ ∧ v_3 G q A o1 o2 J1 κ σ ∧ v_4 G q A o1 o2 J1 κ σ ∧ v_5 G q A o1 o2 J1 κ σ ∧ v_6 G q A o1 o2 J1 κ σ ∧ v_7 G q A o1 o2 J1 κ σ ∧ v_8 G q A o1 o2 J1 κ σ ∧ v_9 G q A o1 o2 J1 κ σ ∧ v_10 G q A o1 o2 J1 κ σ ∧ v_11 G q A o1 o2 J1 κ σ ∧ v_12 G q A o1 o2 J1 κ σ ∧ v_13 G q A o1 o2 J1 κ σ ∧ v_14 G q A o1 o2 J1 κ σ ∧ v_15 G q A o1 o2 J1 κ σ ∧ v_16 G q A o1 o2 J1 κ σ ∧ v_17 G q A o1 o2 J1 κ σ ∧ v_18 G q A o1 o2 J1 κ σ ∧ v_19 G q A o1 o2 J1 κ σ ∧ v_20 G q A o1 o2 J1 κ σ ∧ v_21 G q A o1 o2 J1 κ σ ∧ v_22 G q A o1 o2 J1 κ σ ∧ v_23 G q A o1 o2 J1 κ σ ∧ v_24 G q A o1 o2 J1 κ σ ∧ v_25 G q A o1 o2 J1 κ σ ∧ v_26 G q A o1 o2 J1 κ σ ∧ v_27 G q A o1 o2 J1 κ σ ∧ v_28 G q A o1 o2 J1 κ σ ∧ v_29 G q A o1 o2 J1 κ σ ∧ v_30 G q A o1 o2 J1 κ σ ∧ v_31 G q A o1 o2 J1 κ σ ∧ v_32 G q A o1 o2 J1 κ σ ∧ v_33 G q A o1 o2 J1 κ σ ∧ v_34 G q A o1 o2 J1 κ σ ∧ v_35 G q A o1 o2 J1 κ σ ∧ v_36 G q A o1 o2 J1 κ σ ∧ v_37 G q A o1 o2 J1 κ σ ∧ v_38 G q A o1 o2 J1 κ σ ∧ v_39 G q A o1 o2 J1 κ σ ∧ v_40 G q A o1 o2 J1 κ σ ∧ v_41 G q A o1 o2 J1 κ σ ∧ v_42 G q A o1 o2 J1 κ σ ∧ v_43 G q A o1 o2 J1 κ σ ∧ v_44 G q A o1 o2 J1 κ σ ∧ v_45 G q A o1 o2 J1 κ σ ∧ v_46 G q A o1 o2 J1 κ σ ∧ v_47 G q A o1 o2 J1 κ σ ∧ v_48 G q A o1 o2 J1 κ σ ∧ v_49 G q A o1 o2 J1 κ σ
theorem w_upto {P : Nat → Prop} (h0 : P 0) (h1 : P 1) (h2 : P 2) (h3 : P 3) (h4 : P 4) (h5 : P 5) (h6 : P 6) (h7 : P 7) (h8 : P 8) (h9 : P 9) (h10 : P 10) (h11 : P 11) (h12 : P 12) (h13 : P 13) (h14 : P 14) (h15 : P 15) (h16 : P 16) (h17 : P 17) (h18 : P 18) (h19 : P 19) (h20 : P 20) (h21 : P 21) (h22 : P 22) (h23 : P 23) (h24 : P 24) (h25 : P 25) (h26 : P 26) (h27 : P 27) (h28 : P 28) (h29 : P 29) (h30 : P 30) (h31 : P 31) (h32 : P 32) (h33 : P 33) (h34 : P 34) (h35 : P 35) (h36 : P 36) (h37 : P 37) (h38 : P 38) (h39 : P 39) (h40 : P 40) (h41 : P 41) (h42 : P 42) (h43 : P 43) (h44 : P 44) (h45 : P 45) (h46 : P 46) (h47 : P 47) (h48 : P 48) (h49 : P 49) : ∀ c : Nat, c < 50 → P c := by
  intro c hc
  match c, hc with
  | 0, _ => exact h0
  | 1, _ => exact h1
  | 2, _ => exact h2
  | 3, _ => exact h3
  | 4, _ => exact h4
  | 5, _ => exact h5
  | 6, _ => exact h6
  | 7, _ => exact h7
  | 8, _ => exact h8
  | 9, _ => exact h9
  | 10, _ => exact h10
  | 11, _ => exact h11
  | 12, _ => exact h12
  | 13, _ => exact h13
  | 14, _ => exact h14
  | 15, _ => exact h15
  | 16, _ => exact h16
  | 17, _ => exact h17
  | 18, _ => exact h18
  | 19, _ => exact h19
  | 20, _ => exact h20
  | 21, _ => exact h21
  | 22, _ => exact h22
  | 23, _ => exact h23
  | 24, _ => exact h24
  | 25, _ => exact h25
  | 26, _ => exact h26
  | 27, _ => exact h27
  | 28, _ => exact h28
  | 29, _ => exact h29
  | 30, _ => exact h30
  | 31, _ => exact h31
  | 32, _ => exact h32
  | 33, _ => exact h33
  | 34, _ => exact h34
  | 35, _ => exact h35
  | 36, _ => exact h36
  | 37, _ => exact h37
  | 38, _ => exact h38
  | 39, _ => exact h39
  | 40, _ => exact h40
  | 41, _ => exact h41
  | 42, _ => exact h42
  | 43, _ => exact h43
  | 44, _ => exact h44
  | 45, _ => exact h45
  | 46, _ => exact h46
  | 47, _ => exact h47
  | 48, _ => exact h48
  | 49, _ => exact h49
  | c + 50, hc => omega
variable {Y : z_Y} {G : z_G} {b q o1 o2 L : Nat} {A : Nat → Nat} {xs : Nat → Int32} {J : c_K → z_S → Prop} {κ : c_K} {σ : z_S} {f : Int → Int} {g : Int → UInt64} {H : z_H} {i : Int} {k n : Nat}
theorem w_switch (hC : lC Y G b L xs i k n) (hS : lS G q A o1 o2 κ σ f g H) (hv : vAll G q A o1 o2 J κ σ) (kk : lK Y G b q A o1 o2 i k n J) : ∀ c : Nat, c < 50 → z_W Y 45 (lV b q (A 40) o1 o2 i) [z_i (c : Int)] H k n := by
  obtain ⟨hv0, hv1, hv2, hv3, hv4, hv5, hv6, hv7, hv8, hv9, hv10, hv11, hv12, hv13, hv14, hv15, hv16, hv17, hv18, hv19, hv20, hv21, hv22, hv23, hv24, hv25, hv26, hv27, hv28, hv29, hv30, hv31, hv32, hv33, hv34, hv35, hv36, hv37, hv38, hv39, hv40, hv41, hv42, hv43, hv44, hv45, hv46, hv47, hv48, hv49⟩ := hv
  have hY := hC.1
  refine w_upto ?_ ?_ ?_ ?_ ?_ ?_ ?_ ?_ ?_ ?_ ?_ ?_ ?_ ?_ ?_ ?_ ?_ ?_ ?_ ?_ ?_ ?_ ?_ ?_ ?_ ?_ ?_ ?_ ?_ ?_ ?_ ?_ ?_ ?_ ?_ ?_ ?_ ?_ ?_ ?_ ?_ ?_ ?_ ?_ ?_ ?_ ?_ ?_ ?_ ?_
  · exact z_tswIn (off := 215) (tgt := 260) hY eL_law_45 (by decide) (by decide) (by decide) rfl rfl (w_c0 hC hS (hv0 _ (zX_r xs (i + 1)) _ (zX_r xs (i + 2)) _ (zX_r xs (i + 3)) _ (zX_r xs (i + 4)) _ (zX_r xs (i + 5))) kk)
  · exact z_tswIn (off := 319) (tgt := 364) hY eL_law_45 (by decide) (by decide) (by decide) rfl rfl (w_c1 hC hS (hv1) kk)
  · exact z_tswIn (off := 332) (tgt := 377) hY eL_law_45 (by decide) (by decide) (by decide) rfl rfl (w_c2 hC hS (hv2) kk)
  · exact z_tswIn (off := 376) (tgt := 421) hY eL_law_45 (by decide) (by decide) (by decide) rfl rfl (w_c3 hC hS (hv3) kk)
  · exact z_tswIn (off := 389) (tgt := 434) hY eL_law_45 (by decide) (by decide) (by decide) rfl rfl (w_c4 hC hS (hv4 _ (zX_r xs (i + 1)) _ (zX_r xs (i + 2))) kk)
  · exact z_tswIn (off := 457) (tgt := 502) hY eL_law_45 (by decide) (by decide) (by decide) rfl rfl (w_c5 hC hS (hv5 _ (zX_r xs (i + 1))) kk)
  · exact z_tswIn (off := 513) (tgt := 558) hY eL_law_45 (by decide) (by decide) (by decide) rfl rfl (w_c6 hC hS (hv6 _ (zX_r xs (i + 1))) kk)
  · exact z_tswIn (off := 569) (tgt := 614) hY eL_law_45 (by decide) (by decide) (by decide) rfl rfl (w_c7 hC hS (hv7 _ (zX_r xs (i + 1)) _ (zX_r xs (i + 2)) _ (zX_r xs (i + 3))) kk)
  · exact z_tswIn (off := 649) (tgt := 694) hY eL_law_45 (by decide) (by decide) (by decide) rfl rfl (w_c8 hC hS (hv8 _ (zX_r xs (i + 1)) _ (zX_r xs (i + 2)) _ (zX_r xs (i + 3))) kk)
  · exact z_tswIn (off := 729) (tgt := 774) hY eL_law_45 (by decide) (by decide) (by decide) rfl rfl (w_c9 hC hS (hv9 _ (zX_r xs (i + 1)) _ (zX_r xs (i + 2))) kk)
  · exact z_tswIn (off := 797) (tgt := 842) hY eL_law_45 (by decide) (by decide) (by decide) rfl rfl (w_c10 hC hS (hv10 _ (zX_r xs (i + 1))) kk)
  · exact z_tswIn (off := 853) (tgt := 898) hY eL_law_45 (by decide) (by decide) (by decide) rfl rfl (w_c11 hC hS (hv11) kk)
  · exact z_tswIn (off := 866) (tgt := 911) hY eL_law_45 (by decide) (by decide) (by decide) rfl rfl (w_c12 hC hS (hv12 _ (zX_r xs (i + 1))) kk)
  · exact z_tswIn (off := 922) (tgt := 967) hY eL_law_45 (by decide) (by decide) (by decide) rfl rfl (w_c13 hC hS (hv13 _ (zX_r xs (i + 1))) kk)
  · exact z_tswIn (off := 978) (tgt := 1023) hY eL_law_45 (by decide) (by decide) (by decide) rfl rfl (w_c14 hC hS (hv14 _ (zX_r xs (i + 1)) _ (zX_r xs (i + 2))) kk)
  · exact z_tswIn (off := 1046) (tgt := 1091) hY eL_law_45 (by decide) (by decide) (by decide) rfl rfl (w_c15 hC hS (hv15 _ (zX_r xs (i + 1))) kk)
  · exact z_tswIn (off := 1102) (tgt := 1147) hY eL_law_45 (by decide) (by decide) (by decide) rfl rfl (w_c16 hC hS (hv16) kk)
  · exact z_tswIn (off := 1115) (tgt := 1160) hY eL_law_45 (by decide) (by decide) (by decide) rfl rfl (w_c17 hC hS (hv17) kk)
  · exact z_tswIn (off := 1128) (tgt := 1173) hY eL_law_45 (by decide) (by decide) (by decide) rfl rfl (w_c18 hC hS (hv18 _ (zX_r xs (i + 1)) _ (zX_r xs (i + 2)) _ (zX_r xs (i + 3))) kk)
  · exact z_tswIn (off := 1208) (tgt := 1253) hY eL_law_45 (by decide) (by decide) (by decide) rfl rfl (w_c19 hC hS (hv19 _ (zX_r xs (i + 1)) _ (zX_r xs (i + 2))) kk)
  · exact z_tswIn (off := 1276) (tgt := 1321) hY eL_law_45 (by decide) (by decide) (by decide) rfl rfl (w_c20 hC hS (hv20 _ (zX_r xs (i + 1))) kk)
  · exact z_tswIn (off := 1301) (tgt := 1346) hY eL_law_45 (by decide) (by decide) (by decide) rfl rfl (w_c21 hC hS (hv21 _ (zX_r xs (i + 1))) kk)
  · exact z_tswIn (off := 1326) (tgt := 1371) hY eL_law_45 (by decide) (by decide) (by decide) rfl rfl (w_c22 hC hS (hv22 _ (zX_r xs (i + 1)) _ (zX_r xs (i + 2))) kk)
  · exact z_tswIn (off := 1363) (tgt := 1408) hY eL_law_45 (by decide) (by decide) (by decide) rfl rfl (w_c23 hC hS (hv23 _ (zX_r xs (i + 1))) kk)
  · exact z_tswIn (off := 1419) (tgt := 1464) hY eL_law_45 (by decide) (by decide) (by decide) rfl rfl (w_c24 hC hS (hv24 _ (zX_r xs (i + 1)) _ (zX_r xs (i + 2))) kk)
  · exact z_tswIn (off := 1487) (tgt := 1532) hY eL_law_45 (by decide) (by decide) (by decide) rfl rfl (w_c25 hC hS (hv25 _ (zX_r xs (i + 1))) kk)
  · exact z_tswIn (off := 1559) (tgt := 1604) hY eL_law_45 (by decide) (by decide) (by decide) rfl rfl (w_c26 hC hS (hv26 _ (zX_r xs (i + 1)) _ (zX_r xs (i + 2))) kk)
  · exact z_tswIn (off := 1627) (tgt := 1672) hY eL_law_45 (by decide) (by decide) (by decide) rfl rfl (w_c27 hC hS (hv27 _ (zX_r xs (i + 1))) kk)
  · exact z_tswIn (off := 1683) (tgt := 1728) hY eL_law_45 (by decide) (by decide) (by decide) rfl rfl (w_c28 hC hS (hv28 _ (zX_r xs (i + 1)) _ (zX_r xs (i + 2)) _ (zX_r xs (i + 3))) kk)
  · exact z_tswIn (off := 1779) (tgt := 1824) hY eL_law_45 (by decide) (by decide) (by decide) rfl rfl (w_c29 hC hS (hv29 _ (zX_r xs (i + 1))) kk)
  · exact z_tswIn (off := 1835) (tgt := 1880) hY eL_law_45 (by decide) (by decide) (by decide) rfl rfl (w_c30 hC hS (hv30 _ (zX_r xs (i + 1))) kk)
  · exact z_tswIn (off := 1891) (tgt := 1936) hY eL_law_45 (by decide) (by decide) (by decide) rfl rfl (w_c31 hC hS (hv31 _ (zX_r xs (i + 1))) kk)
  · exact z_tswIn (off := 1947) (tgt := 1992) hY eL_law_45 (by decide) (by decide) (by decide) rfl rfl (w_c32 hC hS (hv32 _ (zX_r xs (i + 1))) kk)
  · exact z_tswIn (off := 2003) (tgt := 2048) hY eL_law_45 (by decide) (by decide) (by decide) rfl rfl (w_c33 hC hS (hv33 _ (zX_r xs (i + 1))) kk)
  · exact z_tswIn (off := 2059) (tgt := 2104) hY eL_law_45 (by decide) (by decide) (by decide) rfl rfl (w_c34 hC hS (hv34) kk)
  · exact z_tswIn (off := 2103) (tgt := 2148) hY eL_law_45 (by decide) (by decide) (by decide) rfl rfl (w_c35 hC hS (hv35) kk)
  · exact z_tswIn (off := 2116) (tgt := 2161) hY eL_law_45 (by decide) (by decide) (by decide) rfl rfl (w_c36 hC hS (hv36 _ (zX_r xs (i + 1))) kk)
  · exact z_tswIn (off := 2172) (tgt := 2217) hY eL_law_45 (by decide) (by decide) (by decide) rfl rfl (w_c37 hC hS (hv37 _ (zX_r xs (i + 1)) _ (zX_r xs (i + 2)) _ (zX_r xs (i + 3))) kk)
  · exact z_tswIn (off := 2252) (tgt := 2297) hY eL_law_45 (by decide) (by decide) (by decide) rfl rfl (w_c38 hC hS (hv38 _ (zX_r xs (i + 1)) _ (zX_r xs (i + 2))) kk)
  · exact z_tswIn (off := 2320) (tgt := 2365) hY eL_law_45 (by decide) (by decide) (by decide) rfl rfl (w_c39 hC hS (hv39 _ (zX_r xs (i + 1)) _ (zX_r xs (i + 2))) kk)
  · exact z_tswIn (off := 2388) (tgt := 2433) hY eL_law_45 (by decide) (by decide) (by decide) rfl rfl (w_c40 hC hS (hv40 _ (zX_r xs (i + 1))) kk)
  · exact z_tswIn (off := 2444) (tgt := 2489) hY eL_law_45 (by decide) (by decide) (by decide) rfl rfl (w_c41 hC hS (hv41 _ (zX_r xs (i + 1))) kk)
  · exact z_tswIn (off := 2500) (tgt := 2545) hY eL_law_45 (by decide) (by decide) (by decide) rfl rfl (w_c42 hC hS (hv42 _ (zX_r xs (i + 1))) kk)
  · exact z_tswIn (off := 2556) (tgt := 2601) hY eL_law_45 (by decide) (by decide) (by decide) rfl rfl (w_c43 hC hS (hv43 _ (zX_r xs (i + 1))) kk)
  · exact z_tswIn (off := 2612) (tgt := 2657) hY eL_law_45 (by decide) (by decide) (by decide) rfl rfl (w_c44 hC hS (hv44 _ (zX_r xs (i + 1))) kk)
  · exact z_tswIn (off := 2668) (tgt := 2713) hY eL_law_45 (by decide) (by decide) (by decide) rfl rfl (w_c45 hC hS (hv45 _ (zX_r xs (i + 1)) _ (zX_r xs (i + 2))) kk)
  · exact z_tswIn (off := 2736) (tgt := 2781) hY eL_law_45 (by decide) (by decide) (by decide) rfl rfl (w_c46 hC hS (hv46 _ (zX_r xs (i + 1)) _ (zX_r xs (i + 2))) kk)
  · exact z_tswIn (off := 2804) (tgt := 2849) hY eL_law_45 (by decide) (by decide) (by decide) rfl rfl (w_c47 hC hS (hv47) kk)
  · exact z_tswIn (off := 2845) (tgt := 2890) hY eL_law_45 (by decide) (by decide) (by decide) rfl rfl (w_c48 hC hS (hv48 _ (zX_r xs (i + 1))) kk)
  · exact z_tswIn (off := 2923) (tgt := 2968) hY eL_law_45 (by decide) (by decide) (by decide) rfl rfl (w_c49 hC hS (hv49) kk)
theorem w_step {J : Nat → c_K → z_S → Prop} (hY : z_ok Y 838 mL_law) (hg : z_gg Y = G) (hX : z_Xs G b L xs) (hL : L ≤ 3072) (hφ : ∀ H, z_φ Y (some (z_i 1)) H) (hmono : ∀ t κ σ, J t κ σ → J (t + 1) κ σ) (hall : ∀ (t : Nat) (κ : c_K) (σ : z_S), 6 * (t + 1) ≤ L → J t κ σ → vAll G q A o1 o2 (J (t + 1)) κ σ)
    {t : Nat} (h6 : 6 * t ≤ L) (hk : k + 60 ≤ z_mc Y ∧ n + 3000 ≤ z_ms Y) (hS : lS G q A o1 o2 κ σ f g H) (hJ : J t κ σ) (kk : 6 * (t + 1) ≤ L → ∀ (κ' : c_K) (σ' : z_S) (f' : Int → Int) (g' : Int → UInt64) (H' : z_H), lS G q A o1 o2 κ' σ' f' g' H' → J (t + 1) κ' σ' → z_W Y 28 (lV b q (A 40) o1 o2 (6 * ((t + 1 : Nat) : Int))) [] H' (k + 60) (n + 3000)) :
    z_W Y 28 (lV b q (A 40) o1 o2 (6 * (t : Int))) [] H k n := by
  have hX1 : z_Xs (z_gg Y) b L xs := by rw [hg]; exact hX
  by_cases ht : L < 6 * (t + 1)
  · refine z_iload hY eL_law_28 5 rfl ?_
    refine z_aload hY eL_law_30 0 rfl ?_
    refine z_slen hY eL_law_31 hX1 ?_
    refine z_const hY eL_law_32 ?_
    refine z_isub hY eL_law_34 ?_
    refine z_icmpgt hY eL_law_35 (by omega) (fun _ => ?_) (fun hle => ?_)
    · refine z_const hY eL_law_2987 ?_
      exact z_zreturn hY eL_law_2988 rfl (Or.inr rfl) (hφ _) (by omega)
    · omega
  · have kk2 : lK Y G b q A o1 o2 (6 * (t : Int)) k n (J (t + 1)) := fun κ' σ' f' g' H' hS' hJ' => by
      refine z_iinc (ls' := [(5, z_i (6 * (t : Int) + 6)), (0, .ref b), (1, .ref q), (2, .ref (A 40)), (3, .ref o1), (4, .ref o2)]) hY eL_law_2981 5 rfl rfl ?_
      refine z_goto hY eL_law_2984 ?_
      refine z_sub [1, 2, 3, 4, 5, 0] rfl ?_
      have e := kk (by omega) κ' σ' f' g' H' hS' hJ'
      rw [show (6 * ((t + 1 : Nat) : Int)) = 6 * (t : Int) + 6 by omega] at e
      exact e
    refine z_iload hY eL_law_28 5 rfl ?_
    refine z_aload hY eL_law_30 0 rfl ?_
    refine z_slen hY eL_law_31 hX1 ?_
    refine z_const hY eL_law_32 ?_
    refine z_isub hY eL_law_34 ?_
    refine z_icmpgt hY eL_law_35 (by omega) (fun _ => by omega) (fun hle => ?_)
    refine z_aload hY eL_law_38 0 rfl ?_
    refine z_iload hY eL_law_39 5 rfl ?_
    refine z_sld hY eL_law_41 hX1 (by omega) ?_
    refine z_const hY eL_law_42 ?_
    refine z_iand63 hY eL_law_44 ?_
    by_cases h50 : zX xs (6 * (t : Int)) % 64 < 50
    · have e := w_switch (i := 6 * (t : Int)) (J := J (t + 1)) ⟨hY, hg, hX, by omega, hk⟩ hS (hall t κ σ (by omega) hJ) kk2 (zX xs (6 * (t : Int)) % 64).toNat (by omega)
      rw [Int.toNat_of_nonneg (by omega)] at e
      exact e
    · exact z_tswOut (tgt := 2981) hY eL_law_45 (by omega) (Or.inr (by omega)) rfl (z_widen (by omega) (by omega) (kk2 _ _ _ _ _ hS (hmono _ _ _ hJ)))
theorem w_loop {J : Nat → c_K → z_S → Prop} (hY : z_ok Y 838 mL_law) (hg : z_gg Y = G) (hX : z_Xs G b L xs) (hL : L ≤ 3072) (hφ : ∀ H, z_φ Y (some (z_i 1)) H) (hmono : ∀ t κ σ, J t κ σ → J (t + 1) κ σ) (hall : ∀ (t : Nat) (κ : c_K) (σ : z_S), 6 * (t + 1) ≤ L → J t κ σ → vAll G q A o1 o2 (J (t + 1)) κ σ) :
    ∀ (m t : Nat) (κ : c_K) (σ : z_S) (f : Int → Int) (g : Int → UInt64) (H : z_H) (k n : Nat), 6 * t ≤ L → L < 6 * t + 6 * (m + 1) → k + 60 * (m + 1) ≤ z_mc Y → n + 3000 * (m + 1) ≤ z_ms Y → lS G q A o1 o2 κ σ f g H → J t κ σ → z_W Y 28 (lV b q (A 40) o1 o2 (6 * (t : Int))) [] H k n := by
  intro m
  induction m with
  | zero =>
    intro t κ σ f g H k n h0 h1 h2 h3 hS hJ
    exact w_step (k := k) (n := n) (t := t) hY hg hX hL hφ hmono hall h0 ⟨by omega, by omega⟩ hS hJ (fun h => by omega)
  | succ m ih =>
    intro t κ σ f g H k n h0 h1 h2 h3 hS hJ
    rw [show 60 * (m + 1 + 1) = 60 * (m + 1) + 60 from Nat.mul_succ 60 (m + 1)] at h2
    rw [show 3000 * (m + 1 + 1) = 3000 * (m + 1) + 3000 from Nat.mul_succ 3000 (m + 1)] at h3
    have g1 : k + 60 ≤ z_mc Y := Nat.le_trans (Nat.add_le_add_left (Nat.le_add_left _ _) _) h2
    have g2 : n + 3000 ≤ z_ms Y := Nat.le_trans (Nat.add_le_add_left (Nat.le_add_left _ _) _) h3
    have g3 : k + 60 + 60 * (m + 1) ≤ z_mc Y := by rw [Nat.add_assoc, Nat.add_comm 60]; exact h2
    have g4 : n + 3000 + 3000 * (m + 1) ≤ z_ms Y := by rw [Nat.add_assoc, Nat.add_comm 3000]; exact h3
    refine w_step (k := k) (n := n) (t := t) hY hg hX hL hφ hmono hall h0 ⟨g1, g2⟩ hS hJ (fun h κ' σ' f' g' H' hS' hJ' => ?_)
    exact ih (t + 1) κ' σ' f' g' H' (k + 60) (n + 3000) h (by clear h2 h3 g1 g2 g3 g4; omega) g3 g4 hS' hJ'
theorem cH_mH {D : Nat} {B : Nat → Int → Nat} {h : z_H} {ρ : z_S} (hJ : cJ B κ) (hx : ∀ k ∈ mK, ∀ t i, cL κ t i → B t i ≠ A k) : mH A ρ (cH D B κ h) = cH D B κ (mH A ρ h) := by
  refine cH_ext hJ (fun t i hl => ?_) (fun a ha => ?_)
  · rw [show mH A ρ (cH D B κ h) (B t i) = cH D B κ h (B t i) from mH_ne (σ := ρ) mK (fun j hj => hx j hj t i hl)]
    exact cH_at hJ hl
  · exact mHs_c (cH_no ha) mK
theorem w_law {J : Nat → c_K → z_S → Prop} (hY : z_ok Y 838 mL_law) (hg : z_gg Y = G) (hX : z_Xs G b L xs) (hL : L ≤ 3072) (hφ : ∀ H, z_φ Y (some (z_i 1)) H) (hmc : z_mc Y = 400000) (hms : z_ms Y = 5000000) (hmono : ∀ t κ σ, J t κ σ → J (t + 1) κ σ) (h0 : J 0 k0 yI1) (hk0 : cV k0 ∧ cS k0)
    (hall : ∀ (q : Nat) (A : Nat → Nat) (o1 o2 : Nat) (t : Nat) (κ : c_K) (σ : z_S), 6 * (t + 1) ≤ L → J t κ σ → vAll G q A o1 o2 (J (t + 1)) κ σ) : z_W Y 0 [(0, .ref b)] [] (fun _ => none) 0 0 := by
  have hG : z_OK G := by rw [← hg]; exact z_okG hY
  refine z_new hY eL_law_0 (by omega) (fun q hq => ?_)
  refine z_dup hY eL_law_3 rfl ?_
  refine z_callI (M' := mX7_init) (As := []) (rest := [.ref q]) (d1 := 5) (mc1 := 30) (ms1 := 1000) (ψ1 := z_no) hY eL_law_4 (by rw [hg]; exact k_hall hG z_set_at) (by decide) (Nat.le_of_ble_eq_true rfl) (by omega) (fun _ _ z => False.elim z) (fun v h1 hv1 => ?_)
  obtain ⟨rfl, B, hJB, hBq, rfl⟩ := hv1
  refine z_astore (ls' := [(1, .ref q), (0, .ref b)]) hY eL_law_7 rfl ?_
  refine z_new hY eL_law_8 (by omega) (fun a ha => ?_)
  refine z_dup hY eL_law_11 rfl ?_
  refine z_callI (M' := mX8_init) (As := []) (rest := [.ref a]) (d1 := 0) (mc1 := 17) (ms1 := 8000) (ψ1 := z_no) hY eL_law_12 (by rw [hg]; exact m_init hG z_set_at) (by decide) (Nat.le_of_ble_eq_true rfl) (by omega) (fun _ _ z => False.elim z) (fun v h2 hv2 => ?_)
  obtain ⟨rfl, A, hA, rfl, rfl, hAn⟩ := hv2
  refine z_astore (ls' := [(2, .ref (A 40)), (1, .ref q), (0, .ref b)]) hY eL_law_15 rfl ?_
  refine z_const hY eL_law_16 ?_
  refine z_newL (N := 1) hY eL_law_17 (by omega) (by omega) (fun o1 ho1 => ?_)
  refine z_astore (ls' := [(3, .ref o1), (2, .ref (A 40)), (1, .ref q), (0, .ref b)]) hY eL_law_19 rfl ?_
  refine z_const hY eL_law_20 ?_
  refine z_newD (N := 1) hY eL_law_21 (by omega) (by omega) (fun o2 ho2 => ?_)
  refine z_astore (ls' := [(4, .ref o2), (3, .ref o1), (2, .ref (A 40)), (1, .ref q), (0, .ref b)]) hY eL_law_23 rfl ?_
  refine z_const hY eL_law_25 ?_
  refine z_istore (ls' := [(5, z_i 0), (4, .ref o2), (3, .ref o1), (2, .ref (A 40)), (1, .ref q), (0, .ref b)]) hY eL_law_26 rfl ?_
  refine z_sub [5, 4, 3, 2, 1, 0] rfl ?_
  have hal : ∀ t i, cL k0 t i → ∀ k ∈ mK, B t i ≠ A k := by
    intro t i hl k hk e
    have e1 := cH_at (D := z_dc G) (h := z_set (fun _ => none) q (z_ob 7 [.null, .null, .null, .null, z_i 0, .null, .null, .null, .null, z_i 0, .null, .null, .null])) hJB hl
    by_cases h40 : k = 40
    · subst h40
      rw [e, ha] at e1
      cases e1
    · have e2 := hAn k hk h40
      rw [z_set_ne (fun e3 => h40 (hA k hk 40 (by decide) e3)), ← e, e1] at e2
      cases e2
  obtain ⟨n2, ho2'⟩ := z_set_new ho2
  have hol : ∀ o, mH A yI1 (z_set (cH (z_dc G) B k0 (z_set (fun _ => none) q (z_ob 7 [.null, .null, .null, .null, z_i 0, .null, .null, .null, .null, z_i 0, .null, .null, .null]))) (A 40) (z_ob 8 [z_i 0, .null, z_i 0, z_i 0, z_i 0, z_i 0, z_i 0, z_i 0, .null, .null, .null, .null, z_i 0, z_i 0, .null, .null, .null, .null, .null, z_i 0, z_i 0, .null, .null, .null, .null, z_i 0, z_i 0, z_i 0, .null, .null, z_i 0, .null])) o = none → (∀ k ∈ mK, A k ≠ o) ∧ ∀ t i, cL k0 t i → B t i ≠ o := by
    intro o ho
    have n1 : ∀ k ∈ mK, A k ≠ o := fun k hk e => by
      rw [← e, mH_at hA hk] at ho
      cases ho
    refine ⟨n1, fun t i hl e => ?_⟩
    have e1 := cH_at (D := z_dc G) (h := z_set (fun _ => none) q (z_ob 7 [.null, .null, .null, .null, z_i 0, .null, .null, .null, .null, z_i 0, .null, .null, .null])) hJB hl
    rw [show mH A yI1 _ o = _ from mH_ne (σ := yI1) mK (fun j hj e3 => n1 j hj e3.symm), z_set_ne (fun e3 => n1 40 (by decide) e3.symm), ← e, e1] at ho
    cases ho
  have hl1 := hol o1 ho1
  have hl2 := hol o2 ho2'
  have hSS : lS G q A o1 o2 k0 yI1 (fun _ => 0) (fun _ => 0) (z_set (z_set (mH A yI1 (z_set (cH (z_dc G) B k0 (z_set (fun _ => none) q (z_ob 7 [.null, .null, .null, .null, z_i 0, .null, .null, .null, .null, z_i 0, .null, .null, .null]))) (A 40) (z_ob 8 [z_i 0, .null, z_i 0, z_i 0, z_i 0, z_i 0, z_i 0, z_i 0, .null, .null, .null, .null, z_i 0, z_i 0, .null, .null, .null, .null, .null, z_i 0, z_i 0, .null, .null, .null, .null, z_i 0, z_i 0, z_i 0, .null, .null, z_i 0, .null]))) o1 (z_la 1 (fun _ => 0))) o2 (z_da 1 (fun _ => 0))) := by
    rw [cH_out hJB (fun t i hl => hal t i hl 40 (by decide)), cH_mH hJB (fun k hk t i hl => hal t i hl k hk), cH_out hJB hl1.2, cH_out hJB hl2.2]
    refine ⟨B, _, rfl, hBq, ⟨hJB, hk0⟩, hA, fun k hk => ?_, ?_, z_set_at, ?_, fun k hk => ⟨hl1.1 k hk, hl2.1 k hk⟩, fun e => n2 e.symm, (by show lsR 0; unfold lsR; omega)⟩
    · rw [z_set_ne (hl2.1 k hk), z_set_ne (hl1.1 k hk)]
      exact mH_at hA hk
    · rw [z_set_ne (fun e => n2 e.symm)]
      exact z_set_at
    · rintro x (rfl | rfl | ⟨k, hk, rfl⟩) t i hl
      · exact hl1.2 t i hl
      · exact hl2.2 t i hl
      · exact hal t i hl k hk
  exact w_loop hY hg hX hL hφ hmono (hall q A o1 o2) 512 0 k0 yI1 _ _ _ _ _ (by omega) (by omega) (by omega) (by omega) hSS h0
end LLO
