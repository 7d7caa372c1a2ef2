set_option maxHeartbeats 4000000 in
set_option maxRecDepth 100000 in
/-- hasStory(x) -/
theorem met_X0_hasStory (l : Launch) (V : kEnv) (S : kCs) (b : Nat) (B : kBd) (hb : b < 12) (hn : B.2 0 ≤ 16) (x : Int32) : kI l yX0_hasStory cX0_hasStory 2 (some .boolean) { frames := 0, cells := 0, slots := 0, locals := 0 } V (cWs V) [.ref (eX V (8 * b)), .int (x)] (setB S b B) (fun r u => r = bz (inR (B.2 0) x) ∧ u = setB S b B) 0 0 := by
  refine kI_of (by decide) (Nat.le_of_ble_eq_true rfl) ?_
  intro p e s m args below meth c G hret hlocks hC hB h ls hl Q hQ
  have hl : lv_has ls 2 [(0, .ref (eX V (8 * b))), (1, .int (x))] := hl
  have hx := G.1
  have hcd := G.2.1
  refine lv_iload_n hx hcd dX0_hasStory_0 rfl (lv_at hl 1 rfl) ?_
  refine lv_if_lt (tgt := 22) hx hcd dX0_hasStory_1 (by decide) (fun c_1 => ?_) (fun c_1 => ?_)
  · have c_1 := cLt (rfl : (x : Int32).toInt = (x : Int32).toInt) t0 c_1
    refine lv_iconst (v := nI 0) hx hcd dX0_hasStory_22 (by decide) ?_
    exact k_retz hQ G hret hlocks h (Or.inl rfl) (⟨(bz_f (by unfold inR; simp only [decide_eq_true_eq, decide_eq_false_iff_not]; omega)).symm, rfl⟩) (Nat.le_of_ble_eq_true rfl) (Nat.le_of_ble_eq_true rfl) dX0_hasStory_23
  · have c_1 := cNlt (rfl : (x : Int32).toInt = (x : Int32).toInt) t0 c_1
    refine lv_iload_n hx hcd dX0_hasStory_4 rfl (lv_at hl 1 rfl) ?_
    refine lv_aload_n hx hcd dX0_hasStory_5 rfl (lv_at hl 0 rfl) ?_
    refine r_bS G hC h b 0 hb (by decide) (setB_at _ _ _) mw_111 (x := nI (B.2 0)) rfl dX0_hasStory_6 ?_
    refine lv_icmp_ge (tgt := 22) hx hcd dX0_hasStory_9 (by decide) (fun c_3 => ?_) (fun c_3 => ?_)
    · have c_3 := cLe (tN (n := B.2 0) (by omega)) (rfl : (x : Int32).toInt = (x : Int32).toInt) c_3
      refine lv_iconst (v := nI 0) hx hcd dX0_hasStory_22 (by decide) ?_
      exact k_retz hQ G hret hlocks h (Or.inl rfl) (⟨(bz_f (by unfold inR; simp only [decide_eq_true_eq, decide_eq_false_iff_not]; omega)).symm, rfl⟩) (Nat.le_of_ble_eq_true rfl) (Nat.le_of_ble_eq_true rfl) dX0_hasStory_23
    · have c_3 := cNle (tN (n := B.2 0) (by omega)) (rfl : (x : Int32).toInt = (x : Int32).toInt) c_3
      refine lv_iload_n hx hcd dX0_hasStory_12 rfl (lv_at hl 1 rfl) ?_
      refine lv_bipush (v := nI 16) hx hcd dX0_hasStory_13 (by decide) ?_
      refine lv_icmp_ge (tgt := 22) hx hcd dX0_hasStory_15 (by decide) (fun c_4 => ?_) (fun c_4 => ?_)
      · have c_4 := cLe (tN (n := 16) (by decide)) (rfl : (x : Int32).toInt = (x : Int32).toInt) c_4
        refine lv_iconst (v := nI 0) hx hcd dX0_hasStory_22 (by decide) ?_
        exact k_retz hQ G hret hlocks h (Or.inl rfl) (⟨(bz_f (by unfold inR; simp only [decide_eq_true_eq, decide_eq_false_iff_not]; omega)).symm, rfl⟩) (Nat.le_of_ble_eq_true rfl) (Nat.le_of_ble_eq_true rfl) dX0_hasStory_23
      · have c_4 := cNle (tN (n := 16) (by decide)) (rfl : (x : Int32).toInt = (x : Int32).toInt) c_4
        refine lv_iconst (v := nI 1) hx hcd dX0_hasStory_18 (by decide) ?_
        refine lv_goto (tgt := 23) hx hcd dX0_hasStory_19 (by decide) ?_
        exact k_retz hQ G hret hlocks h (Or.inr rfl) (⟨(bz_t (by unfold inR; simp only [decide_eq_true_eq, decide_eq_false_iff_not]; omega)).symm, rfl⟩) (Nat.le_of_ble_eq_true rfl) (Nat.le_of_ble_eq_true rfl) dX0_hasStory_23
set_option maxHeartbeats 4000000 in
set_option maxRecDepth 100000 in
/-- hasDeveloper(x) -/
theorem met_X0_hasDeveloper (l : Launch) (V : kEnv) (S : kCs) (b : Nat) (B : kBd) (hb : b < 12) (hn : B.2 1 ≤ 4) (x : Int32) : kI l yX0_hasDeveloper cX0_hasDeveloper 2 (some .boolean) { frames := 0, cells := 0, slots := 0, locals := 0 } V (cWs V) [.ref (eX V (8 * b)), .int (x)] (setB S b B) (fun r u => r = bz (inR (B.2 1) x) ∧ u = setB S b B) 0 0 := by
  refine kI_of (by decide) (Nat.le_of_ble_eq_true rfl) ?_
  intro p e s m args below meth c G hret hlocks hC hB h ls hl Q hQ
  have hl : lv_has ls 2 [(0, .ref (eX V (8 * b))), (1, .int (x))] := hl
  have hx := G.1
  have hcd := G.2.1
  refine lv_iload_n hx hcd dX0_hasDeveloper_0 rfl (lv_at hl 1 rfl) ?_
  refine lv_if_lt (tgt := 21) hx hcd dX0_hasDeveloper_1 (by decide) (fun c_1 => ?_) (fun c_1 => ?_)
  · have c_1 := cLt (rfl : (x : Int32).toInt = (x : Int32).toInt) t0 c_1
    refine lv_iconst (v := nI 0) hx hcd dX0_hasDeveloper_21 (by decide) ?_
    exact k_retz hQ G hret hlocks h (Or.inl rfl) (⟨(bz_f (by unfold inR; simp only [decide_eq_true_eq, decide_eq_false_iff_not]; omega)).symm, rfl⟩) (Nat.le_of_ble_eq_true rfl) (Nat.le_of_ble_eq_true rfl) dX0_hasDeveloper_22
  · have c_1 := cNlt (rfl : (x : Int32).toInt = (x : Int32).toInt) t0 c_1
    refine lv_iload_n hx hcd dX0_hasDeveloper_4 rfl (lv_at hl 1 rfl) ?_
    refine lv_aload_n hx hcd dX0_hasDeveloper_5 rfl (lv_at hl 0 rfl) ?_
    refine r_bS G hC h b 1 hb (by decide) (setB_at _ _ _) mw_113 (x := nI (B.2 1)) rfl dX0_hasDeveloper_6 ?_
    refine lv_icmp_ge (tgt := 21) hx hcd dX0_hasDeveloper_9 (by decide) (fun c_3 => ?_) (fun c_3 => ?_)
    · have c_3 := cLe (tN (n := B.2 1) (by omega)) (rfl : (x : Int32).toInt = (x : Int32).toInt) c_3
      refine lv_iconst (v := nI 0) hx hcd dX0_hasDeveloper_21 (by decide) ?_
      exact k_retz hQ G hret hlocks h (Or.inl rfl) (⟨(bz_f (by unfold inR; simp only [decide_eq_true_eq, decide_eq_false_iff_not]; omega)).symm, rfl⟩) (Nat.le_of_ble_eq_true rfl) (Nat.le_of_ble_eq_true rfl) dX0_hasDeveloper_22
    · have c_3 := cNle (tN (n := B.2 1) (by omega)) (rfl : (x : Int32).toInt = (x : Int32).toInt) c_3
      refine lv_iload_n hx hcd dX0_hasDeveloper_12 rfl (lv_at hl 1 rfl) ?_
      refine lv_iconst (v := nI 4) hx hcd dX0_hasDeveloper_13 (by decide) ?_
      refine lv_icmp_ge (tgt := 21) hx hcd dX0_hasDeveloper_14 (by decide) (fun c_4 => ?_) (fun c_4 => ?_)
      · have c_4 := cLe (tN (n := 4) (by decide)) (rfl : (x : Int32).toInt = (x : Int32).toInt) c_4
        refine lv_iconst (v := nI 0) hx hcd dX0_hasDeveloper_21 (by decide) ?_
        exact k_retz hQ G hret hlocks h (Or.inl rfl) (⟨(bz_f (by unfold inR; simp only [decide_eq_true_eq, decide_eq_false_iff_not]; omega)).symm, rfl⟩) (Nat.le_of_ble_eq_true rfl) (Nat.le_of_ble_eq_true rfl) dX0_hasDeveloper_22
      · have c_4 := cNle (tN (n := 4) (by decide)) (rfl : (x : Int32).toInt = (x : Int32).toInt) c_4
        refine lv_iconst (v := nI 1) hx hcd dX0_hasDeveloper_17 (by decide) ?_
        refine lv_goto (tgt := 22) hx hcd dX0_hasDeveloper_18 (by decide) ?_
        exact k_retz hQ G hret hlocks h (Or.inr rfl) (⟨(bz_t (by unfold inR; simp only [decide_eq_true_eq, decide_eq_false_iff_not]; omega)).symm, rfl⟩) (Nat.le_of_ble_eq_true rfl) (Nat.le_of_ble_eq_true rfl) dX0_hasDeveloper_22
set_option maxHeartbeats 4000000 in
set_option maxRecDepth 100000 in
/-- isSpeed(x) -/
theorem met_X0_isSpeed (l : Launch) (V : kEnv) (S : kCs) (b : Nat) (B : kBd) (hb : b < 12) (x : Int32) : kI l yX0_isSpeed cX0_isSpeed 1 (some .boolean) { frames := 0, cells := 0, slots := 0, locals := 0 } V (cWs V) [.int (x)] (setB S b B) (fun r u => r = bz (decide (1 ≤ x.toInt ∧ x.toInt ≤ 4)) ∧ u = setB S b B) 0 0 := by
  refine kI_of (by decide) (Nat.le_of_ble_eq_true rfl) ?_
  intro p e s m args below meth c G hret hlocks hC hB h ls hl Q hQ
  have hl : lv_has ls 1 [(0, .int (x))] := hl
  have hx := G.1
  have hcd := G.2.1
  refine lv_iload_n hx hcd dX0_isSpeed_0 rfl (lv_at hl 0 rfl) ?_
  refine lv_iconst (v := nI 1) hx hcd dX0_isSpeed_1 (by decide) ?_
  refine lv_icmp_lt (tgt := 14) hx hcd dX0_isSpeed_2 (by decide) (fun c_1 => ?_) (fun c_1 => ?_)
  · have c_1 := cLt (rfl : (x : Int32).toInt = (x : Int32).toInt) (tN (n := 1) (by decide)) c_1
    refine lv_iconst (v := nI 0) hx hcd dX0_isSpeed_14 (by decide) ?_
    exact k_retz hQ G hret hlocks h (Or.inl rfl) (⟨(bz_f (by simp only [decide_eq_true_eq, decide_eq_false_iff_not]; omega)).symm, rfl⟩) (Nat.le_of_ble_eq_true rfl) (Nat.le_of_ble_eq_true rfl) dX0_isSpeed_15
  · have c_1 := cNlt (rfl : (x : Int32).toInt = (x : Int32).toInt) (tN (n := 1) (by decide)) c_1
    refine lv_iload_n hx hcd dX0_isSpeed_5 rfl (lv_at hl 0 rfl) ?_
    refine lv_iconst (v := nI 4) hx hcd dX0_isSpeed_6 (by decide) ?_
    refine lv_icmp_gt (tgt := 14) hx hcd dX0_isSpeed_7 (by decide) (fun c_2 => ?_) (fun c_2 => ?_)
    · have c_2 := cLt (tN (n := 4) (by decide)) (rfl : (x : Int32).toInt = (x : Int32).toInt) c_2
      refine lv_iconst (v := nI 0) hx hcd dX0_isSpeed_14 (by decide) ?_
      exact k_retz hQ G hret hlocks h (Or.inl rfl) (⟨(bz_f (by simp only [decide_eq_true_eq, decide_eq_false_iff_not]; omega)).symm, rfl⟩) (Nat.le_of_ble_eq_true rfl) (Nat.le_of_ble_eq_true rfl) dX0_isSpeed_15
    · have c_2 := cNlt (tN (n := 4) (by decide)) (rfl : (x : Int32).toInt = (x : Int32).toInt) c_2
      refine lv_iconst (v := nI 1) hx hcd dX0_isSpeed_10 (by decide) ?_
      refine lv_goto (tgt := 15) hx hcd dX0_isSpeed_11 (by decide) ?_
      exact k_retz hQ G hret hlocks h (Or.inr rfl) (⟨(bz_t (by simp only [decide_eq_true_eq, decide_eq_false_iff_not]; omega)).symm, rfl⟩) (Nat.le_of_ble_eq_true rfl) (Nat.le_of_ble_eq_true rfl) dX0_isSpeed_15
set_option maxHeartbeats 4000000 in
set_option maxRecDepth 100000 in
/-- isSprintLength(x) -/
theorem met_X0_isSprintLength (l : Launch) (V : kEnv) (S : kCs) (b : Nat) (B : kBd) (hb : b < 12) (x : Int32) : kI l yX0_isSprintLength cX0_isSprintLength 1 (some .boolean) { frames := 0, cells := 0, slots := 0, locals := 0 } V (cWs V) [.int (x)] (setB S b B) (fun r u => r = bz (decide (1 ≤ x.toInt ∧ x.toInt ≤ 10)) ∧ u = setB S b B) 0 0 := by
  refine kI_of (by decide) (Nat.le_of_ble_eq_true rfl) ?_
  intro p e s m args below meth c G hret hlocks hC hB h ls hl Q hQ
  have hl : lv_has ls 1 [(0, .int (x))] := hl
  have hx := G.1
  have hcd := G.2.1
  refine lv_iload_n hx hcd dX0_isSprintLength_0 rfl (lv_at hl 0 rfl) ?_
  refine lv_iconst (v := nI 1) hx hcd dX0_isSprintLength_1 (by decide) ?_
  refine lv_icmp_lt (tgt := 15) hx hcd dX0_isSprintLength_2 (by decide) (fun c_1 => ?_) (fun c_1 => ?_)
  · have c_1 := cLt (rfl : (x : Int32).toInt = (x : Int32).toInt) (tN (n := 1) (by decide)) c_1
    refine lv_iconst (v := nI 0) hx hcd dX0_isSprintLength_15 (by decide) ?_
    exact k_retz hQ G hret hlocks h (Or.inl rfl) (⟨(bz_f (by simp only [decide_eq_true_eq, decide_eq_false_iff_not]; omega)).symm, rfl⟩) (Nat.le_of_ble_eq_true rfl) (Nat.le_of_ble_eq_true rfl) dX0_isSprintLength_16
  · have c_1 := cNlt (rfl : (x : Int32).toInt = (x : Int32).toInt) (tN (n := 1) (by decide)) c_1
    refine lv_iload_n hx hcd dX0_isSprintLength_5 rfl (lv_at hl 0 rfl) ?_
    refine lv_bipush (v := nI 10) hx hcd dX0_isSprintLength_6 (by decide) ?_
    refine lv_icmp_gt (tgt := 15) hx hcd dX0_isSprintLength_8 (by decide) (fun c_2 => ?_) (fun c_2 => ?_)
    · have c_2 := cLt (tN (n := 10) (by decide)) (rfl : (x : Int32).toInt = (x : Int32).toInt) c_2
      refine lv_iconst (v := nI 0) hx hcd dX0_isSprintLength_15 (by decide) ?_
      exact k_retz hQ G hret hlocks h (Or.inl rfl) (⟨(bz_f (by simp only [decide_eq_true_eq, decide_eq_false_iff_not]; omega)).symm, rfl⟩) (Nat.le_of_ble_eq_true rfl) (Nat.le_of_ble_eq_true rfl) dX0_isSprintLength_16
    · have c_2 := cNlt (tN (n := 10) (by decide)) (rfl : (x : Int32).toInt = (x : Int32).toInt) c_2
      refine lv_iconst (v := nI 1) hx hcd dX0_isSprintLength_11 (by decide) ?_
      refine lv_goto (tgt := 16) hx hcd dX0_isSprintLength_12 (by decide) ?_
      exact k_retz hQ G hret hlocks h (Or.inr rfl) (⟨(bz_t (by simp only [decide_eq_true_eq, decide_eq_false_iff_not]; omega)).symm, rfl⟩) (Nat.le_of_ble_eq_true rfl) (Nat.le_of_ble_eq_true rfl) dX0_isSprintLength_16
