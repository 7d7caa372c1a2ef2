theorem kv_X0_hasStory : kV yX0_hasStory cX0_hasStory 2 (some .boolean) 1 := ⟨mw_714, mw_715, mw_57, mw_716, by decide, by decide, by decide +kernel⟩
theorem ks_X0_isEstimate : kSt yX0_isEstimate cX0_isEstimate 5 (some .boolean) 1 := ⟨mw_789, mw_57, mw_790, by decide, by decide, by decide +kernel⟩
theorem ks_X3_holds : kSt yX3_holds cX3_holds 2 (some .boolean) 2 := ⟨mw_305, mw_56, mw_306, by decide, by decide, by decide +kernel⟩
set_option maxHeartbeats 4000000 in
set_option maxRecDepth 100000 in
/-- hasStory(x) -/
theorem met_X0_hasStory (l : Launch) (V : kEnv) (S : kCs) (b : Nat) (B : kBd) (hb : b < 12) (hn : B.2 0 ≤ 16) (x : Int32) : kI l yX0_hasStory cX0_hasStory 2 (some .boolean) { frames := 0, cells := 0, slots := 0, locals := 0 } V (cWs V) [.ref (eX V (8 * b)), .int (x)] (setB S b B) (fun r u => r = bz (inR (B.2 0) x) ∧ u = setB S b B) 0 0 := by
  refine kI_of (by decide +kernel) (Nat.le_of_ble_eq_true rfl) ?_
  intro p e s m args below meth c G hret hlocks hC hB h ls hl Q hQ
  have hl : lv_has ls 2 [(0, .ref (eX V (8 * b))), (1, .int (x))] := hl
  have hx := G.1
  have hcd := G.2.1
  refine lv_iload_n hx hcd dX0_hasStory_0 rfl (lv_at hl 1 rfl) ?_
  refine lv_if_lt (tgt := 22) hx hcd dX0_hasStory_1 (by decide) (fun c_1 => ?_) (fun c_1 => ?_)
  · have c_1 := cLt (rfl : (x : Int32).toInt = (x : Int32).toInt) t0 c_1
    refine lv_iconst (v := nI 0) hx hcd dX0_hasStory_22 (by decide) ?_
    exact k_retz hQ G hret hlocks h (Or.inl rfl) (⟨(bz_f (by first | assumption | exact decide_eq_false (by omega))).symm, rfl⟩) (Nat.le_of_ble_eq_true rfl) (Nat.le_of_ble_eq_true rfl) dX0_hasStory_23
  · have c_1 := cNlt (rfl : (x : Int32).toInt = (x : Int32).toInt) t0 c_1
    refine lv_iload_n hx hcd dX0_hasStory_4 rfl (lv_at hl 1 rfl) ?_
    refine lv_aload_n hx hcd dX0_hasStory_5 rfl (lv_at hl 0 rfl) ?_
    refine r_bS G hC h b 0 hb (by decide) (setB_at _ _ _) mw_111 (x := nI (B.2 0)) rfl dX0_hasStory_6 ?_
    refine lv_icmp_ge (tgt := 22) hx hcd dX0_hasStory_9 (by decide) (fun c_3 => ?_) (fun c_3 => ?_)
    · have c_3 := cLe (tN (n := B.2 0) (by omega)) (rfl : (x : Int32).toInt = (x : Int32).toInt) c_3
      refine lv_iconst (v := nI 0) hx hcd dX0_hasStory_22 (by decide) ?_
      exact k_retz hQ G hret hlocks h (Or.inl rfl) (⟨(bz_f (by first | assumption | exact decide_eq_false (by omega))).symm, rfl⟩) (Nat.le_of_ble_eq_true rfl) (Nat.le_of_ble_eq_true rfl) dX0_hasStory_23
    · have c_3 := cNle (tN (n := B.2 0) (by omega)) (rfl : (x : Int32).toInt = (x : Int32).toInt) c_3
      refine lv_iload_n hx hcd dX0_hasStory_12 rfl (lv_at hl 1 rfl) ?_
      refine lv_bipush (v := nI 16) hx hcd dX0_hasStory_13 (by decide) ?_
      refine lv_icmp_ge (tgt := 22) hx hcd dX0_hasStory_15 (by decide) (fun c_4 => ?_) (fun c_4 => ?_)
      · have c_4 := cLe (tN (n := 16) (by decide)) (rfl : (x : Int32).toInt = (x : Int32).toInt) c_4
        refine lv_iconst (v := nI 0) hx hcd dX0_hasStory_22 (by decide) ?_
        exact k_retz hQ G hret hlocks h (Or.inl rfl) (⟨(bz_f (by first | assumption | exact decide_eq_false (by omega))).symm, rfl⟩) (Nat.le_of_ble_eq_true rfl) (Nat.le_of_ble_eq_true rfl) dX0_hasStory_23
      · have c_4 := cNle (tN (n := 16) (by decide)) (rfl : (x : Int32).toInt = (x : Int32).toInt) c_4
        refine lv_iconst (v := nI 1) hx hcd dX0_hasStory_18 (by decide) ?_
        refine lv_goto (tgt := 23) hx hcd dX0_hasStory_19 (by decide) ?_
        exact k_retz hQ G hret hlocks h (Or.inr rfl) (⟨(bz_t (by first | assumption | exact decide_eq_true (by omega))).symm, rfl⟩) (Nat.le_of_ble_eq_true rfl) (Nat.le_of_ble_eq_true rfl) dX0_hasStory_23
theorem met_X0_hasStoryN (l : Launch) (V : kEnv) (S : kCs) (b : Nat) (B : kBd) (hb : b < 12) (hn : B.2 0 ≤ 16) (j : Nat) (hj : j < 2147483648) : kI l yX0_hasStory cX0_hasStory 2 (some .boolean) { frames := 0, cells := 0, slots := 0, locals := 0 } V (cWs V) [.ref (eX V (8 * b)), .int (nI j)] (setB S b B) (fun r u => r = bz (decide (j < B.2 0)) ∧ u = setB S b B) 0 0 := by
  have := met_X0_hasStory l V S b B hb hn (nI j)
  rwa [inR_nI hj] at this
set_option maxHeartbeats 4000000 in
set_option maxRecDepth 100000 in
/-- hasDeveloper(x) -/
theorem met_X0_hasDeveloper (l : Launch) (V : kEnv) (S : kCs) (b : Nat) (B : kBd) (hb : b < 12) (hm : B.2 1 ≤ 4) (x : Int32) : kI l yX0_hasDeveloper cX0_hasDeveloper 2 (some .boolean) { frames := 0, cells := 0, slots := 0, locals := 0 } V (cWs V) [.ref (eX V (8 * b)), .int (x)] (setB S b B) (fun r u => r = bz (inR (B.2 1) x) ∧ u = setB S b B) 0 0 := by
  refine kI_of (by decide +kernel) (Nat.le_of_ble_eq_true rfl) ?_
  intro p e s m args below meth c G hret hlocks hC hB h ls hl Q hQ
  have hl : lv_has ls 2 [(0, .ref (eX V (8 * b))), (1, .int (x))] := hl
  have hx := G.1
  have hcd := G.2.1
  refine lv_iload_n hx hcd dX0_hasDeveloper_0 rfl (lv_at hl 1 rfl) ?_
  refine lv_if_lt (tgt := 21) hx hcd dX0_hasDeveloper_1 (by decide) (fun c_1 => ?_) (fun c_1 => ?_)
  · have c_1 := cLt (rfl : (x : Int32).toInt = (x : Int32).toInt) t0 c_1
    refine lv_iconst (v := nI 0) hx hcd dX0_hasDeveloper_21 (by decide) ?_
    exact k_retz hQ G hret hlocks h (Or.inl rfl) (⟨(bz_f (by first | assumption | exact decide_eq_false (by omega))).symm, rfl⟩) (Nat.le_of_ble_eq_true rfl) (Nat.le_of_ble_eq_true rfl) dX0_hasDeveloper_22
  · have c_1 := cNlt (rfl : (x : Int32).toInt = (x : Int32).toInt) t0 c_1
    refine lv_iload_n hx hcd dX0_hasDeveloper_4 rfl (lv_at hl 1 rfl) ?_
    refine lv_aload_n hx hcd dX0_hasDeveloper_5 rfl (lv_at hl 0 rfl) ?_
    refine r_bS G hC h b 1 hb (by decide) (setB_at _ _ _) mw_113 (x := nI (B.2 1)) rfl dX0_hasDeveloper_6 ?_
    refine lv_icmp_ge (tgt := 21) hx hcd dX0_hasDeveloper_9 (by decide) (fun c_3 => ?_) (fun c_3 => ?_)
    · have c_3 := cLe (tN (n := B.2 1) (by omega)) (rfl : (x : Int32).toInt = (x : Int32).toInt) c_3
      refine lv_iconst (v := nI 0) hx hcd dX0_hasDeveloper_21 (by decide) ?_
      exact k_retz hQ G hret hlocks h (Or.inl rfl) (⟨(bz_f (by first | assumption | exact decide_eq_false (by omega))).symm, rfl⟩) (Nat.le_of_ble_eq_true rfl) (Nat.le_of_ble_eq_true rfl) dX0_hasDeveloper_22
    · have c_3 := cNle (tN (n := B.2 1) (by omega)) (rfl : (x : Int32).toInt = (x : Int32).toInt) c_3
      refine lv_iload_n hx hcd dX0_hasDeveloper_12 rfl (lv_at hl 1 rfl) ?_
      refine lv_iconst (v := nI 4) hx hcd dX0_hasDeveloper_13 (by decide) ?_
      refine lv_icmp_ge (tgt := 21) hx hcd dX0_hasDeveloper_14 (by decide) (fun c_4 => ?_) (fun c_4 => ?_)
      · have c_4 := cLe (tN (n := 4) (by decide)) (rfl : (x : Int32).toInt = (x : Int32).toInt) c_4
        refine lv_iconst (v := nI 0) hx hcd dX0_hasDeveloper_21 (by decide) ?_
        exact k_retz hQ G hret hlocks h (Or.inl rfl) (⟨(bz_f (by first | assumption | exact decide_eq_false (by omega))).symm, rfl⟩) (Nat.le_of_ble_eq_true rfl) (Nat.le_of_ble_eq_true rfl) dX0_hasDeveloper_22
      · have c_4 := cNle (tN (n := 4) (by decide)) (rfl : (x : Int32).toInt = (x : Int32).toInt) c_4
        refine lv_iconst (v := nI 1) hx hcd dX0_hasDeveloper_17 (by decide) ?_
        refine lv_goto (tgt := 22) hx hcd dX0_hasDeveloper_18 (by decide) ?_
        exact k_retz hQ G hret hlocks h (Or.inr rfl) (⟨(bz_t (by first | assumption | exact decide_eq_true (by omega))).symm, rfl⟩) (Nat.le_of_ble_eq_true rfl) (Nat.le_of_ble_eq_true rfl) dX0_hasDeveloper_22
theorem met_X0_hasDeveloperN (l : Launch) (V : kEnv) (S : kCs) (b : Nat) (B : kBd) (hb : b < 12) (hm : B.2 1 ≤ 4) (j : Nat) (hj : j < 2147483648) : kI l yX0_hasDeveloper cX0_hasDeveloper 2 (some .boolean) { frames := 0, cells := 0, slots := 0, locals := 0 } V (cWs V) [.ref (eX V (8 * b)), .int (nI j)] (setB S b B) (fun r u => r = bz (decide (j < B.2 1)) ∧ u = setB S b B) 0 0 := by
  have := met_X0_hasDeveloper l V S b B hb hm (nI j)
  rwa [inR_nI hj] at this
set_option maxHeartbeats 4000000 in
set_option maxRecDepth 100000 in
/-- isSpeed(x) -/
theorem met_X0_isSpeed (l : Launch) (V : kEnv) (S : kCs) (x : Int32) : kI l yX0_isSpeed cX0_isSpeed 1 (some .boolean) { frames := 0, cells := 0, slots := 0, locals := 0 } V (cWs V) [.int (x)] (S) (fun r u => r = bz (decide (1 ≤ x.toInt ∧ x.toInt ≤ 4)) ∧ u = S) 0 0 := by
  refine kI_of (by decide +kernel) (Nat.le_of_ble_eq_true rfl) ?_
  intro p e s m args below meth c G hret hlocks hC hB h ls hl Q hQ
  have hl : lv_has ls 1 [(0, .int (x))] := hl
  have hx := G.1
  have hcd := G.2.1
  refine lv_iload_n hx hcd dX0_isSpeed_0 rfl (lv_at hl 0 rfl) ?_
  refine lv_iconst (v := nI 1) hx hcd dX0_isSpeed_1 (by decide) ?_
  refine lv_icmp_lt (tgt := 14) hx hcd dX0_isSpeed_2 (by decide) (fun c_1 => ?_) (fun c_1 => ?_)
  · have c_1 := cLt (rfl : (x : Int32).toInt = (x : Int32).toInt) (tN (n := 1) (by decide)) c_1
    refine lv_iconst (v := nI 0) hx hcd dX0_isSpeed_14 (by decide) ?_
    exact k_retz hQ G hret hlocks h (Or.inl rfl) (⟨(bz_f (by first | assumption | exact decide_eq_false (by omega))).symm, rfl⟩) (Nat.le_of_ble_eq_true rfl) (Nat.le_of_ble_eq_true rfl) dX0_isSpeed_15
  · have c_1 := cNlt (rfl : (x : Int32).toInt = (x : Int32).toInt) (tN (n := 1) (by decide)) c_1
    refine lv_iload_n hx hcd dX0_isSpeed_5 rfl (lv_at hl 0 rfl) ?_
    refine lv_iconst (v := nI 4) hx hcd dX0_isSpeed_6 (by decide) ?_
    refine lv_icmp_gt (tgt := 14) hx hcd dX0_isSpeed_7 (by decide) (fun c_2 => ?_) (fun c_2 => ?_)
    · have c_2 := cLt (tN (n := 4) (by decide)) (rfl : (x : Int32).toInt = (x : Int32).toInt) c_2
      refine lv_iconst (v := nI 0) hx hcd dX0_isSpeed_14 (by decide) ?_
      exact k_retz hQ G hret hlocks h (Or.inl rfl) (⟨(bz_f (by first | assumption | exact decide_eq_false (by omega))).symm, rfl⟩) (Nat.le_of_ble_eq_true rfl) (Nat.le_of_ble_eq_true rfl) dX0_isSpeed_15
    · have c_2 := cNlt (tN (n := 4) (by decide)) (rfl : (x : Int32).toInt = (x : Int32).toInt) c_2
      refine lv_iconst (v := nI 1) hx hcd dX0_isSpeed_10 (by decide) ?_
      refine lv_goto (tgt := 15) hx hcd dX0_isSpeed_11 (by decide) ?_
      exact k_retz hQ G hret hlocks h (Or.inr rfl) (⟨(bz_t (by first | assumption | exact decide_eq_true (by omega))).symm, rfl⟩) (Nat.le_of_ble_eq_true rfl) (Nat.le_of_ble_eq_true rfl) dX0_isSpeed_15
set_option maxHeartbeats 4000000 in
set_option maxRecDepth 100000 in
/-- isSprintLength(x) -/
theorem met_X0_isSprintLength (l : Launch) (V : kEnv) (S : kCs) (x : Int32) : kI l yX0_isSprintLength cX0_isSprintLength 1 (some .boolean) { frames := 0, cells := 0, slots := 0, locals := 0 } V (cWs V) [.int (x)] (S) (fun r u => r = bz (decide (1 ≤ x.toInt ∧ x.toInt ≤ 10)) ∧ u = S) 0 0 := by
  refine kI_of (by decide +kernel) (Nat.le_of_ble_eq_true rfl) ?_
  intro p e s m args below meth c G hret hlocks hC hB h ls hl Q hQ
  have hl : lv_has ls 1 [(0, .int (x))] := hl
  have hx := G.1
  have hcd := G.2.1
  refine lv_iload_n hx hcd dX0_isSprintLength_0 rfl (lv_at hl 0 rfl) ?_
  refine lv_iconst (v := nI 1) hx hcd dX0_isSprintLength_1 (by decide) ?_
  refine lv_icmp_lt (tgt := 15) hx hcd dX0_isSprintLength_2 (by decide) (fun c_1 => ?_) (fun c_1 => ?_)
  · have c_1 := cLt (rfl : (x : Int32).toInt = (x : Int32).toInt) (tN (n := 1) (by decide)) c_1
    refine lv_iconst (v := nI 0) hx hcd dX0_isSprintLength_15 (by decide) ?_
    exact k_retz hQ G hret hlocks h (Or.inl rfl) (⟨(bz_f (by first | assumption | exact decide_eq_false (by omega))).symm, rfl⟩) (Nat.le_of_ble_eq_true rfl) (Nat.le_of_ble_eq_true rfl) dX0_isSprintLength_16
  · have c_1 := cNlt (rfl : (x : Int32).toInt = (x : Int32).toInt) (tN (n := 1) (by decide)) c_1
    refine lv_iload_n hx hcd dX0_isSprintLength_5 rfl (lv_at hl 0 rfl) ?_
    refine lv_bipush (v := nI 10) hx hcd dX0_isSprintLength_6 (by decide) ?_
    refine lv_icmp_gt (tgt := 15) hx hcd dX0_isSprintLength_8 (by decide) (fun c_2 => ?_) (fun c_2 => ?_)
    · have c_2 := cLt (tN (n := 10) (by decide)) (rfl : (x : Int32).toInt = (x : Int32).toInt) c_2
      refine lv_iconst (v := nI 0) hx hcd dX0_isSprintLength_15 (by decide) ?_
      exact k_retz hQ G hret hlocks h (Or.inl rfl) (⟨(bz_f (by first | assumption | exact decide_eq_false (by omega))).symm, rfl⟩) (Nat.le_of_ble_eq_true rfl) (Nat.le_of_ble_eq_true rfl) dX0_isSprintLength_16
    · have c_2 := cNlt (tN (n := 10) (by decide)) (rfl : (x : Int32).toInt = (x : Int32).toInt) c_2
      refine lv_iconst (v := nI 1) hx hcd dX0_isSprintLength_11 (by decide) ?_
      refine lv_goto (tgt := 16) hx hcd dX0_isSprintLength_12 (by decide) ?_
      exact k_retz hQ G hret hlocks h (Or.inr rfl) (⟨(bz_t (by first | assumption | exact decide_eq_true (by omega))).symm, rfl⟩) (Nat.le_of_ble_eq_true rfl) (Nat.le_of_ble_eq_true rfl) dX0_isSprintLength_16
set_option maxHeartbeats 4000000 in
set_option maxRecDepth 100000 in
/-- holds(set, j) -/
theorem met_X3_holds (l : Launch) (V : kEnv) (S : kCs) (q j : Nat) (hq : q < 2147483648) (hj : j < 31) : kI l yX3_holds cX3_holds 2 (some .boolean) { frames := 0, cells := 0, slots := 0, locals := 0 } V (cWs V) [.int (nI (q)), .int (nI (j))] (S) (fun r u => r = bz (q.testBit j) ∧ u = S) 0 0 := by
  refine kI_of (by decide +kernel) (Nat.le_of_ble_eq_true rfl) ?_
  intro p e s m args below meth c G hret hlocks hC hB h ls hl Q hQ
  have hl : lv_has ls 2 [(0, .int (nI (q))), (1, .int (nI (j)))] := hl
  have hx := G.1
  have hcd := G.2.1
  refine lv_iload_n hx hcd dX3_holds_0 rfl (lv_at hl 0 rfl) ?_
  refine lv_iload_n hx hcd dX3_holds_1 rfl (lv_at hl 1 rfl) ?_
  refine lv_iushr (v := nI (q / 2 ^ j)) hx hcd dX3_holds_2 (n_ushr (by omega) (by omega)) ?_
  refine lv_iconst (v := nI 1) hx hcd dX3_holds_3 (by decide) ?_
  refine w_iand (v := nI ((q / 2 ^ j) % 2)) hx hcd dX3_holds_4 (n_and1' _) ?_
  refine lv_if_eq (tgt := 12) hx hcd dX3_holds_5 (by decide) (fun c_3 => ?_) (fun c_3 => ?_)
  · have c_3 := cEq (tN (n := (q / 2 ^ j) % 2) (by omega)) t0 c_3
    refine lv_iconst (v := nI 0) hx hcd dX3_holds_12 (by decide) ?_
    exact k_retz hQ G hret hlocks h (Or.inl rfl) (⟨(bz_f (tb_f (by assumption))).symm, rfl⟩) (Nat.le_of_ble_eq_true rfl) (Nat.le_of_ble_eq_true rfl) dX3_holds_13
  · have c_3 := cNe (tN (n := (q / 2 ^ j) % 2) (by omega)) t0 c_3
    refine lv_iconst (v := nI 1) hx hcd dX3_holds_8 (by decide) ?_
    refine lv_goto (tgt := 13) hx hcd dX3_holds_9 (by decide) ?_
    exact k_retz hQ G hret hlocks h (Or.inr rfl) (⟨(bz_t (tb_t (by assumption))).symm, rfl⟩) (Nat.le_of_ble_eq_true rfl) (Nat.le_of_ble_eq_true rfl) dX3_holds_13
set_option maxHeartbeats 4000000 in
set_option maxRecDepth 100000 in
/-- setOf(j) -/
theorem met_X3_setOf (l : Launch) (V : kEnv) (S : kCs) (j : Nat) (hj : j < 31) : kI l yX3_setOf cX3_setOf 1 (some .int) { frames := 0, cells := 0, slots := 0, locals := 0 } V (cWs V) [.int (nI (j))] (S) (fun r u => r = nI (2 ^ j) ∧ u = S) 0 0 := by
  refine kI_of (by decide +kernel) (Nat.le_of_ble_eq_true rfl) ?_
  intro p e s m args below meth c G hret hlocks hC hB h ls hl Q hQ
  have hl : lv_has ls 1 [(0, .int (nI (j)))] := hl
  have hx := G.1
  have hcd := G.2.1
  refine lv_iconst (v := nI 1) hx hcd dX3_setOf_0 (by decide) ?_
  refine lv_iload_n hx hcd dX3_setOf_1 rfl (lv_at hl 0 rfl) ?_
  refine w_ishl (v := nI (2 ^ j)) hx hcd dX3_setOf_2 (n_shl1 (by omega)) ?_
  exact k_reti hQ G hret hlocks h (⟨rfl, rfl⟩) (Nat.le_of_ble_eq_true rfl) (Nat.le_of_ble_eq_true rfl) dX3_setOf_3
set_option maxHeartbeats 4000000 in
set_option maxRecDepth 100000 in
/-- isEstimate(x) -/
theorem met_X0_isEstimate (l : Launch) (V : kEnv) (S : kCs) (x : Int32) : kI l yX0_isEstimate cX0_isEstimate 5 (some .boolean) { frames := 0, cells := 0, slots := 0, locals := 0 } V (cWs V) [.int (x)] (S) (fun r u => r = bz (isEst (x : Int32).toInt) ∧ u = S) 0 0 := by
  refine kI_of (by decide +kernel) (Nat.le_of_ble_eq_true rfl) ?_
  intro p e s m args below meth c G hret hlocks hC hB h ls hl Q hQ
  have hl : lv_has ls 5 [(0, .int (x))] := hl
  have hx := G.1
  have hcd := G.2.1
  refine va_getsN hx hcd hC.2.2.1.1 h.2.2 G.2.2.2.1 (va_Nw.use rfl hC.2.1.2.2.2) (fun _ h9 => h9) dX0_isEstimate_0 ?_
  refine lv_astore_n (lv' := [(1, .ref (eX V 400)), (0, .int (x))]) hx hcd dX0_isEstimate_3 rfl hl (by decide) rfl (fun ls hl => ?_)
  refine lv_aload_n hx hcd dX0_isEstimate_4 rfl (lv_at hl 0 rfl) ?_
  refine va_tlen hx hcd hC.2.2.1.2 h.2.2 (v := nI 6) rfl dX0_isEstimate_5 ?_
  refine lv_istore_n (lv' := [(2, .int (nI 6)), (1, .ref (eX V 400)), (0, .int (x))]) hx hcd dX0_isEstimate_6 rfl hl (by decide) rfl (fun ls hl => ?_)
  refine lv_iconst (v := nI 0) hx hcd dX0_isEstimate_7 (by decide) ?_
  refine lv_istore_n (lv' := [(3, .int (nI 0)), (2, .int (nI 6)), (1, .ref (eX V 400)), (0, .int (x))]) hx hcd dX0_isEstimate_8 rfl hl (by decide) rfl (fun ls hl => ?_)
  refine lv_iload_n hx hcd dX0_isEstimate_9 rfl (lv_at hl 0 rfl) ?_
  refine lv_iload_n hx hcd dX0_isEstimate_10 rfl (lv_at hl 1 rfl) ?_
  refine lv_icmp_ge (tgt := 33) hx hcd dX0_isEstimate_11 (by decide) (fun c_1 => absurd c_1 (by decide)) (fun _ => ?_)
  refine lv_aload_n hx hcd dX0_isEstimate_14 rfl (lv_at hl 2 rfl) ?_
  refine lv_iload_n hx hcd dX0_isEstimate_15 rfl (lv_at hl 0 rfl) ?_
  refine va_ti hx hcd hC.2.2.1.2 h.2.2 (i := nI 0) (vp_in_nI (by decide) (by decide)) (v := .int (nI 1)) (by rw [nI_clamp (by decide)]; rfl) dX0_isEstimate_16 ?_
  refine lv_istore (lv' := [(4, .int (nI 1)), (3, .int (nI 0)), (2, .int (nI 6)), (1, .ref (eX V 400)), (0, .int (x))]) hx hcd dX0_isEstimate_17 hl (by decide) rfl (fun ls hl => ?_)
  refine lv_iload_n hx hcd dX0_isEstimate_19 rfl (lv_at hl 4 rfl) ?_
  refine lv_iload hx hcd dX0_isEstimate_20 (lv_at hl 0 rfl) ?_
  refine lv_icmp_ne (tgt := 27) hx hcd dX0_isEstimate_22 (by decide) (fun c_2 => ?_) (fun c_2 => ?_)
  · have c_2 := cNe (rfl : (x : Int32).toInt = (x : Int32).toInt) (tN (n := 1) (by decide)) c_2
    refine lv_iinc (v := nI 1) (lv' := [(3, .int (nI 1)), (4, .int (nI 1)), (2, .int (nI 6)), (1, .ref (eX V 400)), (0, .int (x))]) hx hcd dX0_isEstimate_27 hl (k := 1) rfl (by decide) (by decide) rfl (fun ls hl => ?_)
    refine lv_goto (tgt := 9) hx hcd dX0_isEstimate_30 (by decide) ?_
    refine lv_iload_n hx hcd dX0_isEstimate_9 rfl (lv_at hl 0 rfl) ?_
    refine lv_iload_n hx hcd dX0_isEstimate_10 rfl (lv_at hl 2 rfl) ?_
    refine lv_icmp_ge (tgt := 33) hx hcd dX0_isEstimate_11 (by decide) (fun c_3 => absurd c_3 (by decide)) (fun _ => ?_)
    refine lv_aload_n hx hcd dX0_isEstimate_14 rfl (lv_at hl 3 rfl) ?_
    refine lv_iload_n hx hcd dX0_isEstimate_15 rfl (lv_at hl 0 rfl) ?_
    refine va_ti hx hcd hC.2.2.1.2 h.2.2 (i := nI 1) (vp_in_nI (by decide) (by decide)) (v := .int (nI 2)) (by rw [nI_clamp (by decide)]; rfl) dX0_isEstimate_16 ?_
    refine lv_istore (lv' := [(4, .int (nI 2)), (3, .int (nI 1)), (2, .int (nI 6)), (1, .ref (eX V 400)), (0, .int (x))]) hx hcd dX0_isEstimate_17 hl (by decide) rfl (fun ls hl => ?_)
    refine lv_iload_n hx hcd dX0_isEstimate_19 rfl (lv_at hl 4 rfl) ?_
    refine lv_iload hx hcd dX0_isEstimate_20 (lv_at hl 0 rfl) ?_
    refine lv_icmp_ne (tgt := 27) hx hcd dX0_isEstimate_22 (by decide) (fun c_4 => ?_) (fun c_4 => ?_)
    · have c_4 := cNe (rfl : (x : Int32).toInt = (x : Int32).toInt) (tN (n := 2) (by decide)) c_4
      refine lv_iinc (v := nI 2) (lv' := [(3, .int (nI 2)), (4, .int (nI 2)), (2, .int (nI 6)), (1, .ref (eX V 400)), (0, .int (x))]) hx hcd dX0_isEstimate_27 hl (k := 1) rfl (by decide) (by decide) rfl (fun ls hl => ?_)
      refine lv_goto (tgt := 9) hx hcd dX0_isEstimate_30 (by decide) ?_
      refine lv_iload_n hx hcd dX0_isEstimate_9 rfl (lv_at hl 0 rfl) ?_
      refine lv_iload_n hx hcd dX0_isEstimate_10 rfl (lv_at hl 2 rfl) ?_
      refine lv_icmp_ge (tgt := 33) hx hcd dX0_isEstimate_11 (by decide) (fun c_5 => absurd c_5 (by decide)) (fun _ => ?_)
      refine lv_aload_n hx hcd dX0_isEstimate_14 rfl (lv_at hl 3 rfl) ?_
      refine lv_iload_n hx hcd dX0_isEstimate_15 rfl (lv_at hl 0 rfl) ?_
      refine va_ti hx hcd hC.2.2.1.2 h.2.2 (i := nI 2) (vp_in_nI (by decide) (by decide)) (v := .int (nI 3)) (by rw [nI_clamp (by decide)]; rfl) dX0_isEstimate_16 ?_
      refine lv_istore (lv' := [(4, .int (nI 3)), (3, .int (nI 2)), (2, .int (nI 6)), (1, .ref (eX V 400)), (0, .int (x))]) hx hcd dX0_isEstimate_17 hl (by decide) rfl (fun ls hl => ?_)
      refine lv_iload_n hx hcd dX0_isEstimate_19 rfl (lv_at hl 4 rfl) ?_
      refine lv_iload hx hcd dX0_isEstimate_20 (lv_at hl 0 rfl) ?_
      refine lv_icmp_ne (tgt := 27) hx hcd dX0_isEstimate_22 (by decide) (fun c_6 => ?_) (fun c_6 => ?_)
      · have c_6 := cNe (rfl : (x : Int32).toInt = (x : Int32).toInt) (tN (n := 3) (by decide)) c_6
        refine lv_iinc (v := nI 3) (lv' := [(3, .int (nI 3)), (4, .int (nI 3)), (2, .int (nI 6)), (1, .ref (eX V 400)), (0, .int (x))]) hx hcd dX0_isEstimate_27 hl (k := 1) rfl (by decide) (by decide) rfl (fun ls hl => ?_)
        refine lv_goto (tgt := 9) hx hcd dX0_isEstimate_30 (by decide) ?_
        refine lv_iload_n hx hcd dX0_isEstimate_9 rfl (lv_at hl 0 rfl) ?_
        refine lv_iload_n hx hcd dX0_isEstimate_10 rfl (lv_at hl 2 rfl) ?_
        refine lv_icmp_ge (tgt := 33) hx hcd dX0_isEstimate_11 (by decide) (fun c_7 => absurd c_7 (by decide)) (fun _ => ?_)
        refine lv_aload_n hx hcd dX0_isEstimate_14 rfl (lv_at hl 3 rfl) ?_
        refine lv_iload_n hx hcd dX0_isEstimate_15 rfl (lv_at hl 0 rfl) ?_
        refine va_ti hx hcd hC.2.2.1.2 h.2.2 (i := nI 3) (vp_in_nI (by decide) (by decide)) (v := .int (nI 5)) (by rw [nI_clamp (by decide)]; rfl) dX0_isEstimate_16 ?_
        refine lv_istore (lv' := [(4, .int (nI 5)), (3, .int (nI 3)), (2, .int (nI 6)), (1, .ref (eX V 400)), (0, .int (x))]) hx hcd dX0_isEstimate_17 hl (by decide) rfl (fun ls hl => ?_)
        refine lv_iload_n hx hcd dX0_isEstimate_19 rfl (lv_at hl 4 rfl) ?_
        refine lv_iload hx hcd dX0_isEstimate_20 (lv_at hl 0 rfl) ?_
        refine lv_icmp_ne (tgt := 27) hx hcd dX0_isEstimate_22 (by decide) (fun c_8 => ?_) (fun c_8 => ?_)
        · have c_8 := cNe (rfl : (x : Int32).toInt = (x : Int32).toInt) (tN (n := 5) (by decide)) c_8
          refine lv_iinc (v := nI 4) (lv' := [(3, .int (nI 4)), (4, .int (nI 5)), (2, .int (nI 6)), (1, .ref (eX V 400)), (0, .int (x))]) hx hcd dX0_isEstimate_27 hl (k := 1) rfl (by decide) (by decide) rfl (fun ls hl => ?_)
          refine lv_goto (tgt := 9) hx hcd dX0_isEstimate_30 (by decide) ?_
          refine lv_iload_n hx hcd dX0_isEstimate_9 rfl (lv_at hl 0 rfl) ?_
          refine lv_iload_n hx hcd dX0_isEstimate_10 rfl (lv_at hl 2 rfl) ?_
          refine lv_icmp_ge (tgt := 33) hx hcd dX0_isEstimate_11 (by decide) (fun c_9 => absurd c_9 (by decide)) (fun _ => ?_)
          refine lv_aload_n hx hcd dX0_isEstimate_14 rfl (lv_at hl 3 rfl) ?_
          refine lv_iload_n hx hcd dX0_isEstimate_15 rfl (lv_at hl 0 rfl) ?_
          refine va_ti hx hcd hC.2.2.1.2 h.2.2 (i := nI 4) (vp_in_nI (by decide) (by decide)) (v := .int (nI 8)) (by rw [nI_clamp (by decide)]; rfl) dX0_isEstimate_16 ?_
          refine lv_istore (lv' := [(4, .int (nI 8)), (3, .int (nI 4)), (2, .int (nI 6)), (1, .ref (eX V 400)), (0, .int (x))]) hx hcd dX0_isEstimate_17 hl (by decide) rfl (fun ls hl => ?_)
          refine lv_iload_n hx hcd dX0_isEstimate_19 rfl (lv_at hl 4 rfl) ?_
          refine lv_iload hx hcd dX0_isEstimate_20 (lv_at hl 0 rfl) ?_
          refine lv_icmp_ne (tgt := 27) hx hcd dX0_isEstimate_22 (by decide) (fun c_10 => ?_) (fun c_10 => ?_)
          · have c_10 := cNe (rfl : (x : Int32).toInt = (x : Int32).toInt) (tN (n := 8) (by decide)) c_10
            refine lv_iinc (v := nI 5) (lv' := [(3, .int (nI 5)), (4, .int (nI 8)), (2, .int (nI 6)), (1, .ref (eX V 400)), (0, .int (x))]) hx hcd dX0_isEstimate_27 hl (k := 1) rfl (by decide) (by decide) rfl (fun ls hl => ?_)
            refine lv_goto (tgt := 9) hx hcd dX0_isEstimate_30 (by decide) ?_
            refine lv_iload_n hx hcd dX0_isEstimate_9 rfl (lv_at hl 0 rfl) ?_
            refine lv_iload_n hx hcd dX0_isEstimate_10 rfl (lv_at hl 2 rfl) ?_
            refine lv_icmp_ge (tgt := 33) hx hcd dX0_isEstimate_11 (by decide) (fun c_11 => absurd c_11 (by decide)) (fun _ => ?_)
            refine lv_aload_n hx hcd dX0_isEstimate_14 rfl (lv_at hl 3 rfl) ?_
            refine lv_iload_n hx hcd dX0_isEstimate_15 rfl (lv_at hl 0 rfl) ?_
            refine va_ti hx hcd hC.2.2.1.2 h.2.2 (i := nI 5) (vp_in_nI (by decide) (by decide)) (v := .int (nI 13)) (by rw [nI_clamp (by decide)]; rfl) dX0_isEstimate_16 ?_
            refine lv_istore (lv' := [(4, .int (nI 13)), (3, .int (nI 5)), (2, .int (nI 6)), (1, .ref (eX V 400)), (0, .int (x))]) hx hcd dX0_isEstimate_17 hl (by decide) rfl (fun ls hl => ?_)
            refine lv_iload_n hx hcd dX0_isEstimate_19 rfl (lv_at hl 4 rfl) ?_
            refine lv_iload hx hcd dX0_isEstimate_20 (lv_at hl 0 rfl) ?_
            refine lv_icmp_ne (tgt := 27) hx hcd dX0_isEstimate_22 (by decide) (fun c_12 => ?_) (fun c_12 => ?_)
            · have c_12 := cNe (rfl : (x : Int32).toInt = (x : Int32).toInt) (tN (n := 13) (by decide)) c_12
              refine lv_iinc (v := nI 6) (lv' := [(3, .int (nI 6)), (4, .int (nI 13)), (2, .int (nI 6)), (1, .ref (eX V 400)), (0, .int (x))]) hx hcd dX0_isEstimate_27 hl (k := 1) rfl (by decide) (by decide) rfl (fun ls hl => ?_)
              refine lv_goto (tgt := 9) hx hcd dX0_isEstimate_30 (by decide) ?_
              refine lv_iload_n hx hcd dX0_isEstimate_9 rfl (lv_at hl 0 rfl) ?_
              refine lv_iload_n hx hcd dX0_isEstimate_10 rfl (lv_at hl 2 rfl) ?_
              refine lv_icmp_ge (tgt := 33) hx hcd dX0_isEstimate_11 (by decide) (fun _ => ?_) (fun c_13 => absurd c_13 (by decide))
              refine lv_iconst (v := nI 0) hx hcd dX0_isEstimate_33 (by decide) ?_
              exact k_retz hQ G hret hlocks h (Or.inl rfl) (⟨(bz_f (decide_eq_false (by omega))).symm, rfl⟩) (Nat.le_of_ble_eq_true rfl) (Nat.le_of_ble_eq_true rfl) dX0_isEstimate_34
            · have c_12 := cEq (rfl : (x : Int32).toInt = (x : Int32).toInt) (tN (n := 13) (by decide)) c_12
              refine lv_iconst (v := nI 1) hx hcd dX0_isEstimate_25 (by decide) ?_
              exact k_retz hQ G hret hlocks h (Or.inr rfl) (⟨(bz_t (decide_eq_true (by omega))).symm, rfl⟩) (Nat.le_of_ble_eq_true rfl) (Nat.le_of_ble_eq_true rfl) dX0_isEstimate_26
          · have c_10 := cEq (rfl : (x : Int32).toInt = (x : Int32).toInt) (tN (n := 8) (by decide)) c_10
            refine lv_iconst (v := nI 1) hx hcd dX0_isEstimate_25 (by decide) ?_
            exact k_retz hQ G hret hlocks h (Or.inr rfl) (⟨(bz_t (decide_eq_true (by omega))).symm, rfl⟩) (Nat.le_of_ble_eq_true rfl) (Nat.le_of_ble_eq_true rfl) dX0_isEstimate_26
        · have c_8 := cEq (rfl : (x : Int32).toInt = (x : Int32).toInt) (tN (n := 5) (by decide)) c_8
          refine lv_iconst (v := nI 1) hx hcd dX0_isEstimate_25 (by decide) ?_
          exact k_retz hQ G hret hlocks h (Or.inr rfl) (⟨(bz_t (decide_eq_true (by omega))).symm, rfl⟩) (Nat.le_of_ble_eq_true rfl) (Nat.le_of_ble_eq_true rfl) dX0_isEstimate_26
      · have c_6 := cEq (rfl : (x : Int32).toInt = (x : Int32).toInt) (tN (n := 3) (by decide)) c_6
        refine lv_iconst (v := nI 1) hx hcd dX0_isEstimate_25 (by decide) ?_
        exact k_retz hQ G hret hlocks h (Or.inr rfl) (⟨(bz_t (decide_eq_true (by omega))).symm, rfl⟩) (Nat.le_of_ble_eq_true rfl) (Nat.le_of_ble_eq_true rfl) dX0_isEstimate_26
    · have c_4 := cEq (rfl : (x : Int32).toInt = (x : Int32).toInt) (tN (n := 2) (by decide)) c_4
      refine lv_iconst (v := nI 1) hx hcd dX0_isEstimate_25 (by decide) ?_
      exact k_retz hQ G hret hlocks h (Or.inr rfl) (⟨(bz_t (decide_eq_true (by omega))).symm, rfl⟩) (Nat.le_of_ble_eq_true rfl) (Nat.le_of_ble_eq_true rfl) dX0_isEstimate_26
  · have c_2 := cEq (rfl : (x : Int32).toInt = (x : Int32).toInt) (tN (n := 1) (by decide)) c_2
    refine lv_iconst (v := nI 1) hx hcd dX0_isEstimate_25 (by decide) ?_
    exact k_retz hQ G hret hlocks h (Or.inr rfl) (⟨(bz_t (decide_eq_true (by omega))).symm, rfl⟩) (Nat.le_of_ble_eq_true rfl) (Nat.le_of_ble_eq_true rfl) dX0_isEstimate_26
set_option maxHeartbeats 4000000 in
set_option maxRecDepth 100000 in
/-- isFinished(j) -/
theorem met_X0_isFinished (l : Launch) (V : kEnv) (S : kCs) (b : Nat) (B : kBd) (hb : b < 12) (hz : kSm B) (hn : B.2 0 ≤ 16) (j : Nat) (hj : j < 2147483648) : kI l yX0_isFinished cX0_isFinished 2 (some .boolean) { frames := 1, cells := 0, slots := 0, locals := 21 } V (cWs V) [.ref (eX V (8 * b)), .int (nI (j))] (setB S b B) (fun r u => r = bz ((decide (j < B.2 0) && decide (B.1 1 j = 0))) ∧ u = setB S b B) 0 0 := by
  refine kI_of (by decide +kernel) (Nat.le_of_ble_eq_true rfl) ?_
  intro p e s m args below meth c G hret hlocks hC hB h ls hl Q hQ
  have hl : lv_has ls 2 [(0, .ref (eX V (8 * b))), (1, .int (nI (j)))] := hl
  have hx := G.1
  have hcd := G.2.1
  refine lv_aload_n hx hcd dX0_isFinished_0 rfl (lv_at hl 0 rfl) ?_
  refine lv_iload_n hx hcd dX0_isFinished_1 rfl (lv_at hl 1 rfl) ?_
  refine k_Vi (As := [.int (nI (j))]) (rest := []) (b := eX V (8 * b)) G hC hB h (met_X0_hasStoryN l V S b B hb hn j (by omega)) mw_745 kv_X0_hasStory ⟨rfl, rfl⟩ ⟨Nat.le_of_ble_eq_true rfl, Nat.le_of_ble_eq_true rfl⟩ (r_bV hC h b hb) rfl rfl hl.1 (Nat.le_of_ble_eq_true rfl) dX0_isFinished_2 ⟨Nat.le_of_ble_eq_true rfl, Nat.le_of_ble_eq_true rfl⟩ (fun r u H locs hp h => ?_)
  obtain ⟨rfl, rfl⟩ := hp
  refine lv_if_eq (tgt := 21) hx hcd dX0_isFinished_5 (by decide) (fun c_1 => ?_) (fun c_1 => ?_)
  · have c_1 := bz0 c_1
    have f_3 := of_decide_eq_false c_1
    refine lv_iconst (v := nI 0) hx hcd dX0_isFinished_21 (by decide) ?_
    exact k_retz hQ G hret hlocks h (Or.inl rfl) (⟨(bz_f (by first | assumption | exact band_f1 (by first | assumption | exact decide_eq_false (by omega)) | exact band_f2 (by first | assumption | exact decide_eq_false (by omega)))).symm, rfl⟩) (Nat.le_of_ble_eq_true rfl) (Nat.le_of_ble_eq_true rfl) dX0_isFinished_22
  · have c_1 := bz1 c_1
    have f_2 := of_decide_eq_true c_1
    refine lv_aload_n hx hcd dX0_isFinished_8 rfl (lv_at hl 0 rfl) ?_
    refine r_bA G hC h b 1 hb (by decide) mw_100 dX0_isFinished_9 ?_
    refine lv_iload_n hx hcd dX0_isFinished_12 rfl (lv_at hl 1 rfl) ?_
    refine r_bL G hC h b 1 j hb (by decide) (setB_at _ _ _) rfl (show j < 16 by omega) (x := nI (B.1 1 (j))) rfl dX0_isFinished_13 ?_
    have q_4 := hz.1 1 (j)
    refine lv_if_ne (tgt := 21) hx hcd dX0_isFinished_14 (by decide) (fun c_5 => ?_) (fun c_5 => ?_)
    · have c_5 := cNe (tN (n := B.1 1 (j)) (by omega)) t0 c_5
      refine lv_iconst (v := nI 0) hx hcd dX0_isFinished_21 (by decide) ?_
      exact k_retz hQ G hret hlocks h (Or.inl rfl) (⟨(bz_f (by first | assumption | exact band_f1 (by first | assumption | exact decide_eq_false (by omega)) | exact band_f2 (by first | assumption | exact decide_eq_false (by omega)))).symm, rfl⟩) (Nat.le_of_ble_eq_true rfl) (Nat.le_of_ble_eq_true rfl) dX0_isFinished_22
    · have c_5 := cEq (tN (n := B.1 1 (j)) (by omega)) t0 c_5
      refine lv_iconst (v := nI 1) hx hcd dX0_isFinished_17 (by decide) ?_
      refine lv_goto (tgt := 22) hx hcd dX0_isFinished_18 (by decide) ?_
      exact k_retz hQ G hret hlocks h (Or.inr rfl) (⟨(bz_t (by first | assumption | exact band_t (by first | assumption | exact decide_eq_true (by omega)) (by first | assumption | exact decide_eq_true (by omega)))).symm, rfl⟩) (Nat.le_of_ble_eq_true rfl) (Nat.le_of_ble_eq_true rfl) dX0_isFinished_22
set_option maxHeartbeats 4000000 in
set_option maxRecDepth 100000 in
/-- plans(j) -/
theorem met_X0_plans (l : Launch) (V : kEnv) (S : kCs) (b : Nat) (B : kBd) (hb : b < 12) (hz : kSm B) (hn : B.2 0 ≤ 16) (j : Nat) (hj : j < 2147483648) : kI l yX0_plans cX0_plans 2 (some .boolean) { frames := 1, cells := 0, slots := 0, locals := 21 } V (cWs V) [.ref (eX V (8 * b)), .int (nI (j))] (setB S b B) (fun r u => r = bz ((decide (j < B.2 0) && (B.2 2).testBit j)) ∧ u = setB S b B) 0 0 := by
  refine kI_of (by decide +kernel) (Nat.le_of_ble_eq_true rfl) ?_
  intro p e s m args below meth c G hret hlocks hC hB h ls hl Q hQ
  have hl : lv_has ls 2 [(0, .ref (eX V (8 * b))), (1, .int (nI (j)))] := hl
  have hx := G.1
  have hcd := G.2.1
  refine lv_aload_n hx hcd dX0_plans_0 rfl (lv_at hl 0 rfl) ?_
  refine lv_iload_n hx hcd dX0_plans_1 rfl (lv_at hl 1 rfl) ?_
  refine k_Vi (As := [.int (nI (j))]) (rest := []) (b := eX V (8 * b)) G hC hB h (met_X0_hasStoryN l V S b B hb hn j (by omega)) mw_745 kv_X0_hasStory ⟨rfl, rfl⟩ ⟨Nat.le_of_ble_eq_true rfl, Nat.le_of_ble_eq_true rfl⟩ (r_bV hC h b hb) rfl rfl hl.1 (Nat.le_of_ble_eq_true rfl) dX0_plans_2 ⟨Nat.le_of_ble_eq_true rfl, Nat.le_of_ble_eq_true rfl⟩ (fun r u H locs hp h => ?_)
  obtain ⟨rfl, rfl⟩ := hp
  refine lv_if_eq (tgt := 23) hx hcd dX0_plans_5 (by decide) (fun c_1 => ?_) (fun c_1 => ?_)
  · have c_1 := bz0 c_1
    have f_3 := of_decide_eq_false c_1
    refine lv_iconst (v := nI 0) hx hcd dX0_plans_23 (by decide) ?_
    exact k_retz hQ G hret hlocks h (Or.inl rfl) (⟨(bz_f (by first | assumption | exact band_f1 (by first | assumption | exact decide_eq_false (by omega)) | exact band_f2 (by assumption))).symm, rfl⟩) (Nat.le_of_ble_eq_true rfl) (Nat.le_of_ble_eq_true rfl) dX0_plans_24
  · have c_1 := bz1 c_1
    have f_2 := of_decide_eq_true c_1
    refine lv_aload_n hx hcd dX0_plans_8 rfl (lv_at hl 0 rfl) ?_
    refine r_bS G hC h b 2 hb (by decide) (setB_at _ _ _) mw_115 (x := nI (B.2 2)) rfl dX0_plans_9 ?_
    have q_4 := hz.2 2
    refine lv_iload_n hx hcd dX0_plans_12 rfl (lv_at hl 1 rfl) ?_
    refine k_Ni (As := [.int (nI (B.2 2)), .int (nI (j))]) (rest := []) G hC hB h (met_X3_holds l V (setB S b B) (B.2 2) j (by omega) (by omega)) hC.2.1.2.1 ks_X3_holds ⟨rfl, rfl⟩ ⟨Nat.le_of_ble_eq_true rfl, Nat.le_of_ble_eq_true rfl⟩ rfl rfl hl.1 (Nat.le_of_ble_eq_true rfl) dX0_plans_13 ⟨Nat.le_of_ble_eq_true rfl, Nat.le_of_ble_eq_true rfl⟩ (fun r u H locs hp h => ?_)
    obtain ⟨rfl, rfl⟩ := hp
    refine lv_if_eq (tgt := 23) hx hcd dX0_plans_16 (by decide) (fun c_5 => ?_) (fun c_5 => ?_)
    · have c_5 := bz0 c_5
      refine lv_iconst (v := nI 0) hx hcd dX0_plans_23 (by decide) ?_
      exact k_retz hQ G hret hlocks h (Or.inl rfl) (⟨(bz_f (by first | assumption | exact band_f1 (by first | assumption | exact decide_eq_false (by omega)) | exact band_f2 (by assumption))).symm, rfl⟩) (Nat.le_of_ble_eq_true rfl) (Nat.le_of_ble_eq_true rfl) dX0_plans_24
    · have c_5 := bz1 c_5
      refine lv_iconst (v := nI 1) hx hcd dX0_plans_19 (by decide) ?_
      refine lv_goto (tgt := 24) hx hcd dX0_plans_20 (by decide) ?_
      exact k_retz hQ G hret hlocks h (Or.inr rfl) (⟨(bz_t (by first | assumption | exact band_t (by first | assumption | exact decide_eq_true (by omega)) (by assumption))).symm, rfl⟩) (Nat.le_of_ble_eq_true rfl) (Nat.le_of_ble_eq_true rfl) dX0_plans_24
set_option maxHeartbeats 4000000 in
set_option maxRecDepth 100000 in
/-- canAddStory(x) -/
theorem met_X0_canAddStory (l : Launch) (V : kEnv) (S : kCs) (b : Nat) (B : kBd) (hb : b < 12) (hn : B.2 0 ≤ 16) (x : Int32) : kI l yX0_canAddStory cX0_canAddStory 2 (some .boolean) { frames := 1, cells := 0, slots := 0, locals := 24 } V (cWs V) [.ref (eX V (8 * b)), .int (x)] (setB S b B) (fun r u => r = bz ((isEst (x : Int32).toInt && decide (B.2 0 < 16))) ∧ u = setB S b B) 0 0 := by
  refine kI_of (by decide +kernel) (Nat.le_of_ble_eq_true rfl) ?_
  intro p e s m args below meth c G hret hlocks hC hB h ls hl Q hQ
  have hl : lv_has ls 2 [(0, .ref (eX V (8 * b))), (1, .int (x))] := hl
  have hx := G.1
  have hcd := G.2.1
  refine lv_iload_n hx hcd dX0_canAddStory_0 rfl (lv_at hl 1 rfl) ?_
  refine k_Si (As := [.int (x)]) (rest := []) G hC hB h (met_X0_isEstimate l V (setB S b B) x) mw_803 ks_X0_isEstimate ⟨rfl, rfl⟩ ⟨Nat.le_of_ble_eq_true rfl, Nat.le_of_ble_eq_true rfl⟩ rfl rfl hl.1 (Nat.le_of_ble_eq_true rfl) dX0_canAddStory_1 ⟨Nat.le_of_ble_eq_true rfl, Nat.le_of_ble_eq_true rfl⟩ (fun r u H locs hp h => ?_)
  obtain ⟨rfl, rfl⟩ := hp
  refine lv_if_eq (tgt := 20) hx hcd dX0_canAddStory_4 (by decide) (fun c_1 => ?_) (fun c_1 => ?_)
  · have c_1 := bz0 c_1
    refine lv_iconst (v := nI 0) hx hcd dX0_canAddStory_20 (by decide) ?_
    exact k_retz hQ G hret hlocks h (Or.inl rfl) (⟨(bz_f (by first | assumption | exact band_f1 (by assumption) | exact band_f2 (by first | assumption | exact decide_eq_false (by omega)))).symm, rfl⟩) (Nat.le_of_ble_eq_true rfl) (Nat.le_of_ble_eq_true rfl) dX0_canAddStory_21
  · have c_1 := bz1 c_1
    refine lv_aload_n hx hcd dX0_canAddStory_7 rfl (lv_at hl 0 rfl) ?_
    refine r_bS G hC h b 0 hb (by decide) (setB_at _ _ _) mw_111 (x := nI (B.2 0)) rfl dX0_canAddStory_8 ?_
    refine lv_bipush (v := nI 16) hx hcd dX0_canAddStory_11 (by decide) ?_
    refine lv_icmp_ge (tgt := 20) hx hcd dX0_canAddStory_13 (by decide) (fun c_3 => ?_) (fun c_3 => ?_)
    · have c_3 := cLe (tN (n := 16) (by decide)) (tN (n := B.2 0) (by omega)) c_3
      refine lv_iconst (v := nI 0) hx hcd dX0_canAddStory_20 (by decide) ?_
      exact k_retz hQ G hret hlocks h (Or.inl rfl) (⟨(bz_f (by first | assumption | exact band_f1 (by assumption) | exact band_f2 (by first | assumption | exact decide_eq_false (by omega)))).symm, rfl⟩) (Nat.le_of_ble_eq_true rfl) (Nat.le_of_ble_eq_true rfl) dX0_canAddStory_21
    · have c_3 := cNle (tN (n := 16) (by decide)) (tN (n := B.2 0) (by omega)) c_3
      refine lv_iconst (v := nI 1) hx hcd dX0_canAddStory_16 (by decide) ?_
      refine lv_goto (tgt := 21) hx hcd dX0_canAddStory_17 (by decide) ?_
      exact k_retz hQ G hret hlocks h (Or.inr rfl) (⟨(bz_t (by first | assumption | exact band_t (by assumption) (by first | assumption | exact decide_eq_true (by omega)))).symm, rfl⟩) (Nat.le_of_ble_eq_true rfl) (Nat.le_of_ble_eq_true rfl) dX0_canAddStory_21
