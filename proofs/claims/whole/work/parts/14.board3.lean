theorem inR_A {m a : Nat} (ha : a < 2147483648) : inR m (nI a - 1) = decide (0 < a ∧ a - 1 < m) := by
  unfold inR
  rw [tA ha]
  by_cases h : 0 < a ∧ a - 1 < m
  · rw [decide_eq_true (by omega), decide_eq_true h]
  · rw [decide_eq_false (by omega), decide_eq_false h]
def spdOn (B : kBd) (j : Nat) : Nat := if 0 < asgOf B j ∧ asgOf B j - 1 < B.2 1 then B.1 3 (asgOf B j - 1) else 0
theorem spdOn_lt {B : kBd} (hz : kSm B) (j : Nat) : spdOn B j < 65536 := by
  unfold spdOn
  split
  · exact hz.1 _ _
  · decide
theorem met_X0_hasStoryA (l : Launch) (V : kEnv) (S : kCs) (b : Nat) (B : kBd) (hb : b < 12) (hn : B.2 0 ≤ 16) (a : Nat) (ha : a < 2147483648) : kI l yX0_hasStory cX0_hasStory 2 (some .boolean) { frames := 0, cells := 0, slots := 0, locals := 0 } V (cWs V) [.ref (eX V (8 * b)), .int (nI a - 1)] (setB S b B) (fun r u => r = bz (decide (0 < a ∧ a - 1 < B.2 0)) ∧ u = setB S b B) 0 0 := by
  have := met_X0_hasStory l V S b B hb hn (nI a - 1)
  rwa [inR_A ha] at this
theorem met_X0_hasDeveloperA (l : Launch) (V : kEnv) (S : kCs) (b : Nat) (B : kBd) (hb : b < 12) (hm : B.2 1 ≤ 4) (a : Nat) (ha : a < 2147483648) : kI l yX0_hasDeveloper cX0_hasDeveloper 2 (some .boolean) { frames := 0, cells := 0, slots := 0, locals := 0 } V (cWs V) [.ref (eX V (8 * b)), .int (nI a - 1)] (setB S b B) (fun r u => r = bz (decide (0 < a ∧ a - 1 < B.2 1)) ∧ u = setB S b B) 0 0 := by
  have := met_X0_hasDeveloper l V S b B hb hm (nI a - 1)
  rwa [inR_A ha] at this
theorem kv_X0_assigneeOf : kV yX0_assigneeOf cX0_assigneeOf 3 (some .int) 1 := ⟨mw_763, mw_764, mw_57, mw_765, by decide, by decide, by decide +kernel⟩
theorem kv_X0_hasBlocker : kV yX0_hasBlocker cX0_hasBlocker 3 (some .boolean) 2 := ⟨mw_771, mw_772, mw_57, mw_773, by decide, by decide, by decide +kernel⟩
theorem kv_X0_hasDeveloper : kV yX0_hasDeveloper cX0_hasDeveloper 2 (some .boolean) 1 := ⟨mw_767, mw_768, mw_57, mw_769, by decide, by decide, by decide +kernel⟩
theorem kv_X0_isFinished : kV yX0_isFinished cX0_isFinished 2 (some .boolean) 1 := ⟨mw_742, mw_743, mw_57, mw_744, by decide, by decide, by decide +kernel⟩
theorem ks_X0_isSpeed : kSt yX0_isSpeed cX0_isSpeed 1 (some .boolean) 1 := ⟨mw_1055, mw_57, mw_1056, by decide, by decide, by decide +kernel⟩
theorem ks_X0_isSprintLength : kSt yX0_isSprintLength cX0_isSprintLength 1 (some .boolean) 1 := ⟨mw_1166, mw_57, mw_1167, by decide, by decide, by decide +kernel⟩
theorem kv_X0_plans : kV yX0_plans cX0_plans 2 (some .boolean) 1 := ⟨mw_1083, mw_1084, mw_57, mw_1085, by decide, by decide, by decide +kernel⟩
set_option maxHeartbeats 4000000 in
set_option maxRecDepth 100000 in
/-- assigneeOf(j) -/
theorem met_X0_assigneeOf (l : Launch) (V : kEnv) (S : kCs) (b : Nat) (B : kBd) (hb : b < 12) (hz : kSm B) (j : Nat) (hj : j < 2147483647) : kI l yX0_assigneeOf cX0_assigneeOf 3 (some .int) { frames := 0, cells := 0, slots := 0, locals := 0 } V (cWs V) [.ref (eX V (8 * b)), .int (nI (j))] (setB S b B) (fun r u => r = nI (asgOf B j) - 1 ∧ u = setB S b B) 0 0 := by
  refine kI_of (by decide +kernel) (Nat.le_of_ble_eq_true rfl) ?_
  intro p e s m args below meth c G hret hlocks hC hB h ls hl Q hQ
  have hl : lv_has ls 3 [(0, .ref (eX V (8 * b))), (1, .int (nI (j)))] := hl
  have hx := G.1
  have hcd := G.2.1
  refine lv_iconst (v := nI 0) hx hcd dX0_assigneeOf_0 (by decide) ?_
  refine lv_istore_n (lv' := [(2, .int (nI 0)), (0, .ref (eX V (8 * b))), (1, .int (nI (j)))]) hx hcd dX0_assigneeOf_1 rfl hl (by decide) rfl (fun ls hl => ?_)
  refine lv_iload_n hx hcd dX0_assigneeOf_2 rfl (lv_at hl 0 rfl) ?_
  refine lv_aload_n hx hcd dX0_assigneeOf_3 rfl (lv_at hl 1 rfl) ?_
  refine r_bA G hC h b 4 hb (by decide) mw_105 dX0_assigneeOf_4 ?_
  refine r_bN G hC h b 4 hb (by decide) (x := nI (4)) rfl dX0_assigneeOf_7 ?_
  refine lv_icmp_ge (tgt := 29) hx hcd dX0_assigneeOf_8 (by decide) (fun c_1 => absurd c_1 (by decide)) (fun _ => ?_)
  refine lv_aload_n hx hcd dX0_assigneeOf_11 rfl (lv_at hl 1 rfl) ?_
  refine r_bA G hC h b 4 hb (by decide) mw_105 dX0_assigneeOf_12 ?_
  refine lv_iload_n hx hcd dX0_assigneeOf_15 rfl (lv_at hl 0 rfl) ?_
  refine r_bL G hC h b 4 0 hb (by decide) (setB_at _ _ _) rfl (show 0 < 4 by omega) (x := nI (B.1 4 (0)) - 1) rfl dX0_assigneeOf_16 ?_
  have q_2 := hz.1 4 (0)
  refine lv_iload_n hx hcd dX0_assigneeOf_17 rfl (lv_at hl 2 rfl) ?_
  refine lv_icmp_ne (tgt := 23) hx hcd dX0_assigneeOf_18 (by decide) (fun c_3 => ?_) (fun c_3 => ?_)
  · have c_3 := cNe (tA (n := B.1 4 (0)) (by omega)) (tN (n := j) (by omega)) c_3
    refine lv_iinc (v := nI 1) (lv' := [(2, .int (nI 1)), (0, .ref (eX V (8 * b))), (1, .int (nI (j)))]) hx hcd dX0_assigneeOf_23 hl (k := 0) rfl (by decide) (by decide) rfl (fun ls hl => ?_)
    refine lv_goto (tgt := 2) hx hcd dX0_assigneeOf_26 (by decide) ?_
    refine lv_iload_n hx hcd dX0_assigneeOf_2 rfl (lv_at hl 0 rfl) ?_
    refine lv_aload_n hx hcd dX0_assigneeOf_3 rfl (lv_at hl 1 rfl) ?_
    refine r_bA G hC h b 4 hb (by decide) mw_105 dX0_assigneeOf_4 ?_
    refine r_bN G hC h b 4 hb (by decide) (x := nI (4)) rfl dX0_assigneeOf_7 ?_
    refine lv_icmp_ge (tgt := 29) hx hcd dX0_assigneeOf_8 (by decide) (fun c_4 => absurd c_4 (by decide)) (fun _ => ?_)
    refine lv_aload_n hx hcd dX0_assigneeOf_11 rfl (lv_at hl 1 rfl) ?_
    refine r_bA G hC h b 4 hb (by decide) mw_105 dX0_assigneeOf_12 ?_
    refine lv_iload_n hx hcd dX0_assigneeOf_15 rfl (lv_at hl 0 rfl) ?_
    refine r_bL G hC h b 4 1 hb (by decide) (setB_at _ _ _) rfl (show 1 < 4 by omega) (x := nI (B.1 4 (1)) - 1) rfl dX0_assigneeOf_16 ?_
    have q_5 := hz.1 4 (1)
    refine lv_iload_n hx hcd dX0_assigneeOf_17 rfl (lv_at hl 2 rfl) ?_
    refine lv_icmp_ne (tgt := 23) hx hcd dX0_assigneeOf_18 (by decide) (fun c_6 => ?_) (fun c_6 => ?_)
    · have c_6 := cNe (tA (n := B.1 4 (1)) (by omega)) (tN (n := j) (by omega)) c_6
      refine lv_iinc (v := nI 2) (lv' := [(2, .int (nI 2)), (0, .ref (eX V (8 * b))), (1, .int (nI (j)))]) hx hcd dX0_assigneeOf_23 hl (k := 0) rfl (by decide) (by decide) rfl (fun ls hl => ?_)
      refine lv_goto (tgt := 2) hx hcd dX0_assigneeOf_26 (by decide) ?_
      refine lv_iload_n hx hcd dX0_assigneeOf_2 rfl (lv_at hl 0 rfl) ?_
      refine lv_aload_n hx hcd dX0_assigneeOf_3 rfl (lv_at hl 1 rfl) ?_
      refine r_bA G hC h b 4 hb (by decide) mw_105 dX0_assigneeOf_4 ?_
      refine r_bN G hC h b 4 hb (by decide) (x := nI (4)) rfl dX0_assigneeOf_7 ?_
      refine lv_icmp_ge (tgt := 29) hx hcd dX0_assigneeOf_8 (by decide) (fun c_7 => absurd c_7 (by decide)) (fun _ => ?_)
      refine lv_aload_n hx hcd dX0_assigneeOf_11 rfl (lv_at hl 1 rfl) ?_
      refine r_bA G hC h b 4 hb (by decide) mw_105 dX0_assigneeOf_12 ?_
      refine lv_iload_n hx hcd dX0_assigneeOf_15 rfl (lv_at hl 0 rfl) ?_
      refine r_bL G hC h b 4 2 hb (by decide) (setB_at _ _ _) rfl (show 2 < 4 by omega) (x := nI (B.1 4 (2)) - 1) rfl dX0_assigneeOf_16 ?_
      have q_8 := hz.1 4 (2)
      refine lv_iload_n hx hcd dX0_assigneeOf_17 rfl (lv_at hl 2 rfl) ?_
      refine lv_icmp_ne (tgt := 23) hx hcd dX0_assigneeOf_18 (by decide) (fun c_9 => ?_) (fun c_9 => ?_)
      · have c_9 := cNe (tA (n := B.1 4 (2)) (by omega)) (tN (n := j) (by omega)) c_9
        refine lv_iinc (v := nI 3) (lv' := [(2, .int (nI 3)), (0, .ref (eX V (8 * b))), (1, .int (nI (j)))]) hx hcd dX0_assigneeOf_23 hl (k := 0) rfl (by decide) (by decide) rfl (fun ls hl => ?_)
        refine lv_goto (tgt := 2) hx hcd dX0_assigneeOf_26 (by decide) ?_
        refine lv_iload_n hx hcd dX0_assigneeOf_2 rfl (lv_at hl 0 rfl) ?_
        refine lv_aload_n hx hcd dX0_assigneeOf_3 rfl (lv_at hl 1 rfl) ?_
        refine r_bA G hC h b 4 hb (by decide) mw_105 dX0_assigneeOf_4 ?_
        refine r_bN G hC h b 4 hb (by decide) (x := nI (4)) rfl dX0_assigneeOf_7 ?_
        refine lv_icmp_ge (tgt := 29) hx hcd dX0_assigneeOf_8 (by decide) (fun c_10 => absurd c_10 (by decide)) (fun _ => ?_)
        refine lv_aload_n hx hcd dX0_assigneeOf_11 rfl (lv_at hl 1 rfl) ?_
        refine r_bA G hC h b 4 hb (by decide) mw_105 dX0_assigneeOf_12 ?_
        refine lv_iload_n hx hcd dX0_assigneeOf_15 rfl (lv_at hl 0 rfl) ?_
        refine r_bL G hC h b 4 3 hb (by decide) (setB_at _ _ _) rfl (show 3 < 4 by omega) (x := nI (B.1 4 (3)) - 1) rfl dX0_assigneeOf_16 ?_
        have q_11 := hz.1 4 (3)
        refine lv_iload_n hx hcd dX0_assigneeOf_17 rfl (lv_at hl 2 rfl) ?_
        refine lv_icmp_ne (tgt := 23) hx hcd dX0_assigneeOf_18 (by decide) (fun c_12 => ?_) (fun c_12 => ?_)
        · have c_12 := cNe (tA (n := B.1 4 (3)) (by omega)) (tN (n := j) (by omega)) c_12
          refine lv_iinc (v := nI 4) (lv' := [(2, .int (nI 4)), (0, .ref (eX V (8 * b))), (1, .int (nI (j)))]) hx hcd dX0_assigneeOf_23 hl (k := 0) rfl (by decide) (by decide) rfl (fun ls hl => ?_)
          refine lv_goto (tgt := 2) hx hcd dX0_assigneeOf_26 (by decide) ?_
          refine lv_iload_n hx hcd dX0_assigneeOf_2 rfl (lv_at hl 0 rfl) ?_
          refine lv_aload_n hx hcd dX0_assigneeOf_3 rfl (lv_at hl 1 rfl) ?_
          refine r_bA G hC h b 4 hb (by decide) mw_105 dX0_assigneeOf_4 ?_
          refine r_bN G hC h b 4 hb (by decide) (x := nI (4)) rfl dX0_assigneeOf_7 ?_
          refine lv_icmp_ge (tgt := 29) hx hcd dX0_assigneeOf_8 (by decide) (fun _ => ?_) (fun c_13 => absurd c_13 (by decide))
          refine lv_iconst (v := -1) hx hcd dX0_assigneeOf_29 (by decide) ?_
          exact k_reti hQ G hret hlocks h (⟨by rw [show asgOf B j = 0 from by unfold asgOf; (repeat' split) <;> omega]; decide, rfl⟩) (Nat.le_of_ble_eq_true rfl) (Nat.le_of_ble_eq_true rfl) dX0_assigneeOf_30
        · have c_12 := cEq (tA (n := B.1 4 (3)) (by omega)) (tN (n := j) (by omega)) c_12
          refine lv_iload_n hx hcd dX0_assigneeOf_21 rfl (lv_at hl 0 rfl) ?_
          exact k_reti hQ G hret hlocks h (⟨by rw [show asgOf B j = 4 from by unfold asgOf; (repeat' split) <;> omega]; decide, rfl⟩) (Nat.le_of_ble_eq_true rfl) (Nat.le_of_ble_eq_true rfl) dX0_assigneeOf_22
      · have c_9 := cEq (tA (n := B.1 4 (2)) (by omega)) (tN (n := j) (by omega)) c_9
        refine lv_iload_n hx hcd dX0_assigneeOf_21 rfl (lv_at hl 0 rfl) ?_
        exact k_reti hQ G hret hlocks h (⟨by rw [show asgOf B j = 3 from by unfold asgOf; (repeat' split) <;> omega]; decide, rfl⟩) (Nat.le_of_ble_eq_true rfl) (Nat.le_of_ble_eq_true rfl) dX0_assigneeOf_22
    · have c_6 := cEq (tA (n := B.1 4 (1)) (by omega)) (tN (n := j) (by omega)) c_6
      refine lv_iload_n hx hcd dX0_assigneeOf_21 rfl (lv_at hl 0 rfl) ?_
      exact k_reti hQ G hret hlocks h (⟨by rw [show asgOf B j = 2 from by unfold asgOf; (repeat' split) <;> omega]; decide, rfl⟩) (Nat.le_of_ble_eq_true rfl) (Nat.le_of_ble_eq_true rfl) dX0_assigneeOf_22
  · have c_3 := cEq (tA (n := B.1 4 (0)) (by omega)) (tN (n := j) (by omega)) c_3
    refine lv_iload_n hx hcd dX0_assigneeOf_21 rfl (lv_at hl 0 rfl) ?_
    exact k_reti hQ G hret hlocks h (⟨by rw [show asgOf B j = 1 from by unfold asgOf; (repeat' split) <;> omega]; decide, rfl⟩) (Nat.le_of_ble_eq_true rfl) (Nat.le_of_ble_eq_true rfl) dX0_assigneeOf_22
set_option maxHeartbeats 4000000 in
set_option maxRecDepth 100000 in
/-- speedOn(j) -/
theorem met_X0_speedOn (l : Launch) (V : kEnv) (S : kCs) (b : Nat) (B : kBd) (hb : b < 12) (hz : kSm B) (hm : B.2 1 ≤ 4) (j : Nat) (hj : j < 2147483647) : kI l yX0_speedOn cX0_speedOn 3 (some .int) { frames := 1, cells := 0, slots := 0, locals := 22 } V (cWs V) [.ref (eX V (8 * b)), .int (nI (j))] (setB S b B) (fun r u => r = nI (spdOn B j) ∧ u = setB S b B) 0 0 := by
  refine kI_of (by decide +kernel) (Nat.le_of_ble_eq_true rfl) ?_
  intro p e s m args below meth c G hret hlocks hC hB h ls hl Q hQ
  have hl : lv_has ls 3 [(0, .ref (eX V (8 * b))), (1, .int (nI (j)))] := hl
  have hx := G.1
  have hcd := G.2.1
  refine lv_aload_n hx hcd dX0_speedOn_0 rfl (lv_at hl 0 rfl) ?_
  refine lv_iload_n hx hcd dX0_speedOn_1 rfl (lv_at hl 1 rfl) ?_
  refine k_Vi (As := [.int (nI (j))]) (rest := []) (b := eX V (8 * b)) G hC hB h (met_X0_assigneeOf l V S b B hb hz j (by omega)) mw_762 kv_X0_assigneeOf ⟨rfl, rfl⟩ ⟨Nat.le_of_ble_eq_true rfl, Nat.le_of_ble_eq_true rfl⟩ (r_bV hC h b hb) rfl rfl hl.1 (Nat.le_of_ble_eq_true rfl) dX0_speedOn_2 ⟨Nat.le_of_ble_eq_true rfl, Nat.le_of_ble_eq_true rfl⟩ (fun r u H locs hp h => ?_)
  obtain ⟨rfl, rfl⟩ := hp
  have q_1 := asgOf_le B j
  refine lv_istore_n (lv' := [(2, .int (nI (asgOf B j) - 1)), (0, .ref (eX V (8 * b))), (1, .int (nI (j)))]) hx hcd dX0_speedOn_5 rfl hl (by decide) rfl (fun ls hl => ?_)
  refine lv_aload_n hx hcd dX0_speedOn_6 rfl (lv_at hl 1 rfl) ?_
  refine lv_iload_n hx hcd dX0_speedOn_7 rfl (lv_at hl 0 rfl) ?_
  refine k_Vi (As := [.int (nI (asgOf B j) - 1)]) (rest := []) (b := eX V (8 * b)) G hC hB h (met_X0_hasDeveloperA l V S b B hb hm (asgOf B j) (by omega)) mw_766 kv_X0_hasDeveloper ⟨rfl, rfl⟩ ⟨Nat.le_of_ble_eq_true rfl, Nat.le_of_ble_eq_true rfl⟩ (r_bV hC h b hb) rfl rfl hl.1 (Nat.le_of_ble_eq_true rfl) dX0_speedOn_8 ⟨Nat.le_of_ble_eq_true rfl, Nat.le_of_ble_eq_true rfl⟩ (fun r u H locs hp h => ?_)
  obtain ⟨rfl, rfl⟩ := hp
  refine lv_if_eq (tgt := 23) hx hcd dX0_speedOn_11 (by decide) (fun c_2 => ?_) (fun c_2 => ?_)
  · have c_2 := bz0 c_2
    have f_4 := of_decide_eq_false c_2
    refine lv_iconst (v := nI 0) hx hcd dX0_speedOn_23 (by decide) ?_
    exact k_reti hQ G hret hlocks h (⟨by unfold spdOn; rw [if_neg (by omega)], rfl⟩) (Nat.le_of_ble_eq_true rfl) (Nat.le_of_ble_eq_true rfl) dX0_speedOn_24
  · have c_2 := bz1 c_2
    have f_3 := of_decide_eq_true c_2
    refine lv_aload_n hx hcd dX0_speedOn_14 rfl (lv_at hl 1 rfl) ?_
    refine r_bA G hC h b 3 hb (by decide) mw_103 dX0_speedOn_15 ?_
    refine lv_iload_n hx hcd dX0_speedOn_18 rfl (lv_at hl 0 rfl) ?_
    refine r_bL G hC h b 3 ((asgOf B j) - 1) hb (by decide) (setB_at _ _ _) (pk_sub (b := 1) (by omega)) (show (asgOf B j) - 1 < 4 by omega) (x := nI (B.1 3 ((asgOf B j) - 1))) rfl dX0_speedOn_19 ?_
    have q_5 := hz.1 3 ((asgOf B j) - 1)
    refine lv_goto (tgt := 24) hx hcd dX0_speedOn_20 (by decide) ?_
    exact k_reti hQ G hret hlocks h (⟨by unfold spdOn; rw [if_pos (by omega)], rfl⟩) (Nat.le_of_ble_eq_true rfl) (Nat.le_of_ble_eq_true rfl) dX0_speedOn_24
set_option maxHeartbeats 4000000 in
set_option maxRecDepth 100000 in
/-- canAddDeveloper(x) -/
theorem met_X0_canAddDeveloper (l : Launch) (V : kEnv) (S : kCs) (b : Nat) (B : kBd) (hb : b < 12) (hm : B.2 1 ≤ 4) (x : Int32) : kI l yX0_canAddDeveloper cX0_canAddDeveloper 2 (some .boolean) { frames := 1, cells := 0, slots := 0, locals := 20 } V (cWs V) [.ref (eX V (8 * b)), .int (x)] (setB S b B) (fun r u => r = bz ((decide (1 ≤ (x : Int32).toInt ∧ (x : Int32).toInt ≤ 4) && decide (B.2 1 < 4))) ∧ u = setB S b B) 0 0 := by
  refine kI_of (by decide +kernel) (Nat.le_of_ble_eq_true rfl) ?_
  intro p e s m args below meth c G hret hlocks hC hB h ls hl Q hQ
  have hl : lv_has ls 2 [(0, .ref (eX V (8 * b))), (1, .int (x))] := hl
  have hx := G.1
  have hcd := G.2.1
  refine lv_iload_n hx hcd dX0_canAddDeveloper_0 rfl (lv_at hl 1 rfl) ?_
  refine k_Si (As := [.int (x)]) (rest := []) G hC hB h (met_X0_isSpeed l V (setB S b B) x) mw_1061 ks_X0_isSpeed ⟨rfl, rfl⟩ ⟨Nat.le_of_ble_eq_true rfl, Nat.le_of_ble_eq_true rfl⟩ rfl rfl hl.1 (Nat.le_of_ble_eq_true rfl) dX0_canAddDeveloper_1 ⟨Nat.le_of_ble_eq_true rfl, Nat.le_of_ble_eq_true rfl⟩ (fun r u H locs hp h => ?_)
  obtain ⟨rfl, rfl⟩ := hp
  refine lv_if_eq (tgt := 19) hx hcd dX0_canAddDeveloper_4 (by decide) (fun c_1 => ?_) (fun c_1 => ?_)
  · have c_1 := bz0 c_1
    have f_3 := of_decide_eq_false c_1
    refine lv_iconst (v := nI 0) hx hcd dX0_canAddDeveloper_19 (by decide) ?_
    exact k_retz hQ G hret hlocks h (Or.inl rfl) (⟨(bz_f (by first | assumption | exact band_f1 (by first | assumption | exact decide_eq_false (by omega)) | exact band_f2 (by first | assumption | exact decide_eq_false (by omega)))).symm, rfl⟩) (Nat.le_of_ble_eq_true rfl) (Nat.le_of_ble_eq_true rfl) dX0_canAddDeveloper_20
  · have c_1 := bz1 c_1
    have f_2 := of_decide_eq_true c_1
    refine lv_aload_n hx hcd dX0_canAddDeveloper_7 rfl (lv_at hl 0 rfl) ?_
    refine r_bS G hC h b 1 hb (by decide) (setB_at _ _ _) mw_113 (x := nI (B.2 1)) rfl dX0_canAddDeveloper_8 ?_
    refine lv_iconst (v := nI 4) hx hcd dX0_canAddDeveloper_11 (by decide) ?_
    refine lv_icmp_ge (tgt := 19) hx hcd dX0_canAddDeveloper_12 (by decide) (fun c_5 => ?_) (fun c_5 => ?_)
    · have c_5 := cLe (tN (n := 4) (by decide)) (tN (n := B.2 1) (by omega)) c_5
      refine lv_iconst (v := nI 0) hx hcd dX0_canAddDeveloper_19 (by decide) ?_
      exact k_retz hQ G hret hlocks h (Or.inl rfl) (⟨(bz_f (by first | assumption | exact band_f1 (by first | assumption | exact decide_eq_false (by omega)) | exact band_f2 (by first | assumption | exact decide_eq_false (by omega)))).symm, rfl⟩) (Nat.le_of_ble_eq_true rfl) (Nat.le_of_ble_eq_true rfl) dX0_canAddDeveloper_20
    · have c_5 := cNle (tN (n := 4) (by decide)) (tN (n := B.2 1) (by omega)) c_5
      refine lv_iconst (v := nI 1) hx hcd dX0_canAddDeveloper_15 (by decide) ?_
      refine lv_goto (tgt := 20) hx hcd dX0_canAddDeveloper_16 (by decide) ?_
      exact k_retz hQ G hret hlocks h (Or.inr rfl) (⟨(bz_t (by first | assumption | exact band_t (by first | assumption | exact decide_eq_true (by omega)) (by first | assumption | exact decide_eq_true (by omega)))).symm, rfl⟩) (Nat.le_of_ble_eq_true rfl) (Nat.le_of_ble_eq_true rfl) dX0_canAddDeveloper_20
set_option maxHeartbeats 4000000 in
set_option maxRecDepth 100000 in
/-- canReestimate(j, x) -/
theorem met_X0_canReestimate (l : Launch) (V : kEnv) (S : kCs) (b : Nat) (B : kBd) (hb : b < 12) (hz : kSm B) (hn : B.2 0 ≤ 16) (j : Nat) (hj : j < 2147483648) (x : Int32) : kI l yX0_canReestimate cX0_canReestimate 3 (some .boolean) { frames := 2, cells := 0, slots := 0, locals := 42 } V (cWs V) [.ref (eX V (8 * b)), .int (nI (j)), .int (x)] (setB S b B) (fun r u => r = bz (((decide (j < B.2 0) && isEst (x : Int32).toInt) && decide (B.1 1 j ≠ 0))) ∧ u = setB S b B) 0 0 := by
  refine kI_of (by decide +kernel) (Nat.le_of_ble_eq_true rfl) ?_
  intro p e s m args below meth c G hret hlocks hC hB h ls hl Q hQ
  have hl : lv_has ls 3 [(0, .ref (eX V (8 * b))), (1, .int (nI (j))), (2, .int (x))] := hl
  have hx := G.1
  have hcd := G.2.1
  refine lv_aload_n hx hcd dX0_canReestimate_0 rfl (lv_at hl 0 rfl) ?_
  refine lv_iload_n hx hcd dX0_canReestimate_1 rfl (lv_at hl 1 rfl) ?_
  refine k_Vi (As := [.int (nI (j))]) (rest := []) (b := eX V (8 * b)) G hC hB h (met_X0_hasStoryN l V S b B hb hn j (by omega)) mw_745 kv_X0_hasStory ⟨rfl, rfl⟩ ⟨Nat.le_of_ble_eq_true rfl, Nat.le_of_ble_eq_true rfl⟩ (r_bV hC h b hb) rfl rfl hl.1 (Nat.le_of_ble_eq_true rfl) dX0_canReestimate_2 ⟨Nat.le_of_ble_eq_true rfl, Nat.le_of_ble_eq_true rfl⟩ (fun r u H locs hp h => ?_)
  obtain ⟨rfl, rfl⟩ := hp
  refine lv_if_eq (tgt := 27) hx hcd dX0_canReestimate_5 (by decide) (fun c_1 => ?_) (fun c_1 => ?_)
  · have c_1 := bz0 c_1
    have f_3 := of_decide_eq_false c_1
    refine lv_iconst (v := nI 0) hx hcd dX0_canReestimate_27 (by decide) ?_
    exact k_retz hQ G hret hlocks h (Or.inl rfl) (⟨(bz_f (by first | assumption | exact band_f1 (by first | assumption | exact band_f1 (by first | assumption | exact decide_eq_false (by omega)) | exact band_f2 (by assumption)) | exact band_f2 (by first | assumption | exact decide_eq_false (by omega)))).symm, rfl⟩) (Nat.le_of_ble_eq_true rfl) (Nat.le_of_ble_eq_true rfl) dX0_canReestimate_28
  · have c_1 := bz1 c_1
    have f_2 := of_decide_eq_true c_1
    refine lv_iload_n hx hcd dX0_canReestimate_8 rfl (lv_at hl 2 rfl) ?_
    refine k_Si (As := [.int (x)]) (rest := []) G hC hB h (met_X0_isEstimate l V (setB S b B) x) mw_803 ks_X0_isEstimate ⟨rfl, rfl⟩ ⟨Nat.le_of_ble_eq_true rfl, Nat.le_of_ble_eq_true rfl⟩ rfl rfl hl.1 (Nat.le_of_ble_eq_true rfl) dX0_canReestimate_9 ⟨Nat.le_of_ble_eq_true rfl, Nat.le_of_ble_eq_true rfl⟩ (fun r u H locs hp h => ?_)
    obtain ⟨rfl, rfl⟩ := hp
    refine lv_if_eq (tgt := 27) hx hcd dX0_canReestimate_12 (by decide) (fun c_4 => ?_) (fun c_4 => ?_)
    · have c_4 := bz0 c_4
      refine lv_iconst (v := nI 0) hx hcd dX0_canReestimate_27 (by decide) ?_
      exact k_retz hQ G hret hlocks h (Or.inl rfl) (⟨(bz_f (by first | assumption | exact band_f1 (by first | assumption | exact band_f1 (by first | assumption | exact decide_eq_false (by omega)) | exact band_f2 (by assumption)) | exact band_f2 (by first | assumption | exact decide_eq_false (by omega)))).symm, rfl⟩) (Nat.le_of_ble_eq_true rfl) (Nat.le_of_ble_eq_true rfl) dX0_canReestimate_28
    · have c_4 := bz1 c_4
      refine lv_aload_n hx hcd dX0_canReestimate_15 rfl (lv_at hl 0 rfl) ?_
      refine lv_iload_n hx hcd dX0_canReestimate_16 rfl (lv_at hl 1 rfl) ?_
      refine k_Vi (As := [.int (nI (j))]) (rest := []) (b := eX V (8 * b)) G hC hB h (met_X0_isFinished l V S b B hb hz hn j (by omega)) mw_870 kv_X0_isFinished ⟨rfl, rfl⟩ ⟨Nat.le_of_ble_eq_true rfl, Nat.le_of_ble_eq_true rfl⟩ (r_bV hC h b hb) rfl rfl hl.1 (Nat.le_of_ble_eq_true rfl) dX0_canReestimate_17 ⟨Nat.le_of_ble_eq_true rfl, Nat.le_of_ble_eq_true rfl⟩ (fun r u H locs hp h => ?_)
      obtain ⟨rfl, rfl⟩ := hp
      refine lv_if_ne (tgt := 27) hx hcd dX0_canReestimate_20 (by decide) (fun c_5 => ?_) (fun c_5 => ?_)
      · have c_5 := bz1 c_5
        have f_6 := of_decide_eq_true (band_l c_5)
        have f_7 := of_decide_eq_true (band_r c_5)
        refine lv_iconst (v := nI 0) hx hcd dX0_canReestimate_27 (by decide) ?_
        exact k_retz hQ G hret hlocks h (Or.inl rfl) (⟨(bz_f (by first | assumption | exact band_f1 (by first | assumption | exact band_f1 (by first | assumption | exact decide_eq_false (by omega)) | exact band_f2 (by assumption)) | exact band_f2 (by first | assumption | exact decide_eq_false (by omega)))).symm, rfl⟩) (Nat.le_of_ble_eq_true rfl) (Nat.le_of_ble_eq_true rfl) dX0_canReestimate_28
      · have c_5 := bz0 c_5
        have f_8 : ¬ ((j < B.2 0) ∧ (B.1 1 j = 0)) := fun z => Bool.noConfusion (c_5.symm.trans (band_t (decide_eq_true z.1) (decide_eq_true z.2)))
        refine lv_iconst (v := nI 1) hx hcd dX0_canReestimate_23 (by decide) ?_
        refine lv_goto (tgt := 28) hx hcd dX0_canReestimate_24 (by decide) ?_
        exact k_retz hQ G hret hlocks h (Or.inr rfl) (⟨(bz_t (by first | assumption | exact band_t (by first | assumption | exact band_t (by first | assumption | exact decide_eq_true (by omega)) (by assumption)) (by first | assumption | exact decide_eq_true (by omega)))).symm, rfl⟩) (Nat.le_of_ble_eq_true rfl) (Nat.le_of_ble_eq_true rfl) dX0_canReestimate_28
set_option maxHeartbeats 4000000 in
set_option maxRecDepth 100000 in
/-- hasBlocker(i, j) -/
theorem met_X0_hasBlocker (l : Launch) (V : kEnv) (S : kCs) (b : Nat) (B : kBd) (hb : b < 12) (hz : kSm B) (hn : B.2 0 ≤ 16) (i : Nat) (hi : i < 2147483648) (j : Nat) (hj : j < 2147483648) : kI l yX0_hasBlocker cX0_hasBlocker 3 (some .boolean) { frames := 1, cells := 0, slots := 0, locals := 21 } V (cWs V) [.ref (eX V (8 * b)), .int (nI (i)), .int (nI (j))] (setB S b B) (fun r u => r = bz (((decide (i < B.2 0) && decide (j < B.2 0)) && (B.1 2 i).testBit j)) ∧ u = setB S b B) 0 0 := by
  refine kI_of (by decide +kernel) (Nat.le_of_ble_eq_true rfl) ?_
  intro p e s m args below meth c G hret hlocks hC hB h ls hl Q hQ
  have hl : lv_has ls 3 [(0, .ref (eX V (8 * b))), (1, .int (nI (i))), (2, .int (nI (j)))] := hl
  have hx := G.1
  have hcd := G.2.1
  refine lv_aload_n hx hcd dX0_hasBlocker_0 rfl (lv_at hl 0 rfl) ?_
  refine lv_iload_n hx hcd dX0_hasBlocker_1 rfl (lv_at hl 1 rfl) ?_
  refine k_Vi (As := [.int (nI (i))]) (rest := []) (b := eX V (8 * b)) G hC hB h (met_X0_hasStoryN l V S b B hb hn i (by omega)) mw_745 kv_X0_hasStory ⟨rfl, rfl⟩ ⟨Nat.le_of_ble_eq_true rfl, Nat.le_of_ble_eq_true rfl⟩ (r_bV hC h b hb) rfl rfl hl.1 (Nat.le_of_ble_eq_true rfl) dX0_hasBlocker_2 ⟨Nat.le_of_ble_eq_true rfl, Nat.le_of_ble_eq_true rfl⟩ (fun r u H locs hp h => ?_)
  obtain ⟨rfl, rfl⟩ := hp
  refine lv_if_eq (tgt := 33) hx hcd dX0_hasBlocker_5 (by decide) (fun c_1 => ?_) (fun c_1 => ?_)
  · have c_1 := bz0 c_1
    have f_3 := of_decide_eq_false c_1
    refine lv_iconst (v := nI 0) hx hcd dX0_hasBlocker_33 (by decide) ?_
    exact k_retz hQ G hret hlocks h (Or.inl rfl) (⟨(bz_f (by first | assumption | exact band_f1 (by first | assumption | exact band_f1 (by first | assumption | exact decide_eq_false (by omega)) | exact band_f2 (by first | assumption | exact decide_eq_false (by omega))) | exact band_f2 (by assumption))).symm, rfl⟩) (Nat.le_of_ble_eq_true rfl) (Nat.le_of_ble_eq_true rfl) dX0_hasBlocker_34
  · have c_1 := bz1 c_1
    have f_2 := of_decide_eq_true c_1
    refine lv_aload_n hx hcd dX0_hasBlocker_8 rfl (lv_at hl 0 rfl) ?_
    refine lv_iload_n hx hcd dX0_hasBlocker_9 rfl (lv_at hl 2 rfl) ?_
    refine k_Vi (As := [.int (nI (j))]) (rest := []) (b := eX V (8 * b)) G hC hB h (met_X0_hasStoryN l V S b B hb hn j (by omega)) mw_745 kv_X0_hasStory ⟨rfl, rfl⟩ ⟨Nat.le_of_ble_eq_true rfl, Nat.le_of_ble_eq_true rfl⟩ (r_bV hC h b hb) rfl rfl hl.1 (Nat.le_of_ble_eq_true rfl) dX0_hasBlocker_10 ⟨Nat.le_of_ble_eq_true rfl, Nat.le_of_ble_eq_true rfl⟩ (fun r u H locs hp h => ?_)
    obtain ⟨rfl, rfl⟩ := hp
    refine lv_if_eq (tgt := 33) hx hcd dX0_hasBlocker_13 (by decide) (fun c_4 => ?_) (fun c_4 => ?_)
    · have c_4 := bz0 c_4
      have f_6 := of_decide_eq_false c_4
      refine lv_iconst (v := nI 0) hx hcd dX0_hasBlocker_33 (by decide) ?_
      exact k_retz hQ G hret hlocks h (Or.inl rfl) (⟨(bz_f (by first | assumption | exact band_f1 (by first | assumption | exact band_f1 (by first | assumption | exact decide_eq_false (by omega)) | exact band_f2 (by first | assumption | exact decide_eq_false (by omega))) | exact band_f2 (by assumption))).symm, rfl⟩) (Nat.le_of_ble_eq_true rfl) (Nat.le_of_ble_eq_true rfl) dX0_hasBlocker_34
    · have c_4 := bz1 c_4
      have f_5 := of_decide_eq_true c_4
      refine lv_aload_n hx hcd dX0_hasBlocker_16 rfl (lv_at hl 0 rfl) ?_
      refine r_bA G hC h b 2 hb (by decide) mw_102 dX0_hasBlocker_17 ?_
      refine lv_iload_n hx hcd dX0_hasBlocker_20 rfl (lv_at hl 1 rfl) ?_
      refine r_bL G hC h b 2 i hb (by decide) (setB_at _ _ _) rfl (show i < 16 by omega) (x := nI (B.1 2 (i))) rfl dX0_hasBlocker_21 ?_
      have q_7 := hz.1 2 (i)
      refine lv_iload_n hx hcd dX0_hasBlocker_22 rfl (lv_at hl 2 rfl) ?_
      refine k_Ni (As := [.int (nI (B.1 2 (i))), .int (nI (j))]) (rest := []) G hC hB h (met_X3_holds l V (setB S b B) (B.1 2 (i)) j (by omega) (by omega)) hC.2.1.2.1 ks_X3_holds ⟨rfl, rfl⟩ ⟨Nat.le_of_ble_eq_true rfl, Nat.le_of_ble_eq_true rfl⟩ rfl rfl hl.1 (Nat.le_of_ble_eq_true rfl) dX0_hasBlocker_23 ⟨Nat.le_of_ble_eq_true rfl, Nat.le_of_ble_eq_true rfl⟩ (fun r u H locs hp h => ?_)
      obtain ⟨rfl, rfl⟩ := hp
      refine lv_if_eq (tgt := 33) hx hcd dX0_hasBlocker_26 (by decide) (fun c_8 => ?_) (fun c_8 => ?_)
      · have c_8 := bz0 c_8
        refine lv_iconst (v := nI 0) hx hcd dX0_hasBlocker_33 (by decide) ?_
        exact k_retz hQ G hret hlocks h (Or.inl rfl) (⟨(bz_f (by first | assumption | exact band_f1 (by first | assumption | exact band_f1 (by first | assumption | exact decide_eq_false (by omega)) | exact band_f2 (by first | assumption | exact decide_eq_false (by omega))) | exact band_f2 (by assumption))).symm, rfl⟩) (Nat.le_of_ble_eq_true rfl) (Nat.le_of_ble_eq_true rfl) dX0_hasBlocker_34
      · have c_8 := bz1 c_8
        refine lv_iconst (v := nI 1) hx hcd dX0_hasBlocker_29 (by decide) ?_
        refine lv_goto (tgt := 34) hx hcd dX0_hasBlocker_30 (by decide) ?_
        exact k_retz hQ G hret hlocks h (Or.inr rfl) (⟨(bz_t (by first | assumption | exact band_t (by first | assumption | exact band_t (by first | assumption | exact decide_eq_true (by omega)) (by first | assumption | exact decide_eq_true (by omega))) (by assumption))).symm, rfl⟩) (Nat.le_of_ble_eq_true rfl) (Nat.le_of_ble_eq_true rfl) dX0_hasBlocker_34
set_option maxHeartbeats 4000000 in
set_option maxRecDepth 100000 in
/-- canUnblock(i, j) -/
theorem met_X0_canUnblock (l : Launch) (V : kEnv) (S : kCs) (b : Nat) (B : kBd) (hb : b < 12) (hz : kSm B) (hn : B.2 0 ≤ 16) (i : Nat) (hi : i < 2147483648) (j : Nat) (hj : j < 2147483648) : kI l yX0_canUnblock cX0_canUnblock 3 (some .boolean) { frames := 2, cells := 0, slots := 0, locals := 43 } V (cWs V) [.ref (eX V (8 * b)), .int (nI (i)), .int (nI (j))] (setB S b B) (fun r u => r = bz (((decide (i < B.2 0) && decide (j < B.2 0)) && (B.1 2 i).testBit j)) ∧ u = setB S b B) 0 0 := by
  refine kI_of (by decide +kernel) (Nat.le_of_ble_eq_true rfl) ?_
  intro p e s m args below meth c G hret hlocks hC hB h ls hl Q hQ
  have hl : lv_has ls 3 [(0, .ref (eX V (8 * b))), (1, .int (nI (i))), (2, .int (nI (j)))] := hl
  have hx := G.1
  have hcd := G.2.1
  refine lv_aload_n hx hcd dX0_canUnblock_0 rfl (lv_at hl 0 rfl) ?_
  refine lv_iload_n hx hcd dX0_canUnblock_1 rfl (lv_at hl 1 rfl) ?_
  refine lv_iload_n hx hcd dX0_canUnblock_2 rfl (lv_at hl 2 rfl) ?_
  refine k_Vi (As := [.int (nI (i)), .int (nI (j))]) (rest := []) (b := eX V (8 * b)) G hC hB h (met_X0_hasBlocker l V S b B hb hz hn i (by omega) j (by omega)) mw_888 kv_X0_hasBlocker ⟨rfl, rfl⟩ ⟨Nat.le_of_ble_eq_true rfl, Nat.le_of_ble_eq_true rfl⟩ (r_bV hC h b hb) rfl rfl hl.1 (Nat.le_of_ble_eq_true rfl) dX0_canUnblock_3 ⟨Nat.le_of_ble_eq_true rfl, Nat.le_of_ble_eq_true rfl⟩ (fun r u H locs hp h => ?_)
  obtain ⟨rfl, rfl⟩ := hp
  exact k_retz hQ G hret hlocks h (bz01 _) (⟨rfl, rfl⟩) (Nat.le_of_ble_eq_true rfl) (Nat.le_of_ble_eq_true rfl) dX0_canUnblock_6
set_option maxHeartbeats 4000000 in
set_option maxRecDepth 100000 in
/-- canPlan(j) -/
theorem met_X0_canPlan (l : Launch) (V : kEnv) (S : kCs) (b : Nat) (B : kBd) (hb : b < 12) (hz : kSm B) (hn : B.2 0 ≤ 16) (j : Nat) (hj : j < 2147483648) : kI l yX0_canPlan cX0_canPlan 2 (some .boolean) { frames := 2, cells := 0, slots := 0, locals := 42 } V (cWs V) [.ref (eX V (8 * b)), .int (nI (j))] (setB S b B) (fun r u => r = bz (((decide (j < B.2 0) && !(B.2 2).testBit j) && decide (B.1 1 j ≠ 0))) ∧ u = setB S b B) 0 0 := by
  refine kI_of (by decide +kernel) (Nat.le_of_ble_eq_true rfl) ?_
  intro p e s m args below meth c G hret hlocks hC hB h ls hl Q hQ
  have hl : lv_has ls 2 [(0, .ref (eX V (8 * b))), (1, .int (nI (j)))] := hl
  have hx := G.1
  have hcd := G.2.1
  refine lv_aload_n hx hcd dX0_canPlan_0 rfl (lv_at hl 0 rfl) ?_
  refine lv_iload_n hx hcd dX0_canPlan_1 rfl (lv_at hl 1 rfl) ?_
  refine k_Vi (As := [.int (nI (j))]) (rest := []) (b := eX V (8 * b)) G hC hB h (met_X0_hasStoryN l V S b B hb hn j (by omega)) mw_745 kv_X0_hasStory ⟨rfl, rfl⟩ ⟨Nat.le_of_ble_eq_true rfl, Nat.le_of_ble_eq_true rfl⟩ (r_bV hC h b hb) rfl rfl hl.1 (Nat.le_of_ble_eq_true rfl) dX0_canPlan_2 ⟨Nat.le_of_ble_eq_true rfl, Nat.le_of_ble_eq_true rfl⟩ (fun r u H locs hp h => ?_)
  obtain ⟨rfl, rfl⟩ := hp
  refine lv_if_eq (tgt := 28) hx hcd dX0_canPlan_5 (by decide) (fun c_1 => ?_) (fun c_1 => ?_)
  · have c_1 := bz0 c_1
    have f_3 := of_decide_eq_false c_1
    refine lv_iconst (v := nI 0) hx hcd dX0_canPlan_28 (by decide) ?_
    exact k_retz hQ G hret hlocks h (Or.inl rfl) (⟨(bz_f (by first | assumption | exact band_f1 (by first | assumption | exact band_f1 (by first | assumption | exact decide_eq_false (by omega)) | exact band_f2 (nb_f (by assumption))) | exact band_f2 (by first | assumption | exact decide_eq_false (by omega)))).symm, rfl⟩) (Nat.le_of_ble_eq_true rfl) (Nat.le_of_ble_eq_true rfl) dX0_canPlan_29
  · have c_1 := bz1 c_1
    have f_2 := of_decide_eq_true c_1
    refine lv_aload_n hx hcd dX0_canPlan_8 rfl (lv_at hl 0 rfl) ?_
    refine lv_iload_n hx hcd dX0_canPlan_9 rfl (lv_at hl 1 rfl) ?_
    refine k_Vi (As := [.int (nI (j))]) (rest := []) (b := eX V (8 * b)) G hC hB h (met_X0_plans l V S b B hb hz hn j (by omega)) mw_1082 kv_X0_plans ⟨rfl, rfl⟩ ⟨Nat.le_of_ble_eq_true rfl, Nat.le_of_ble_eq_true rfl⟩ (r_bV hC h b hb) rfl rfl hl.1 (Nat.le_of_ble_eq_true rfl) dX0_canPlan_10 ⟨Nat.le_of_ble_eq_true rfl, Nat.le_of_ble_eq_true rfl⟩ (fun r u H locs hp h => ?_)
    obtain ⟨rfl, rfl⟩ := hp
    refine lv_if_ne (tgt := 28) hx hcd dX0_canPlan_13 (by decide) (fun c_4 => ?_) (fun c_4 => ?_)
    · have c_4 := bz1 c_4
      have f_5 := of_decide_eq_true (band_l c_4)
      have f_6 := (band_r c_4)
      refine lv_iconst (v := nI 0) hx hcd dX0_canPlan_28 (by decide) ?_
      exact k_retz hQ G hret hlocks h (Or.inl rfl) (⟨(bz_f (by first | assumption | exact band_f1 (by first | assumption | exact band_f1 (by first | assumption | exact decide_eq_false (by omega)) | exact band_f2 (nb_f (by assumption))) | exact band_f2 (by first | assumption | exact decide_eq_false (by omega)))).symm, rfl⟩) (Nat.le_of_ble_eq_true rfl) (Nat.le_of_ble_eq_true rfl) dX0_canPlan_29
    · have c_4 := bz0 c_4
      have f_7 : ¬ ((j < B.2 0) ∧ ((B.2 2).testBit j = true)) := fun z => Bool.noConfusion (c_4.symm.trans (band_t (decide_eq_true z.1) z.2))
      refine lv_aload_n hx hcd dX0_canPlan_16 rfl (lv_at hl 0 rfl) ?_
      refine lv_iload_n hx hcd dX0_canPlan_17 rfl (lv_at hl 1 rfl) ?_
      refine k_Vi (As := [.int (nI (j))]) (rest := []) (b := eX V (8 * b)) G hC hB h (met_X0_isFinished l V S b B hb hz hn j (by omega)) mw_870 kv_X0_isFinished ⟨rfl, rfl⟩ ⟨Nat.le_of_ble_eq_true rfl, Nat.le_of_ble_eq_true rfl⟩ (r_bV hC h b hb) rfl rfl hl.1 (Nat.le_of_ble_eq_true rfl) dX0_canPlan_18 ⟨Nat.le_of_ble_eq_true rfl, Nat.le_of_ble_eq_true rfl⟩ (fun r u H locs hp h => ?_)
      obtain ⟨rfl, rfl⟩ := hp
      refine lv_if_ne (tgt := 28) hx hcd dX0_canPlan_21 (by decide) (fun c_8 => ?_) (fun c_8 => ?_)
      · have c_8 := bz1 c_8
        have f_9 := of_decide_eq_true (band_l c_8)
        have f_10 := of_decide_eq_true (band_r c_8)
        refine lv_iconst (v := nI 0) hx hcd dX0_canPlan_28 (by decide) ?_
        exact k_retz hQ G hret hlocks h (Or.inl rfl) (⟨(bz_f (by first | assumption | exact band_f1 (by first | assumption | exact band_f1 (by first | assumption | exact decide_eq_false (by omega)) | exact band_f2 (nb_f (by assumption))) | exact band_f2 (by first | assumption | exact decide_eq_false (by omega)))).symm, rfl⟩) (Nat.le_of_ble_eq_true rfl) (Nat.le_of_ble_eq_true rfl) dX0_canPlan_29
      · have c_8 := bz0 c_8
        have f_11 : ¬ ((j < B.2 0) ∧ (B.1 1 j = 0)) := fun z => Bool.noConfusion (c_8.symm.trans (band_t (decide_eq_true z.1) (decide_eq_true z.2)))
        refine lv_iconst (v := nI 1) hx hcd dX0_canPlan_24 (by decide) ?_
        refine lv_goto (tgt := 29) hx hcd dX0_canPlan_25 (by decide) ?_
        exact k_retz hQ G hret hlocks h (Or.inr rfl) (⟨(bz_t (by first | assumption | exact band_t (by first | assumption | exact band_t (by first | assumption | exact decide_eq_true (by omega)) (nb_t (by first | assumption | (exact Bool.eq_false_iff.mpr (fun z => by simp_all))))) (by first | assumption | exact decide_eq_true (by omega)))).symm, rfl⟩) (Nat.le_of_ble_eq_true rfl) (Nat.le_of_ble_eq_true rfl) dX0_canPlan_29
set_option maxHeartbeats 4000000 in
set_option maxRecDepth 100000 in
/-- canUnplan(j) -/
theorem met_X0_canUnplan (l : Launch) (V : kEnv) (S : kCs) (b : Nat) (B : kBd) (hb : b < 12) (hz : kSm B) (hn : B.2 0 ≤ 16) (j : Nat) (hj : j < 2147483648) : kI l yX0_canUnplan cX0_canUnplan 2 (some .boolean) { frames := 2, cells := 0, slots := 0, locals := 42 } V (cWs V) [.ref (eX V (8 * b)), .int (nI (j))] (setB S b B) (fun r u => r = bz (((decide (j < B.2 0) && (B.2 2).testBit j) && decide (asgOf B j = 0))) ∧ u = setB S b B) 0 0 := by
  refine kI_of (by decide +kernel) (Nat.le_of_ble_eq_true rfl) ?_
  intro p e s m args below meth c G hret hlocks hC hB h ls hl Q hQ
  have hl : lv_has ls 2 [(0, .ref (eX V (8 * b))), (1, .int (nI (j)))] := hl
  have hx := G.1
  have hcd := G.2.1
  refine lv_aload_n hx hcd dX0_canUnplan_0 rfl (lv_at hl 0 rfl) ?_
  refine lv_iload_n hx hcd dX0_canUnplan_1 rfl (lv_at hl 1 rfl) ?_
  refine k_Vi (As := [.int (nI (j))]) (rest := []) (b := eX V (8 * b)) G hC hB h (met_X0_plans l V S b B hb hz hn j (by omega)) mw_1082 kv_X0_plans ⟨rfl, rfl⟩ ⟨Nat.le_of_ble_eq_true rfl, Nat.le_of_ble_eq_true rfl⟩ (r_bV hC h b hb) rfl rfl hl.1 (Nat.le_of_ble_eq_true rfl) dX0_canUnplan_2 ⟨Nat.le_of_ble_eq_true rfl, Nat.le_of_ble_eq_true rfl⟩ (fun r u H locs hp h => ?_)
  obtain ⟨rfl, rfl⟩ := hp
  refine lv_if_eq (tgt := 21) hx hcd dX0_canUnplan_5 (by decide) (fun c_1 => ?_) (fun c_1 => ?_)
  · have c_1 := bz0 c_1
    have f_4 : ¬ ((j < B.2 0) ∧ ((B.2 2).testBit j = true)) := fun z => Bool.noConfusion (c_1.symm.trans (band_t (decide_eq_true z.1) z.2))
    refine lv_iconst (v := nI 0) hx hcd dX0_canUnplan_21 (by decide) ?_
    exact k_retz hQ G hret hlocks h (Or.inl rfl) (⟨(bz_f (by first | assumption | exact band_f1 (by first | assumption | exact band_f1 (by first | assumption | exact decide_eq_false (by omega)) | exact band_f2 (by assumption)) | exact band_f2 (by first | assumption | exact decide_eq_false (by omega)))).symm, rfl⟩) (Nat.le_of_ble_eq_true rfl) (Nat.le_of_ble_eq_true rfl) dX0_canUnplan_22
  · have c_1 := bz1 c_1
    have f_2 := of_decide_eq_true (band_l c_1)
    have f_3 := (band_r c_1)
    refine lv_aload_n hx hcd dX0_canUnplan_8 rfl (lv_at hl 0 rfl) ?_
    refine lv_iload_n hx hcd dX0_canUnplan_9 rfl (lv_at hl 1 rfl) ?_
    refine k_Vi (As := [.int (nI (j))]) (rest := []) (b := eX V (8 * b)) G hC hB h (met_X0_assigneeOf l V S b B hb hz j (by omega)) mw_762 kv_X0_assigneeOf ⟨rfl, rfl⟩ ⟨Nat.le_of_ble_eq_true rfl, Nat.le_of_ble_eq_true rfl⟩ (r_bV hC h b hb) rfl rfl hl.1 (Nat.le_of_ble_eq_true rfl) dX0_canUnplan_10 ⟨Nat.le_of_ble_eq_true rfl, Nat.le_of_ble_eq_true rfl⟩ (fun r u H locs hp h => ?_)
    obtain ⟨rfl, rfl⟩ := hp
    have q_5 := asgOf_le B j
    refine lv_iconst (v := -1) hx hcd dX0_canUnplan_13 (by decide) ?_
    refine lv_icmp_ne (tgt := 21) hx hcd dX0_canUnplan_14 (by decide) (fun c_6 => ?_) (fun c_6 => ?_)
    · have c_6 := cNe (tA (n := asgOf B j) (by omega)) tm1 c_6
      refine lv_iconst (v := nI 0) hx hcd dX0_canUnplan_21 (by decide) ?_
      exact k_retz hQ G hret hlocks h (Or.inl rfl) (⟨(bz_f (by first | assumption | exact band_f1 (by first | assumption | exact band_f1 (by first | assumption | exact decide_eq_false (by omega)) | exact band_f2 (by assumption)) | exact band_f2 (by first | assumption | exact decide_eq_false (by omega)))).symm, rfl⟩) (Nat.le_of_ble_eq_true rfl) (Nat.le_of_ble_eq_true rfl) dX0_canUnplan_22
    · have c_6 := cEq (tA (n := asgOf B j) (by omega)) tm1 c_6
      refine lv_iconst (v := nI 1) hx hcd dX0_canUnplan_17 (by decide) ?_
      refine lv_goto (tgt := 22) hx hcd dX0_canUnplan_18 (by decide) ?_
      exact k_retz hQ G hret hlocks h (Or.inr rfl) (⟨(bz_t (by first | assumption | exact band_t (by first | assumption | exact band_t (by first | assumption | exact decide_eq_true (by omega)) (by assumption)) (by first | assumption | exact decide_eq_true (by omega)))).symm, rfl⟩) (Nat.le_of_ble_eq_true rfl) (Nat.le_of_ble_eq_true rfl) dX0_canUnplan_22
set_option maxHeartbeats 4000000 in
set_option maxRecDepth 100000 in
/-- canUnassign(d) -/
theorem met_X0_canUnassign (l : Launch) (V : kEnv) (S : kCs) (b : Nat) (B : kBd) (hb : b < 12) (hz : kSm B) (hm : B.2 1 ≤ 4) (d : Nat) (hd : d < 2147483648) : kI l yX0_canUnassign cX0_canUnassign 2 (some .boolean) { frames := 1, cells := 0, slots := 0, locals := 21 } V (cWs V) [.ref (eX V (8 * b)), .int (nI (d))] (setB S b B) (fun r u => r = bz ((decide (d < B.2 1) && decide (B.1 4 d ≠ 0))) ∧ u = setB S b B) 0 0 := by
  refine kI_of (by decide +kernel) (Nat.le_of_ble_eq_true rfl) ?_
  intro p e s m args below meth c G hret hlocks hC hB h ls hl Q hQ
  have hl : lv_has ls 2 [(0, .ref (eX V (8 * b))), (1, .int (nI (d)))] := hl
  have hx := G.1
  have hcd := G.2.1
  refine lv_aload_n hx hcd dX0_canUnassign_0 rfl (lv_at hl 0 rfl) ?_
  refine lv_iload_n hx hcd dX0_canUnassign_1 rfl (lv_at hl 1 rfl) ?_
  refine k_Vi (As := [.int (nI (d))]) (rest := []) (b := eX V (8 * b)) G hC hB h (met_X0_hasDeveloperN l V S b B hb hm d (by omega)) mw_766 kv_X0_hasDeveloper ⟨rfl, rfl⟩ ⟨Nat.le_of_ble_eq_true rfl, Nat.le_of_ble_eq_true rfl⟩ (r_bV hC h b hb) rfl rfl hl.1 (Nat.le_of_ble_eq_true rfl) dX0_canUnassign_2 ⟨Nat.le_of_ble_eq_true rfl, Nat.le_of_ble_eq_true rfl⟩ (fun r u H locs hp h => ?_)
  obtain ⟨rfl, rfl⟩ := hp
  refine lv_if_eq (tgt := 22) hx hcd dX0_canUnassign_5 (by decide) (fun c_1 => ?_) (fun c_1 => ?_)
  · have c_1 := bz0 c_1
    have f_3 := of_decide_eq_false c_1
    refine lv_iconst (v := nI 0) hx hcd dX0_canUnassign_22 (by decide) ?_
    exact k_retz hQ G hret hlocks h (Or.inl rfl) (⟨(bz_f (by first | assumption | exact band_f1 (by first | assumption | exact decide_eq_false (by omega)) | exact band_f2 (by first | assumption | exact decide_eq_false (by omega)))).symm, rfl⟩) (Nat.le_of_ble_eq_true rfl) (Nat.le_of_ble_eq_true rfl) dX0_canUnassign_23
  · have c_1 := bz1 c_1
    have f_2 := of_decide_eq_true c_1
    refine lv_aload_n hx hcd dX0_canUnassign_8 rfl (lv_at hl 0 rfl) ?_
    refine r_bA G hC h b 4 hb (by decide) mw_105 dX0_canUnassign_9 ?_
    refine lv_iload_n hx hcd dX0_canUnassign_12 rfl (lv_at hl 1 rfl) ?_
    refine r_bL G hC h b 4 d hb (by decide) (setB_at _ _ _) rfl (show d < 4 by omega) (x := nI (B.1 4 (d)) - 1) rfl dX0_canUnassign_13 ?_
    have q_4 := hz.1 4 (d)
    refine lv_iconst (v := -1) hx hcd dX0_canUnassign_14 (by decide) ?_
    refine lv_icmp_eq (tgt := 22) hx hcd dX0_canUnassign_15 (by decide) (fun c_5 => ?_) (fun c_5 => ?_)
    · have c_5 := cEq (tA (n := B.1 4 (d)) (by omega)) tm1 c_5
      refine lv_iconst (v := nI 0) hx hcd dX0_canUnassign_22 (by decide) ?_
      exact k_retz hQ G hret hlocks h (Or.inl rfl) (⟨(bz_f (by first | assumption | exact band_f1 (by first | assumption | exact decide_eq_false (by omega)) | exact band_f2 (by first | assumption | exact decide_eq_false (by omega)))).symm, rfl⟩) (Nat.le_of_ble_eq_true rfl) (Nat.le_of_ble_eq_true rfl) dX0_canUnassign_23
    · have c_5 := cNe (tA (n := B.1 4 (d)) (by omega)) tm1 c_5
      refine lv_iconst (v := nI 1) hx hcd dX0_canUnassign_18 (by decide) ?_
      refine lv_goto (tgt := 23) hx hcd dX0_canUnassign_19 (by decide) ?_
      exact k_retz hQ G hret hlocks h (Or.inr rfl) (⟨(bz_t (by first | assumption | exact band_t (by first | assumption | exact decide_eq_true (by omega)) (by first | assumption | exact decide_eq_true (by omega)))).symm, rfl⟩) (Nat.le_of_ble_eq_true rfl) (Nat.le_of_ble_eq_true rfl) dX0_canUnassign_23
set_option maxHeartbeats 4000000 in
set_option maxRecDepth 100000 in
/-- canAssign(i, d) -/
theorem met_X0_canAssign (l : Launch) (V : kEnv) (S : kCs) (b : Nat) (B : kBd) (hb : b < 12) (hz : kSm B) (hn : B.2 0 ≤ 16) (hm : B.2 1 ≤ 4) (i : Nat) (hi : i < 2147483648) (d : Nat) (hd : d < 2147483648) : kI l yX0_canAssign cX0_canAssign 3 (some .boolean) { frames := 2, cells := 0, slots := 0, locals := 42 } V (cWs V) [.ref (eX V (8 * b)), .int (nI (i)), .int (nI (d))] (setB S b B) (fun r u => r = bz ((((((decide (B.2 3 ≠ 0) && (decide (i < B.2 0) && (B.2 2).testBit i)) && decide (B.1 1 i ≠ 0)) && decide (asgOf B i = 0)) && decide (d < B.2 1)) && decide (B.1 4 d = 0))) ∧ u = setB S b B) 0 0 := by
  refine kI_of (by decide +kernel) (Nat.le_of_ble_eq_true rfl) ?_
  intro p e s m args below meth c G hret hlocks hC hB h ls hl Q hQ
  have hl : lv_has ls 3 [(0, .ref (eX V (8 * b))), (1, .int (nI (i))), (2, .int (nI (d)))] := hl
  have hx := G.1
  have hcd := G.2.1
  refine lv_aload_n hx hcd dX0_canAssign_0 rfl (lv_at hl 0 rfl) ?_
  refine r_bS G hC h b 3 hb (by decide) (setB_at _ _ _) mw_116 (x := nI (B.2 3)) rfl dX0_canAssign_1 ?_
  have q_1 := hz.2 3
  refine lv_if_eq (tgt := 54) hx hcd dX0_canAssign_4 (by decide) (fun c_2 => ?_) (fun c_2 => ?_)
  · have c_2 := cEq (tN (n := B.2 3) (by omega)) t0 c_2
    refine lv_iconst (v := nI 0) hx hcd dX0_canAssign_54 (by decide) ?_
    exact k_retz hQ G hret hlocks h (Or.inl rfl) (⟨(bz_f (by first | assumption | exact band_f1 (by first | assumption | exact band_f1 (by first | assumption | exact band_f1 (by first | assumption | exact band_f1 (by first | assumption | exact band_f1 (by first | assumption | exact decide_eq_false (by omega)) | exact band_f2 (by first | assumption | exact band_f1 (by first | assumption | exact decide_eq_false (by omega)) | exact band_f2 (by assumption))) | exact band_f2 (by first | assumption | exact decide_eq_false (by omega))) | exact band_f2 (by first | assumption | exact decide_eq_false (by omega))) | exact band_f2 (by first | assumption | exact decide_eq_false (by omega))) | exact band_f2 (by first | assumption | exact decide_eq_false (by omega)))).symm, rfl⟩) (Nat.le_of_ble_eq_true rfl) (Nat.le_of_ble_eq_true rfl) dX0_canAssign_55
  · have c_2 := cNe (tN (n := B.2 3) (by omega)) t0 c_2
    refine lv_aload_n hx hcd dX0_canAssign_7 rfl (lv_at hl 0 rfl) ?_
    refine lv_iload_n hx hcd dX0_canAssign_8 rfl (lv_at hl 1 rfl) ?_
    refine k_Vi (As := [.int (nI (i))]) (rest := []) (b := eX V (8 * b)) G hC hB h (met_X0_plans l V S b B hb hz hn i (by omega)) mw_1082 kv_X0_plans ⟨rfl, rfl⟩ ⟨Nat.le_of_ble_eq_true rfl, Nat.le_of_ble_eq_true rfl⟩ (r_bV hC h b hb) rfl rfl hl.1 (Nat.le_of_ble_eq_true rfl) dX0_canAssign_9 ⟨Nat.le_of_ble_eq_true rfl, Nat.le_of_ble_eq_true rfl⟩ (fun r u H locs hp h => ?_)
    obtain ⟨rfl, rfl⟩ := hp
    refine lv_if_eq (tgt := 54) hx hcd dX0_canAssign_12 (by decide) (fun c_3 => ?_) (fun c_3 => ?_)
    · have c_3 := bz0 c_3
      have f_6 : ¬ ((i < B.2 0) ∧ ((B.2 2).testBit i = true)) := fun z => Bool.noConfusion (c_3.symm.trans (band_t (decide_eq_true z.1) z.2))
      refine lv_iconst (v := nI 0) hx hcd dX0_canAssign_54 (by decide) ?_
      exact k_retz hQ G hret hlocks h (Or.inl rfl) (⟨(bz_f (by first | assumption | exact band_f1 (by first | assumption | exact band_f1 (by first | assumption | exact band_f1 (by first | assumption | exact band_f1 (by first | assumption | exact band_f1 (by first | assumption | exact decide_eq_false (by omega)) | exact band_f2 (by first | assumption | exact band_f1 (by first | assumption | exact decide_eq_false (by omega)) | exact band_f2 (by assumption))) | exact band_f2 (by first | assumption | exact decide_eq_false (by omega))) | exact band_f2 (by first | assumption | exact decide_eq_false (by omega))) | exact band_f2 (by first | assumption | exact decide_eq_false (by omega))) | exact band_f2 (by first | assumption | exact decide_eq_false (by omega)))).symm, rfl⟩) (Nat.le_of_ble_eq_true rfl) (Nat.le_of_ble_eq_true rfl) dX0_canAssign_55
    · have c_3 := bz1 c_3
      have f_4 := of_decide_eq_true (band_l c_3)
      have f_5 := (band_r c_3)
      refine lv_aload_n hx hcd dX0_canAssign_15 rfl (lv_at hl 0 rfl) ?_
      refine lv_iload_n hx hcd dX0_canAssign_16 rfl (lv_at hl 1 rfl) ?_
      refine k_Vi (As := [.int (nI (i))]) (rest := []) (b := eX V (8 * b)) G hC hB h (met_X0_isFinished l V S b B hb hz hn i (by omega)) mw_870 kv_X0_isFinished ⟨rfl, rfl⟩ ⟨Nat.le_of_ble_eq_true rfl, Nat.le_of_ble_eq_true rfl⟩ (r_bV hC h b hb) rfl rfl hl.1 (Nat.le_of_ble_eq_true rfl) dX0_canAssign_17 ⟨Nat.le_of_ble_eq_true rfl, Nat.le_of_ble_eq_true rfl⟩ (fun r u H locs hp h => ?_)
      obtain ⟨rfl, rfl⟩ := hp
      refine lv_if_ne (tgt := 54) hx hcd dX0_canAssign_20 (by decide) (fun c_7 => ?_) (fun c_7 => ?_)
      · have c_7 := bz1 c_7
        have f_8 := of_decide_eq_true (band_l c_7)
        have f_9 := of_decide_eq_true (band_r c_7)
        refine lv_iconst (v := nI 0) hx hcd dX0_canAssign_54 (by decide) ?_
        exact k_retz hQ G hret hlocks h (Or.inl rfl) (⟨(bz_f (by first | assumption | exact band_f1 (by first | assumption | exact band_f1 (by first | assumption | exact band_f1 (by first | assumption | exact band_f1 (by first | assumption | exact band_f1 (by first | assumption | exact decide_eq_false (by omega)) | exact band_f2 (by first | assumption | exact band_f1 (by first | assumption | exact decide_eq_false (by omega)) | exact band_f2 (by assumption))) | exact band_f2 (by first | assumption | exact decide_eq_false (by omega))) | exact band_f2 (by first | assumption | exact decide_eq_false (by omega))) | exact band_f2 (by first | assumption | exact decide_eq_false (by omega))) | exact band_f2 (by first | assumption | exact decide_eq_false (by omega)))).symm, rfl⟩) (Nat.le_of_ble_eq_true rfl) (Nat.le_of_ble_eq_true rfl) dX0_canAssign_55
      · have c_7 := bz0 c_7
        have f_10 : ¬ ((i < B.2 0) ∧ (B.1 1 i = 0)) := fun z => Bool.noConfusion (c_7.symm.trans (band_t (decide_eq_true z.1) (decide_eq_true z.2)))
        refine lv_aload_n hx hcd dX0_canAssign_23 rfl (lv_at hl 0 rfl) ?_
        refine lv_iload_n hx hcd dX0_canAssign_24 rfl (lv_at hl 1 rfl) ?_
        refine k_Vi (As := [.int (nI (i))]) (rest := []) (b := eX V (8 * b)) G hC hB h (met_X0_assigneeOf l V S b B hb hz i (by omega)) mw_762 kv_X0_assigneeOf ⟨rfl, rfl⟩ ⟨Nat.le_of_ble_eq_true rfl, Nat.le_of_ble_eq_true rfl⟩ (r_bV hC h b hb) rfl rfl hl.1 (Nat.le_of_ble_eq_true rfl) dX0_canAssign_25 ⟨Nat.le_of_ble_eq_true rfl, Nat.le_of_ble_eq_true rfl⟩ (fun r u H locs hp h => ?_)
        obtain ⟨rfl, rfl⟩ := hp
        have q_11 := asgOf_le B i
        refine lv_iconst (v := -1) hx hcd dX0_canAssign_28 (by decide) ?_
        refine lv_icmp_ne (tgt := 54) hx hcd dX0_canAssign_29 (by decide) (fun c_12 => ?_) (fun c_12 => ?_)
        · have c_12 := cNe (tA (n := asgOf B i) (by omega)) tm1 c_12
          refine lv_iconst (v := nI 0) hx hcd dX0_canAssign_54 (by decide) ?_
          exact k_retz hQ G hret hlocks h (Or.inl rfl) (⟨(bz_f (by first | assumption | exact band_f1 (by first | assumption | exact band_f1 (by first | assumption | exact band_f1 (by first | assumption | exact band_f1 (by first | assumption | exact band_f1 (by first | assumption | exact decide_eq_false (by omega)) | exact band_f2 (by first | assumption | exact band_f1 (by first | assumption | exact decide_eq_false (by omega)) | exact band_f2 (by assumption))) | exact band_f2 (by first | assumption | exact decide_eq_false (by omega))) | exact band_f2 (by first | assumption | exact decide_eq_false (by omega))) | exact band_f2 (by first | assumption | exact decide_eq_false (by omega))) | exact band_f2 (by first | assumption | exact decide_eq_false (by omega)))).symm, rfl⟩) (Nat.le_of_ble_eq_true rfl) (Nat.le_of_ble_eq_true rfl) dX0_canAssign_55
        · have c_12 := cEq (tA (n := asgOf B i) (by omega)) tm1 c_12
          refine lv_aload_n hx hcd dX0_canAssign_32 rfl (lv_at hl 0 rfl) ?_
          refine lv_iload_n hx hcd dX0_canAssign_33 rfl (lv_at hl 2 rfl) ?_
          refine k_Vi (As := [.int (nI (d))]) (rest := []) (b := eX V (8 * b)) G hC hB h (met_X0_hasDeveloperN l V S b B hb hm d (by omega)) mw_766 kv_X0_hasDeveloper ⟨rfl, rfl⟩ ⟨Nat.le_of_ble_eq_true rfl, Nat.le_of_ble_eq_true rfl⟩ (r_bV hC h b hb) rfl rfl hl.1 (Nat.le_of_ble_eq_true rfl) dX0_canAssign_34 ⟨Nat.le_of_ble_eq_true rfl, Nat.le_of_ble_eq_true rfl⟩ (fun r u H locs hp h => ?_)
          obtain ⟨rfl, rfl⟩ := hp
          refine lv_if_eq (tgt := 54) hx hcd dX0_canAssign_37 (by decide) (fun c_13 => ?_) (fun c_13 => ?_)
          · have c_13 := bz0 c_13
            have f_15 := of_decide_eq_false c_13
            refine lv_iconst (v := nI 0) hx hcd dX0_canAssign_54 (by decide) ?_
            exact k_retz hQ G hret hlocks h (Or.inl rfl) (⟨(bz_f (by first | assumption | exact band_f1 (by first | assumption | exact band_f1 (by first | assumption | exact band_f1 (by first | assumption | exact band_f1 (by first | assumption | exact band_f1 (by first | assumption | exact decide_eq_false (by omega)) | exact band_f2 (by first | assumption | exact band_f1 (by first | assumption | exact decide_eq_false (by omega)) | exact band_f2 (by assumption))) | exact band_f2 (by first | assumption | exact decide_eq_false (by omega))) | exact band_f2 (by first | assumption | exact decide_eq_false (by omega))) | exact band_f2 (by first | assumption | exact decide_eq_false (by omega))) | exact band_f2 (by first | assumption | exact decide_eq_false (by omega)))).symm, rfl⟩) (Nat.le_of_ble_eq_true rfl) (Nat.le_of_ble_eq_true rfl) dX0_canAssign_55
          · have c_13 := bz1 c_13
            have f_14 := of_decide_eq_true c_13
            refine lv_aload_n hx hcd dX0_canAssign_40 rfl (lv_at hl 0 rfl) ?_
            refine r_bA G hC h b 4 hb (by decide) mw_105 dX0_canAssign_41 ?_
            refine lv_iload_n hx hcd dX0_canAssign_44 rfl (lv_at hl 2 rfl) ?_
            refine r_bL G hC h b 4 d hb (by decide) (setB_at _ _ _) rfl (show d < 4 by omega) (x := nI (B.1 4 (d)) - 1) rfl dX0_canAssign_45 ?_
            have q_16 := hz.1 4 (d)
            refine lv_iconst (v := -1) hx hcd dX0_canAssign_46 (by decide) ?_
            refine lv_icmp_ne (tgt := 54) hx hcd dX0_canAssign_47 (by decide) (fun c_17 => ?_) (fun c_17 => ?_)
            · have c_17 := cNe (tA (n := B.1 4 (d)) (by omega)) tm1 c_17
              refine lv_iconst (v := nI 0) hx hcd dX0_canAssign_54 (by decide) ?_
              exact k_retz hQ G hret hlocks h (Or.inl rfl) (⟨(bz_f (by first | assumption | exact band_f1 (by first | assumption | exact band_f1 (by first | assumption | exact band_f1 (by first | assumption | exact band_f1 (by first | assumption | exact band_f1 (by first | assumption | exact decide_eq_false (by omega)) | exact band_f2 (by first | assumption | exact band_f1 (by first | assumption | exact decide_eq_false (by omega)) | exact band_f2 (by assumption))) | exact band_f2 (by first | assumption | exact decide_eq_false (by omega))) | exact band_f2 (by first | assumption | exact decide_eq_false (by omega))) | exact band_f2 (by first | assumption | exact decide_eq_false (by omega))) | exact band_f2 (by first | assumption | exact decide_eq_false (by omega)))).symm, rfl⟩) (Nat.le_of_ble_eq_true rfl) (Nat.le_of_ble_eq_true rfl) dX0_canAssign_55
            · have c_17 := cEq (tA (n := B.1 4 (d)) (by omega)) tm1 c_17
              refine lv_iconst (v := nI 1) hx hcd dX0_canAssign_50 (by decide) ?_
              refine lv_goto (tgt := 55) hx hcd dX0_canAssign_51 (by decide) ?_
              exact k_retz hQ G hret hlocks h (Or.inr rfl) (⟨(bz_t (by first | assumption | exact band_t (by first | assumption | exact band_t (by first | assumption | exact band_t (by first | assumption | exact band_t (by first | assumption | exact band_t (by first | assumption | exact decide_eq_true (by omega)) (by first | assumption | exact band_t (by first | assumption | exact decide_eq_true (by omega)) (by assumption))) (by first | assumption | exact decide_eq_true (by omega))) (by first | assumption | exact decide_eq_true (by omega))) (by first | assumption | exact decide_eq_true (by omega))) (by first | assumption | exact decide_eq_true (by omega)))).symm, rfl⟩) (Nat.le_of_ble_eq_true rfl) (Nat.le_of_ble_eq_true rfl) dX0_canAssign_55
set_option maxHeartbeats 4000000 in
set_option maxRecDepth 100000 in
/-- canStart(x) -/
theorem met_X0_canStart (l : Launch) (V : kEnv) (S : kCs) (b : Nat) (B : kBd) (hb : b < 12) (hz : kSm B) (x : Int32) : kI l yX0_canStart cX0_canStart 2 (some .boolean) { frames := 1, cells := 0, slots := 0, locals := 20 } V (cWs V) [.ref (eX V (8 * b)), .int (x)] (setB S b B) (fun r u => r = bz (((decide (1 ≤ (x : Int32).toInt ∧ (x : Int32).toInt ≤ 10) && decide (B.2 3 = 0)) && decide (B.2 7 < 9))) ∧ u = setB S b B) 0 0 := by
  refine kI_of (by decide +kernel) (Nat.le_of_ble_eq_true rfl) ?_
  intro p e s m args below meth c G hret hlocks hC hB h ls hl Q hQ
  have hl : lv_has ls 2 [(0, .ref (eX V (8 * b))), (1, .int (x))] := hl
  have hx := G.1
  have hcd := G.2.1
  refine lv_iload_n hx hcd dX0_canStart_0 rfl (lv_at hl 1 rfl) ?_
  refine k_Si (As := [.int (x)]) (rest := []) G hC hB h (met_X0_isSprintLength l V (setB S b B) x) mw_1172 ks_X0_isSprintLength ⟨rfl, rfl⟩ ⟨Nat.le_of_ble_eq_true rfl, Nat.le_of_ble_eq_true rfl⟩ rfl rfl hl.1 (Nat.le_of_ble_eq_true rfl) dX0_canStart_1 ⟨Nat.le_of_ble_eq_true rfl, Nat.le_of_ble_eq_true rfl⟩ (fun r u H locs hp h => ?_)
  obtain ⟨rfl, rfl⟩ := hp
  refine lv_if_eq (tgt := 27) hx hcd dX0_canStart_4 (by decide) (fun c_1 => ?_) (fun c_1 => ?_)
  · have c_1 := bz0 c_1
    have f_3 := of_decide_eq_false c_1
    refine lv_iconst (v := nI 0) hx hcd dX0_canStart_27 (by decide) ?_
    exact k_retz hQ G hret hlocks h (Or.inl rfl) (⟨(bz_f (by first | assumption | exact band_f1 (by first | assumption | exact band_f1 (by first | assumption | exact decide_eq_false (by omega)) | exact band_f2 (by first | assumption | exact decide_eq_false (by omega))) | exact band_f2 (by first | assumption | exact decide_eq_false (by omega)))).symm, rfl⟩) (Nat.le_of_ble_eq_true rfl) (Nat.le_of_ble_eq_true rfl) dX0_canStart_28
  · have c_1 := bz1 c_1
    have f_2 := of_decide_eq_true c_1
    refine lv_aload_n hx hcd dX0_canStart_7 rfl (lv_at hl 0 rfl) ?_
    refine r_bS G hC h b 3 hb (by decide) (setB_at _ _ _) mw_116 (x := nI (B.2 3)) rfl dX0_canStart_8 ?_
    have q_4 := hz.2 3
    refine lv_if_ne (tgt := 27) hx hcd dX0_canStart_11 (by decide) (fun c_5 => ?_) (fun c_5 => ?_)
    · have c_5 := cNe (tN (n := B.2 3) (by omega)) t0 c_5
      refine lv_iconst (v := nI 0) hx hcd dX0_canStart_27 (by decide) ?_
      exact k_retz hQ G hret hlocks h (Or.inl rfl) (⟨(bz_f (by first | assumption | exact band_f1 (by first | assumption | exact band_f1 (by first | assumption | exact decide_eq_false (by omega)) | exact band_f2 (by first | assumption | exact decide_eq_false (by omega))) | exact band_f2 (by first | assumption | exact decide_eq_false (by omega)))).symm, rfl⟩) (Nat.le_of_ble_eq_true rfl) (Nat.le_of_ble_eq_true rfl) dX0_canStart_28
    · have c_5 := cEq (tN (n := B.2 3) (by omega)) t0 c_5
      refine lv_aload_n hx hcd dX0_canStart_14 rfl (lv_at hl 0 rfl) ?_
      refine r_bS G hC h b 7 hb (by decide) (setB_at _ _ _) mw_124 (x := nI (B.2 7)) rfl dX0_canStart_15 ?_
      have q_6 := hz.2 7
      refine lv_bipush (v := nI 9) hx hcd dX0_canStart_18 (by decide) ?_
      refine lv_icmp_ge (tgt := 27) hx hcd dX0_canStart_20 (by decide) (fun c_7 => ?_) (fun c_7 => ?_)
      · have c_7 := cLe (tN (n := 9) (by decide)) (tN (n := B.2 7) (by omega)) c_7
        refine lv_iconst (v := nI 0) hx hcd dX0_canStart_27 (by decide) ?_
        exact k_retz hQ G hret hlocks h (Or.inl rfl) (⟨(bz_f (by first | assumption | exact band_f1 (by first | assumption | exact band_f1 (by first | assumption | exact decide_eq_false (by omega)) | exact band_f2 (by first | assumption | exact decide_eq_false (by omega))) | exact band_f2 (by first | assumption | exact decide_eq_false (by omega)))).symm, rfl⟩) (Nat.le_of_ble_eq_true rfl) (Nat.le_of_ble_eq_true rfl) dX0_canStart_28
      · have c_7 := cNle (tN (n := 9) (by decide)) (tN (n := B.2 7) (by omega)) c_7
        refine lv_iconst (v := nI 1) hx hcd dX0_canStart_23 (by decide) ?_
        refine lv_goto (tgt := 28) hx hcd dX0_canStart_24 (by decide) ?_
        exact k_retz hQ G hret hlocks h (Or.inr rfl) (⟨(bz_t (by first | assumption | exact band_t (by first | assumption | exact band_t (by first | assumption | exact decide_eq_true (by omega)) (by first | assumption | exact decide_eq_true (by omega))) (by first | assumption | exact decide_eq_true (by omega)))).symm, rfl⟩) (Nat.le_of_ble_eq_true rfl) (Nat.le_of_ble_eq_true rfl) dX0_canStart_28
set_option maxHeartbeats 4000000 in
set_option maxRecDepth 100000 in
/-- canPassDay() -/
theorem met_X0_canPassDay (l : Launch) (V : kEnv) (S : kCs) (b : Nat) (B : kBd) (hb : b < 12) (hz : kSm B) : kI l yX0_canPassDay cX0_canPassDay 1 (some .boolean) { frames := 0, cells := 0, slots := 0, locals := 0 } V (cWs V) [.ref (eX V (8 * b))] (setB S b B) (fun r u => r = bz ((decide (B.2 3 ≠ 0) && decide (B.2 5 < B.2 4))) ∧ u = setB S b B) 0 0 := by
  refine kI_of (by decide +kernel) (Nat.le_of_ble_eq_true rfl) ?_
  intro p e s m args below meth c G hret hlocks hC hB h ls hl Q hQ
  have hl : lv_has ls 1 [(0, .ref (eX V (8 * b)))] := hl
  have hx := G.1
  have hcd := G.2.1
  refine lv_aload_n hx hcd dX0_canPassDay_0 rfl (lv_at hl 0 rfl) ?_
  refine r_bS G hC h b 3 hb (by decide) (setB_at _ _ _) mw_116 (x := nI (B.2 3)) rfl dX0_canPassDay_1 ?_
  have q_1 := hz.2 3
  refine lv_if_eq (tgt := 22) hx hcd dX0_canPassDay_4 (by decide) (fun c_2 => ?_) (fun c_2 => ?_)
  · have c_2 := cEq (tN (n := B.2 3) (by omega)) t0 c_2
    refine lv_iconst (v := nI 0) hx hcd dX0_canPassDay_22 (by decide) ?_
    exact k_retz hQ G hret hlocks h (Or.inl rfl) (⟨(bz_f (by first | assumption | exact band_f1 (by first | assumption | exact decide_eq_false (by omega)) | exact band_f2 (by first | assumption | exact decide_eq_false (by omega)))).symm, rfl⟩) (Nat.le_of_ble_eq_true rfl) (Nat.le_of_ble_eq_true rfl) dX0_canPassDay_23
  · have c_2 := cNe (tN (n := B.2 3) (by omega)) t0 c_2
    refine lv_aload_n hx hcd dX0_canPassDay_7 rfl (lv_at hl 0 rfl) ?_
    refine r_bS G hC h b 5 hb (by decide) (setB_at _ _ _) mw_120 (x := nI (B.2 5)) rfl dX0_canPassDay_8 ?_
    have q_3 := hz.2 5
    refine lv_aload_n hx hcd dX0_canPassDay_11 rfl (lv_at hl 0 rfl) ?_
    refine r_bS G hC h b 4 hb (by decide) (setB_at _ _ _) mw_118 (x := nI (B.2 4)) rfl dX0_canPassDay_12 ?_
    have q_4 := hz.2 4
    refine lv_icmp_ge (tgt := 22) hx hcd dX0_canPassDay_15 (by decide) (fun c_5 => ?_) (fun c_5 => ?_)
    · have c_5 := cLe (tN (n := B.2 4) (by omega)) (tN (n := B.2 5) (by omega)) c_5
      refine lv_iconst (v := nI 0) hx hcd dX0_canPassDay_22 (by decide) ?_
      exact k_retz hQ G hret hlocks h (Or.inl rfl) (⟨(bz_f (by first | assumption | exact band_f1 (by first | assumption | exact decide_eq_false (by omega)) | exact band_f2 (by first | assumption | exact decide_eq_false (by omega)))).symm, rfl⟩) (Nat.le_of_ble_eq_true rfl) (Nat.le_of_ble_eq_true rfl) dX0_canPassDay_23
    · have c_5 := cNle (tN (n := B.2 4) (by omega)) (tN (n := B.2 5) (by omega)) c_5
      refine lv_iconst (v := nI 1) hx hcd dX0_canPassDay_18 (by decide) ?_
      refine lv_goto (tgt := 23) hx hcd dX0_canPassDay_19 (by decide) ?_
      exact k_retz hQ G hret hlocks h (Or.inr rfl) (⟨(bz_t (by first | assumption | exact band_t (by first | assumption | exact decide_eq_true (by omega)) (by first | assumption | exact decide_eq_true (by omega)))).symm, rfl⟩) (Nat.le_of_ble_eq_true rfl) (Nat.le_of_ble_eq_true rfl) dX0_canPassDay_23
set_option maxHeartbeats 4000000 in
set_option maxRecDepth 100000 in
/-- hasRecorded(x) -/
theorem met_X0_hasRecorded (l : Launch) (V : kEnv) (S : kCs) (b : Nat) (B : kBd) (hb : b < 12) (hz : kSm B) (hp5 : B.2 5 ≤ 10) (x : Int32) : kI l yX0_hasRecorded cX0_hasRecorded 2 (some .boolean) { frames := 0, cells := 0, slots := 0, locals := 0 } V (cWs V) [.ref (eX V (8 * b)), .int (x)] (setB S b B) (fun r u => r = bz ((decide (B.2 3 ≠ 0) && decide (0 ≤ (x : Int32).toInt ∧ (x : Int32).toInt ≤ (B.2 5 : Nat)))) ∧ u = setB S b B) 0 0 := by
  refine kI_of (by decide +kernel) (Nat.le_of_ble_eq_true rfl) ?_
  intro p e s m args below meth c G hret hlocks hC hB h ls hl Q hQ
  have hl : lv_has ls 2 [(0, .ref (eX V (8 * b))), (1, .int (x))] := hl
  have hx := G.1
  have hcd := G.2.1
  refine lv_aload_n hx hcd dX0_hasRecorded_0 rfl (lv_at hl 0 rfl) ?_
  refine r_bS G hC h b 3 hb (by decide) (setB_at _ _ _) mw_116 (x := nI (B.2 3)) rfl dX0_hasRecorded_1 ?_
  have q_1 := hz.2 3
  refine lv_if_eq (tgt := 32) hx hcd dX0_hasRecorded_4 (by decide) (fun c_2 => ?_) (fun c_2 => ?_)
  · have c_2 := cEq (tN (n := B.2 3) (by omega)) t0 c_2
    refine lv_iconst (v := nI 0) hx hcd dX0_hasRecorded_32 (by decide) ?_
    exact k_retz hQ G hret hlocks h (Or.inl rfl) (⟨(bz_f (by first | assumption | exact band_f1 (by first | assumption | exact decide_eq_false (by omega)) | exact band_f2 (by first | assumption | exact decide_eq_false (by omega)))).symm, rfl⟩) (Nat.le_of_ble_eq_true rfl) (Nat.le_of_ble_eq_true rfl) dX0_hasRecorded_33
  · have c_2 := cNe (tN (n := B.2 3) (by omega)) t0 c_2
    refine lv_iload_n hx hcd dX0_hasRecorded_7 rfl (lv_at hl 1 rfl) ?_
    refine lv_if_lt (tgt := 32) hx hcd dX0_hasRecorded_8 (by decide) (fun c_3 => ?_) (fun c_3 => ?_)
    · have c_3 := cLt (rfl : (x : Int32).toInt = (x : Int32).toInt) t0 c_3
      refine lv_iconst (v := nI 0) hx hcd dX0_hasRecorded_32 (by decide) ?_
      exact k_retz hQ G hret hlocks h (Or.inl rfl) (⟨(bz_f (by first | assumption | exact band_f1 (by first | assumption | exact decide_eq_false (by omega)) | exact band_f2 (by first | assumption | exact decide_eq_false (by omega)))).symm, rfl⟩) (Nat.le_of_ble_eq_true rfl) (Nat.le_of_ble_eq_true rfl) dX0_hasRecorded_33
    · have c_3 := cNlt (rfl : (x : Int32).toInt = (x : Int32).toInt) t0 c_3
      refine lv_iload_n hx hcd dX0_hasRecorded_11 rfl (lv_at hl 1 rfl) ?_
      refine lv_aload_n hx hcd dX0_hasRecorded_12 rfl (lv_at hl 0 rfl) ?_
      refine r_bS G hC h b 5 hb (by decide) (setB_at _ _ _) mw_120 (x := nI (B.2 5)) rfl dX0_hasRecorded_13 ?_
      have q_4 := hz.2 5
      refine lv_icmp_gt (tgt := 32) hx hcd dX0_hasRecorded_16 (by decide) (fun c_5 => ?_) (fun c_5 => ?_)
      · have c_5 := cLt (tN (n := B.2 5) (by omega)) (rfl : (x : Int32).toInt = (x : Int32).toInt) c_5
        refine lv_iconst (v := nI 0) hx hcd dX0_hasRecorded_32 (by decide) ?_
        exact k_retz hQ G hret hlocks h (Or.inl rfl) (⟨(bz_f (by first | assumption | exact band_f1 (by first | assumption | exact decide_eq_false (by omega)) | exact band_f2 (by first | assumption | exact decide_eq_false (by omega)))).symm, rfl⟩) (Nat.le_of_ble_eq_true rfl) (Nat.le_of_ble_eq_true rfl) dX0_hasRecorded_33
      · have c_5 := cNlt (tN (n := B.2 5) (by omega)) (rfl : (x : Int32).toInt = (x : Int32).toInt) c_5
        refine lv_iload_n hx hcd dX0_hasRecorded_19 rfl (lv_at hl 1 rfl) ?_
        refine lv_aload_n hx hcd dX0_hasRecorded_20 rfl (lv_at hl 0 rfl) ?_
        refine r_bA G hC h b 5 hb (by decide) mw_107 dX0_hasRecorded_21 ?_
        refine r_bN G hC h b 5 hb (by decide) (x := nI (11)) rfl dX0_hasRecorded_24 ?_
        refine lv_icmp_ge (tgt := 32) hx hcd dX0_hasRecorded_25 (by decide) (fun c_6 => ?_) (fun c_6 => ?_)
        · have c_6 := cLe (tN (n := 11) (by decide)) (rfl : (x : Int32).toInt = (x : Int32).toInt) c_6
          refine lv_iconst (v := nI 0) hx hcd dX0_hasRecorded_32 (by decide) ?_
          exact k_retz hQ G hret hlocks h (Or.inl rfl) (⟨(bz_f (by first | assumption | exact band_f1 (by first | assumption | exact decide_eq_false (by omega)) | exact band_f2 (by first | assumption | exact decide_eq_false (by omega)))).symm, rfl⟩) (Nat.le_of_ble_eq_true rfl) (Nat.le_of_ble_eq_true rfl) dX0_hasRecorded_33
        · have c_6 := cNle (tN (n := 11) (by decide)) (rfl : (x : Int32).toInt = (x : Int32).toInt) c_6
          refine lv_iconst (v := nI 1) hx hcd dX0_hasRecorded_28 (by decide) ?_
          refine lv_goto (tgt := 33) hx hcd dX0_hasRecorded_29 (by decide) ?_
          exact k_retz hQ G hret hlocks h (Or.inr rfl) (⟨(bz_t (by first | assumption | exact band_t (by first | assumption | exact decide_eq_true (by omega)) (by first | assumption | exact decide_eq_true (by omega)))).symm, rfl⟩) (Nat.le_of_ble_eq_true rfl) (Nat.le_of_ble_eq_true rfl) dX0_hasRecorded_33
set_option maxHeartbeats 4000000 in
set_option maxRecDepth 100000 in
/-- hasDay(x) -/
theorem met_X0_hasDay (l : Launch) (V : kEnv) (S : kCs) (b : Nat) (B : kBd) (hb : b < 12) (hz : kSm B) (x : Int32) : kI l yX0_hasDay cX0_hasDay 2 (some .boolean) { frames := 0, cells := 0, slots := 0, locals := 0 } V (cWs V) [.ref (eX V (8 * b)), .int (x)] (setB S b B) (fun r u => r = bz (((decide (B.2 3 ≠ 0) && decide (0 < B.2 4)) && decide (0 ≤ (x : Int32).toInt ∧ (x : Int32).toInt ≤ (B.2 4 : Nat)))) ∧ u = setB S b B) 0 0 := by
  refine kI_of (by decide +kernel) (Nat.le_of_ble_eq_true rfl) ?_
  intro p e s m args below meth c G hret hlocks hC hB h ls hl Q hQ
  have hl : lv_has ls 2 [(0, .ref (eX V (8 * b))), (1, .int (x))] := hl
  have hx := G.1
  have hcd := G.2.1
  refine lv_aload_n hx hcd dX0_hasDay_0 rfl (lv_at hl 0 rfl) ?_
  refine r_bS G hC h b 3 hb (by decide) (setB_at _ _ _) mw_116 (x := nI (B.2 3)) rfl dX0_hasDay_1 ?_
  have q_1 := hz.2 3
  refine lv_if_eq (tgt := 30) hx hcd dX0_hasDay_4 (by decide) (fun c_2 => ?_) (fun c_2 => ?_)
  · have c_2 := cEq (tN (n := B.2 3) (by omega)) t0 c_2
    refine lv_iconst (v := nI 0) hx hcd dX0_hasDay_30 (by decide) ?_
    exact k_retz hQ G hret hlocks h (Or.inl rfl) (⟨(bz_f (by first | assumption | exact band_f1 (by first | assumption | exact band_f1 (by first | assumption | exact decide_eq_false (by omega)) | exact band_f2 (by first | assumption | exact decide_eq_false (by omega))) | exact band_f2 (by first | assumption | exact decide_eq_false (by omega)))).symm, rfl⟩) (Nat.le_of_ble_eq_true rfl) (Nat.le_of_ble_eq_true rfl) dX0_hasDay_31
  · have c_2 := cNe (tN (n := B.2 3) (by omega)) t0 c_2
    refine lv_aload_n hx hcd dX0_hasDay_7 rfl (lv_at hl 0 rfl) ?_
    refine r_bS G hC h b 4 hb (by decide) (setB_at _ _ _) mw_118 (x := nI (B.2 4)) rfl dX0_hasDay_8 ?_
    have q_3 := hz.2 4
    refine lv_if_le (tgt := 30) hx hcd dX0_hasDay_11 (by decide) (fun c_4 => ?_) (fun c_4 => ?_)
    · have c_4 := cLe (tN (n := B.2 4) (by omega)) t0 c_4
      refine lv_iconst (v := nI 0) hx hcd dX0_hasDay_30 (by decide) ?_
      exact k_retz hQ G hret hlocks h (Or.inl rfl) (⟨(bz_f (by first | assumption | exact band_f1 (by first | assumption | exact band_f1 (by first | assumption | exact decide_eq_false (by omega)) | exact band_f2 (by first | assumption | exact decide_eq_false (by omega))) | exact band_f2 (by first | assumption | exact decide_eq_false (by omega)))).symm, rfl⟩) (Nat.le_of_ble_eq_true rfl) (Nat.le_of_ble_eq_true rfl) dX0_hasDay_31
    · have c_4 := cNle (tN (n := B.2 4) (by omega)) t0 c_4
      refine lv_iload_n hx hcd dX0_hasDay_14 rfl (lv_at hl 1 rfl) ?_
      refine lv_if_lt (tgt := 30) hx hcd dX0_hasDay_15 (by decide) (fun c_5 => ?_) (fun c_5 => ?_)
      · have c_5 := cLt (rfl : (x : Int32).toInt = (x : Int32).toInt) t0 c_5
        refine lv_iconst (v := nI 0) hx hcd dX0_hasDay_30 (by decide) ?_
        exact k_retz hQ G hret hlocks h (Or.inl rfl) (⟨(bz_f (by first | assumption | exact band_f1 (by first | assumption | exact band_f1 (by first | assumption | exact decide_eq_false (by omega)) | exact band_f2 (by first | assumption | exact decide_eq_false (by omega))) | exact band_f2 (by first | assumption | exact decide_eq_false (by omega)))).symm, rfl⟩) (Nat.le_of_ble_eq_true rfl) (Nat.le_of_ble_eq_true rfl) dX0_hasDay_31
      · have c_5 := cNlt (rfl : (x : Int32).toInt = (x : Int32).toInt) t0 c_5
        refine lv_iload_n hx hcd dX0_hasDay_18 rfl (lv_at hl 1 rfl) ?_
        refine lv_aload_n hx hcd dX0_hasDay_19 rfl (lv_at hl 0 rfl) ?_
        refine r_bS G hC h b 4 hb (by decide) (setB_at _ _ _) mw_118 (x := nI (B.2 4)) rfl dX0_hasDay_20 ?_
        have q_6 := hz.2 4
        refine lv_icmp_gt (tgt := 30) hx hcd dX0_hasDay_23 (by decide) (fun c_7 => ?_) (fun c_7 => ?_)
        · have c_7 := cLt (tN (n := B.2 4) (by omega)) (rfl : (x : Int32).toInt = (x : Int32).toInt) c_7
          refine lv_iconst (v := nI 0) hx hcd dX0_hasDay_30 (by decide) ?_
          exact k_retz hQ G hret hlocks h (Or.inl rfl) (⟨(bz_f (by first | assumption | exact band_f1 (by first | assumption | exact band_f1 (by first | assumption | exact decide_eq_false (by omega)) | exact band_f2 (by first | assumption | exact decide_eq_false (by omega))) | exact band_f2 (by first | assumption | exact decide_eq_false (by omega)))).symm, rfl⟩) (Nat.le_of_ble_eq_true rfl) (Nat.le_of_ble_eq_true rfl) dX0_hasDay_31
        · have c_7 := cNlt (tN (n := B.2 4) (by omega)) (rfl : (x : Int32).toInt = (x : Int32).toInt) c_7
          refine lv_iconst (v := nI 1) hx hcd dX0_hasDay_26 (by decide) ?_
          refine lv_goto (tgt := 31) hx hcd dX0_hasDay_27 (by decide) ?_
          exact k_retz hQ G hret hlocks h (Or.inr rfl) (⟨(bz_t (by first | assumption | exact band_t (by first | assumption | exact band_t (by first | assumption | exact decide_eq_true (by omega)) (by first | assumption | exact decide_eq_true (by omega))) (by first | assumption | exact decide_eq_true (by omega)))).symm, rfl⟩) (Nat.le_of_ble_eq_true rfl) (Nat.le_of_ble_eq_true rfl) dX0_hasDay_31
set_option maxHeartbeats 4000000 in
set_option maxRecDepth 100000 in
/-- hasEnded(x) -/
theorem met_X0_hasEnded (l : Launch) (V : kEnv) (S : kCs) (b : Nat) (B : kBd) (hb : b < 12) (hz : kSm B) (hp7 : B.2 7 ≤ 9) (x : Int32) : kI l yX0_hasEnded cX0_hasEnded 2 (some .boolean) { frames := 0, cells := 0, slots := 0, locals := 0 } V (cWs V) [.ref (eX V (8 * b)), .int (x)] (setB S b B) (fun r u => r = bz (decide (0 ≤ (x : Int32).toInt ∧ (x : Int32).toInt < (B.2 7 : Nat))) ∧ u = setB S b B) 0 0 := by
  refine kI_of (by decide +kernel) (Nat.le_of_ble_eq_true rfl) ?_
  intro p e s m args below meth c G hret hlocks hC hB h ls hl Q hQ
  have hl : lv_has ls 2 [(0, .ref (eX V (8 * b))), (1, .int (x))] := hl
  have hx := G.1
  have hcd := G.2.1
  refine lv_iload_n hx hcd dX0_hasEnded_0 rfl (lv_at hl 1 rfl) ?_
  refine lv_if_lt (tgt := 25) hx hcd dX0_hasEnded_1 (by decide) (fun c_1 => ?_) (fun c_1 => ?_)
  · have c_1 := cLt (rfl : (x : Int32).toInt = (x : Int32).toInt) t0 c_1
    refine lv_iconst (v := nI 0) hx hcd dX0_hasEnded_25 (by decide) ?_
    exact k_retz hQ G hret hlocks h (Or.inl rfl) (⟨(bz_f (by first | assumption | exact decide_eq_false (by omega))).symm, rfl⟩) (Nat.le_of_ble_eq_true rfl) (Nat.le_of_ble_eq_true rfl) dX0_hasEnded_26
  · have c_1 := cNlt (rfl : (x : Int32).toInt = (x : Int32).toInt) t0 c_1
    refine lv_iload_n hx hcd dX0_hasEnded_4 rfl (lv_at hl 1 rfl) ?_
    refine lv_aload_n hx hcd dX0_hasEnded_5 rfl (lv_at hl 0 rfl) ?_
    refine r_bS G hC h b 7 hb (by decide) (setB_at _ _ _) mw_124 (x := nI (B.2 7)) rfl dX0_hasEnded_6 ?_
    have q_2 := hz.2 7
    refine lv_icmp_ge (tgt := 25) hx hcd dX0_hasEnded_9 (by decide) (fun c_3 => ?_) (fun c_3 => ?_)
    · have c_3 := cLe (tN (n := B.2 7) (by omega)) (rfl : (x : Int32).toInt = (x : Int32).toInt) c_3
      refine lv_iconst (v := nI 0) hx hcd dX0_hasEnded_25 (by decide) ?_
      exact k_retz hQ G hret hlocks h (Or.inl rfl) (⟨(bz_f (by first | assumption | exact decide_eq_false (by omega))).symm, rfl⟩) (Nat.le_of_ble_eq_true rfl) (Nat.le_of_ble_eq_true rfl) dX0_hasEnded_26
    · have c_3 := cNle (tN (n := B.2 7) (by omega)) (rfl : (x : Int32).toInt = (x : Int32).toInt) c_3
      refine lv_iload_n hx hcd dX0_hasEnded_12 rfl (lv_at hl 1 rfl) ?_
      refine lv_aload_n hx hcd dX0_hasEnded_13 rfl (lv_at hl 0 rfl) ?_
      refine r_bA G hC h b 6 hb (by decide) mw_109 dX0_hasEnded_14 ?_
      refine r_bN G hC h b 6 hb (by decide) (x := nI (9)) rfl dX0_hasEnded_17 ?_
      refine lv_icmp_ge (tgt := 25) hx hcd dX0_hasEnded_18 (by decide) (fun c_4 => ?_) (fun c_4 => ?_)
      · have c_4 := cLe (tN (n := 9) (by decide)) (rfl : (x : Int32).toInt = (x : Int32).toInt) c_4
        refine lv_iconst (v := nI 0) hx hcd dX0_hasEnded_25 (by decide) ?_
        exact k_retz hQ G hret hlocks h (Or.inl rfl) (⟨(bz_f (by first | assumption | exact decide_eq_false (by omega))).symm, rfl⟩) (Nat.le_of_ble_eq_true rfl) (Nat.le_of_ble_eq_true rfl) dX0_hasEnded_26
      · have c_4 := cNle (tN (n := 9) (by decide)) (rfl : (x : Int32).toInt = (x : Int32).toInt) c_4
        refine lv_iconst (v := nI 1) hx hcd dX0_hasEnded_21 (by decide) ?_
        refine lv_goto (tgt := 26) hx hcd dX0_hasEnded_22 (by decide) ?_
        exact k_retz hQ G hret hlocks h (Or.inr rfl) (⟨(bz_t (by first | assumption | exact decide_eq_true (by omega))).symm, rfl⟩) (Nat.le_of_ble_eq_true rfl) (Nat.le_of_ble_eq_true rfl) dX0_hasEnded_26
