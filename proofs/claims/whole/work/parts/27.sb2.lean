theorem kv_X0_canAssign : kV yX0_canAssign cX0_canAssign 3 (some .boolean) 2 := ⟨mw_1079, mw_1080, mw_57, mw_1081, by decide, by decide, by decide +kernel⟩
theorem kv_X0_canPassDay : kV yX0_canPassDay cX0_canPassDay 1 (some .boolean) 0 := ⟨mw_1186, mw_1187, mw_57, mw_1188, by decide, by decide, by decide +kernel⟩
theorem kv_X0_canPlan : kV yX0_canPlan cX0_canPlan 2 (some .boolean) 1 := ⟨mw_1135, mw_1136, mw_57, mw_1137, by decide, by decide, by decide +kernel⟩
theorem kv_X0_canUnassign : kV yX0_canUnassign cX0_canUnassign 2 (some .boolean) 1 := ⟨mw_1098, mw_1099, mw_57, mw_1100, by decide, by decide, by decide +kernel⟩
theorem kv_X0_canUnplan : kV yX0_canUnplan cX0_canUnplan 2 (some .boolean) 1 := ⟨mw_1151, mw_1152, mw_57, mw_1153, by decide, by decide, by decide +kernel⟩
theorem kv_X0_chainLength : kV yX0_chainLength cX0_chainLength 4 (some .int) 1 := ⟨mw_1009, mw_1010, mw_57, mw_1011, by decide, by decide, by decide +kernel⟩
theorem kv_X0_closeInto : kV yX0_closeInto cX0_closeInto 4 none 1 := ⟨mw_707, mw_708, mw_57, mw_709, by decide, by decide, by decide +kernel⟩
theorem kv_X0_closeSprint : kV yX0_closeSprint cX0_closeSprint 3 (some .int) 0 := ⟨mw_1202, mw_1203, mw_57, mw_1204, by decide, by decide, by decide +kernel⟩
theorem kv_X0_hasEnded : kV yX0_hasEnded cX0_hasEnded 2 (some .boolean) 1 := ⟨mw_1257, mw_1258, mw_57, mw_1259, by decide, by decide, by decide +kernel⟩
theorem kv_X0_hasRecorded : kV yX0_hasRecorded cX0_hasRecorded 2 (some .boolean) 1 := ⟨mw_675, mw_676, mw_57, mw_677, by decide, by decide, by decide +kernel⟩
theorem kv_X0_putAssignment : kV yX0_putAssignment cX0_putAssignment 3 none 2 := ⟨mw_1087, mw_1088, mw_57, mw_1089, by decide, by decide, by decide +kernel⟩
theorem kv_X0_putIntoPlan : kV yX0_putIntoPlan cX0_putIntoPlan 2 (some .int) 1 := ⟨mw_1139, mw_1140, mw_57, mw_1141, by decide, by decide, by decide +kernel⟩
theorem kv_X0_removeAssignment : kV yX0_removeAssignment cX0_removeAssignment 3 (some .int) 1 := ⟨mw_1102, mw_1103, mw_57, mw_1104, by decide, by decide, by decide +kernel⟩
theorem kv_X0_removeFromPlan : kV yX0_removeFromPlan cX0_removeFromPlan 2 (some .int) 1 := ⟨mw_1155, mw_1156, mw_57, mw_1157, by decide, by decide, by decide +kernel⟩
theorem kv_X0_spendDay : kV yX0_spendDay cX0_spendDay 2 (some .int) 0 := ⟨mw_1190, mw_1191, mw_57, mw_1192, by decide, by decide, by decide +kernel⟩
theorem kv_X0_storyAt : kV yX0_storyAt cX0_storyAt 5 (some .int) 1 := ⟨mw_1021, mw_1022, mw_57, mw_1023, by decide, by decide, by decide +kernel⟩
theorem kv_X2_forgetAll : kV yX2_forgetAll cX2_forgetAll 1 none 0 := ⟨mw_1463, mw_1464, mw_58, mw_1465, by decide, by decide, by decide +kernel⟩
theorem kv_X2_takeBackInto : kV yX2_takeBackInto cX2_takeBackInto 3 none 1 := ⟨mw_1452, mw_1453, mw_58, mw_1454, by decide, by decide, by decide +kernel⟩
theorem kv_X3_requireDeveloper : kV yX3_requireDeveloper cX3_requireDeveloper 2 none 1 := ⟨mw_1075, mw_8, mw_56, mw_1076, by decide, by decide, by decide +kernel⟩
theorem ks_X3_requireFound : kSt yX3_requireFound cX3_requireFound 1 none 1 := ⟨mw_1029, mw_56, mw_1030, by decide, by decide, by decide +kernel⟩
set_option maxHeartbeats 4000000 in
set_option maxRecDepth 100000 in
/-- dependsOnByClosure -/
theorem met_X3_dependsOnByClosure (l : Launch) (hst : l.stackTraces = false) (V : kEnv) (S : kCs) (B : kBd) (hI : bI B) (x : Int32) (y : Int32) : kX l yX3_dependsOnByClosure cX3_dependsOnByClosure 3 (some .boolean) { frames := 8, cells := 6, slots := 36, locals := 131 } V (cWs V) [.ref (eX V 96), .int (x), .int (y)] (setB S 0 B) (fun r u => ∃ (j : Nat) (k : Nat), x = nI j ∧ j < B.2 0 ∧ y = nI k ∧ k < B.2 0 ∧ r = bz ((wsO B 16 j).testBit k) ∧ u = clW (setB S 0 B) 16 (wsO B 16)) (fun E u => (E = "java/lang/IndexOutOfBoundsException" ∧ inR (B.2 0) x = false ∧ u = setB S 0 B) ∨ (∃ (j : Nat), x = nI j ∧ j < B.2 0 ∧ E = "java/lang/IndexOutOfBoundsException" ∧ inR (B.2 0) y = false ∧ u = setB S 0 B)) 6 36 := by
  refine kX_of (by decide +kernel) (Nat.le_of_ble_eq_true rfl) ?_
  intro pg e s m args below meth c G hret hlocks htab hC hB h ls hl Q hQ
  have hl : lv_has ls 3 [(0, .ref (eX V 96)), (1, .int (x)), (2, .int (y))] := hl
  have hx := G.1
  have hcd := G.2.1
  have hI0 := hI
  obtain ⟨hz, hbn, hn, hm, h3, h54, h4, h7, hr, he, ha, hact, h5⟩ := hI
  refine lv_aload_n hx hcd dX3_dependsOnByClosure_0 rfl (lv_at hl 0 rfl) ?_
  refine lv_iload_n hx hcd dX3_dependsOnByClosure_1 rfl (lv_at hl 1 rfl) ?_
  refine kx_Vv (As := [.int (x)]) (rest := []) (b := eX V 96) G hC hB h (met_X3_requireStory l hst V S B hI0 x) mw_846 kv_X3_requireStory ⟨rfl, rfl⟩ ⟨Nat.le_of_ble_eq_true rfl, Nat.le_of_ble_eq_true rfl⟩ (r_sV hC h) rfl rfl hl.1 (Nat.le_of_ble_eq_true rfl) dX3_dependsOnByClosure_2 ⟨Nat.le_of_ble_eq_true rfl, Nat.le_of_ble_eq_true rfl⟩ (fun E ce q9 u t H1 locs1 ht9 hpx hb9 hS9 e1 e2 e3 => by subst hQ; exact kx_pass htab hlocks ht9 (Or.inl (hpx)) hb9 hS9 e1 e2 e3 (Nat.le_of_ble_eq_true rfl) (Nat.le_of_ble_eq_true rfl)) (fun u H locs hp h => ?_)
  obtain ⟨hs1, hu⟩ := hp; rw [hu] at h
  obtain ⟨j, hj, rfl⟩ := inR_ex (by omega) hs1
  refine lv_aload_n hx hcd dX3_dependsOnByClosure_5 rfl (lv_at hl 0 rfl) ?_
  refine lv_iload_n hx hcd dX3_dependsOnByClosure_6 rfl (lv_at hl 2 rfl) ?_
  refine kx_Vv (As := [.int (y)]) (rest := []) (b := eX V 96) G hC hB h (met_X3_requireStory l hst V S B hI0 y) mw_846 kv_X3_requireStory ⟨rfl, rfl⟩ ⟨Nat.le_of_ble_eq_true rfl, Nat.le_of_ble_eq_true rfl⟩ (r_sV hC h) rfl rfl hl.1 (Nat.le_of_ble_eq_true rfl) dX3_dependsOnByClosure_7 ⟨Nat.le_of_ble_eq_true rfl, Nat.le_of_ble_eq_true rfl⟩ (fun E ce q9 u t H1 locs1 ht9 hpx hb9 hS9 e1 e2 e3 => by subst hQ; exact kx_pass htab hlocks ht9 (Or.inr (⟨j, rfl, hj, hpx⟩)) hb9 hS9 e1 e2 e3 (Nat.le_of_ble_eq_true rfl) (Nat.le_of_ble_eq_true rfl)) (fun u H locs hp h => ?_)
  obtain ⟨hs2, hu⟩ := hp; rw [hu] at h
  obtain ⟨k, hk, rfl⟩ := inR_ex (by omega) hs2
  refine lv_aload_n hx hcd dX3_dependsOnByClosure_10 rfl (lv_at hl 0 rfl) ?_
  refine va_get (D := eD V) (ci := 7) (v := .ref (eX V (8 * 0))) (C := RX3) (T := TX3) (N := 11) hx hcd G.2.2.2.2 iwX3 G.2.2.2.1 hC.1 h.1 (96 + 0) (cF_at V _ (i := 0) (by decide)) rfl 0 (by decide) (G.2.2.2.2 _ mw_242) (fun y h9 => h9) rfl dX3_dependsOnByClosure_11 ?_
  refine lv_aload_n hx hcd dX3_dependsOnByClosure_14 rfl (lv_at hl 0 rfl) ?_
  refine va_get (D := eD V) (ci := 7) (v := .ref (eX V (100 + 0))) (C := RX3) (T := TX3) (N := 11) hx hcd G.2.2.2.2 iwX3 G.2.2.2.1 hC.1 h.1 (96 + 0) (cF_at V _ (i := 0) (by decide)) rfl 7 (by decide) (G.2.2.2.2 _ mw_249) (fun y h9 => h9) rfl dX3_dependsOnByClosure_15 ?_
  refine k_Vv (As := [.ref (eX V (100 + 0))]) (rest := []) (b := eX V (8 * 0)) G hC hB h (met_X0_closeInto l V S 0 B (by omega) hz) mw_706 kv_X0_closeInto ⟨rfl, rfl⟩ ⟨Nat.le_of_ble_eq_true rfl, Nat.le_of_ble_eq_true rfl⟩ (r_bV hC h 0 (by omega)) rfl rfl hl.1 (Nat.le_of_ble_eq_true rfl) dX3_dependsOnByClosure_18 ⟨Nat.le_of_ble_eq_true rfl, Nat.le_of_ble_eq_true rfl⟩ (fun u H locs hp h => ?_)
  obtain rfl := hp
  refine lv_aload_n hx hcd dX3_dependsOnByClosure_21 rfl (lv_at hl 0 rfl) ?_
  refine va_get (D := eD V) (ci := 7) (v := .ref (eX V (100 + 0))) (C := RX3) (T := TX3) (N := 11) hx hcd G.2.2.2.2 iwX3 G.2.2.2.1 hC.1 h.1 (96 + 0) (cF_at V _ (i := 0) (by decide)) rfl 7 (by decide) (G.2.2.2.2 _ mw_249) (fun y h9 => h9) rfl dX3_dependsOnByClosure_22 ?_
  refine lv_iload_n hx hcd dX3_dependsOnByClosure_25 rfl (lv_at hl 1 rfl) ?_
  refine r_aL G hC h 0 (j) (by decide) rfl (show j < 16 by omega) (x := nI ((wsO B 16) (j))) (clW_at _ _ (by omega)) dX3_dependsOnByClosure_26 ?_
  have q_1 := wsO_lt hz 16 (j)
  refine lv_iload_n hx hcd dX3_dependsOnByClosure_27 rfl (lv_at hl 2 rfl) ?_
  refine k_Si (As := [.int (nI ((wsO B 16) (j))), .int (nI (k))]) (rest := []) G hC hB h (met_X3_holds l V (clW (setB S 0 B) 16 (wsO B 16)) ((wsO B 16) (j)) k (by omega) (by omega)) mw_732 ks_X3_holds ⟨rfl, rfl⟩ ⟨Nat.le_of_ble_eq_true rfl, Nat.le_of_ble_eq_true rfl⟩ rfl rfl hl.1 (Nat.le_of_ble_eq_true rfl) dX3_dependsOnByClosure_28 ⟨Nat.le_of_ble_eq_true rfl, Nat.le_of_ble_eq_true rfl⟩ (fun r u H locs hp h => ?_)
  obtain ⟨rfl, hu⟩ := hp
  rw [hu] at h
  exact kx_retz hQ G hret hlocks h (bz01 _) (⟨j, k, rfl, hj, rfl, hk, rfl, rfl⟩) (Nat.le_of_ble_eq_true rfl) (Nat.le_of_ble_eq_true rfl) dX3_dependsOnByClosure_31
set_option maxHeartbeats 4000000 in
set_option maxRecDepth 100000 in
/-- longestChain -/
theorem met_X3_longestChain (l : Launch) (hst : l.stackTraces = false) (V : kEnv) (S : kCs) (B : kBd) (hI : bI B) (x : Int32) : kX l yX3_longestChain cX3_longestChain 2 (some .int) { frames := 8, cells := 6, slots := 36, locals := 131 } V (cWs V) [.ref (eX V 96), .int (x)] (setB S 0 B) (fun r u => ∃ (j : Nat), x = nI j ∧ j < B.2 0 ∧ r = nI (chl B j) ∧ u = setB S 0 B) (fun E u => (E = "java/lang/IndexOutOfBoundsException" ∧ inR (B.2 0) x = false ∧ u = setB S 0 B)) 6 36 := by
  refine kX_of (by decide +kernel) (Nat.le_of_ble_eq_true rfl) ?_
  intro pg e s m args below meth c G hret hlocks htab hC hB h ls hl Q hQ
  have hl : lv_has ls 2 [(0, .ref (eX V 96)), (1, .int (x))] := hl
  have hx := G.1
  have hcd := G.2.1
  have hI0 := hI
  obtain ⟨hz, hbn, hn, hm, h3, h54, h4, h7, hr, he, ha, hact, h5⟩ := hI
  refine lv_aload_n hx hcd dX3_longestChain_0 rfl (lv_at hl 0 rfl) ?_
  refine lv_iload_n hx hcd dX3_longestChain_1 rfl (lv_at hl 1 rfl) ?_
  refine kx_Vv (As := [.int (x)]) (rest := []) (b := eX V 96) G hC hB h (met_X3_requireStory l hst V S B hI0 x) mw_846 kv_X3_requireStory ⟨rfl, rfl⟩ ⟨Nat.le_of_ble_eq_true rfl, Nat.le_of_ble_eq_true rfl⟩ (r_sV hC h) rfl rfl hl.1 (Nat.le_of_ble_eq_true rfl) dX3_longestChain_2 ⟨Nat.le_of_ble_eq_true rfl, Nat.le_of_ble_eq_true rfl⟩ (fun E ce q9 u t H1 locs1 ht9 hpx hb9 hS9 e1 e2 e3 => by subst hQ; exact kx_pass htab hlocks ht9 (hpx) hb9 hS9 e1 e2 e3 (Nat.le_of_ble_eq_true rfl) (Nat.le_of_ble_eq_true rfl)) (fun u H locs hp h => ?_)
  obtain ⟨hs1, hu⟩ := hp; rw [hu] at h
  obtain ⟨j, hj, rfl⟩ := inR_ex (by omega) hs1
  refine lv_aload_n hx hcd dX3_longestChain_5 rfl (lv_at hl 0 rfl) ?_
  refine va_get (D := eD V) (ci := 7) (v := .ref (eX V (8 * 0))) (C := RX3) (T := TX3) (N := 11) hx hcd G.2.2.2.2 iwX3 G.2.2.2.1 hC.1 h.1 (96 + 0) (cF_at V _ (i := 0) (by decide)) rfl 0 (by decide) (G.2.2.2.2 _ mw_242) (fun y h9 => h9) rfl dX3_longestChain_6 ?_
  refine lv_iload_n hx hcd dX3_longestChain_9 rfl (lv_at hl 1 rfl) ?_
  refine k_Vi (As := [.int (nI (j))]) (rest := []) (b := eX V (8 * 0)) G hC hB h (met_X0_chainLength l V S 0 B (by omega) hz j (by omega)) mw_1008 kv_X0_chainLength ⟨rfl, rfl⟩ ⟨Nat.le_of_ble_eq_true rfl, Nat.le_of_ble_eq_true rfl⟩ (r_bV hC h 0 (by omega)) rfl rfl hl.1 (Nat.le_of_ble_eq_true rfl) dX3_longestChain_10 ⟨Nat.le_of_ble_eq_true rfl, Nat.le_of_ble_eq_true rfl⟩ (fun r u H locs hp h => ?_)
  obtain ⟨rfl, rfl⟩ := hp
  exact kx_reti hQ G hret hlocks h (⟨j, rfl, hj, rfl, rfl⟩) (Nat.le_of_ble_eq_true rfl) (Nat.le_of_ble_eq_true rfl) dX3_longestChain_13
set_option maxHeartbeats 4000000 in
set_option maxRecDepth 100000 in
/-- storyInOrder -/
theorem met_X3_storyInOrder (l : Launch) (hst : l.stackTraces = false) (V : kEnv) (S : kCs) (B : kBd) (hI : bI B) (x : Int32) : kX l yX3_storyInOrder cX3_storyInOrder 3 (some .int) { frames := 7, cells := 6, slots := 36, locals := 110 } V (cWs V) [.ref (eX V 96), .int (x)] (setB S 0 B) (fun r u => sat B (x : Int32).toInt ≠ 0 ∧ r = nI (sat B (x : Int32).toInt) - 1 ∧ u = setB S 0 B) (fun E u => (E = "java/util/NoSuchElementException" ∧ sat B (x : Int32).toInt = 0 ∧ u = setB S 0 B)) 6 36 := by
  refine kX_of (by decide +kernel) (Nat.le_of_ble_eq_true rfl) ?_
  intro pg e s m args below meth c G hret hlocks htab hC hB h ls hl Q hQ
  have hl : lv_has ls 3 [(0, .ref (eX V 96)), (1, .int (x))] := hl
  have hx := G.1
  have hcd := G.2.1
  have hI0 := hI
  obtain ⟨hz, hbn, hn, hm, h3, h54, h4, h7, hr, he, ha, hact, h5⟩ := hI
  have hsat := sat_le B (x : Int32).toInt
  refine lv_aload_n hx hcd dX3_storyInOrder_0 rfl (lv_at hl 0 rfl) ?_
  refine va_get (D := eD V) (ci := 7) (v := .ref (eX V (8 * 0))) (C := RX3) (T := TX3) (N := 11) hx hcd G.2.2.2.2 iwX3 G.2.2.2.1 hC.1 h.1 (96 + 0) (cF_at V _ (i := 0) (by decide)) rfl 0 (by decide) (G.2.2.2.2 _ mw_242) (fun y h9 => h9) rfl dX3_storyInOrder_1 ?_
  refine lv_iload_n hx hcd dX3_storyInOrder_4 rfl (lv_at hl 1 rfl) ?_
  refine k_Vi (As := [.int (x)]) (rest := []) (b := eX V (8 * 0)) G hC hB h (met_X0_storyAt l V S 0 B (by omega) hz hn x) mw_1020 kv_X0_storyAt ⟨rfl, rfl⟩ ⟨Nat.le_of_ble_eq_true rfl, Nat.le_of_ble_eq_true rfl⟩ (r_bV hC h 0 (by omega)) rfl rfl hl.1 (Nat.le_of_ble_eq_true rfl) dX3_storyInOrder_5 ⟨Nat.le_of_ble_eq_true rfl, Nat.le_of_ble_eq_true rfl⟩ (fun r u H locs hp h => ?_)
  obtain ⟨rfl, rfl⟩ := hp
  refine lv_istore_n (lv' := [(2, .int (nI (sat B (x : Int32).toInt) - 1)), (0, .ref (eX V 96)), (1, .int (x))]) hx hcd dX3_storyInOrder_8 rfl hl (by decide) rfl (fun ls hl => ?_)
  refine lv_iload_n hx hcd dX3_storyInOrder_9 rfl (lv_at hl 0 rfl) ?_
  refine lv_iconst (v := -1) hx hcd dX3_storyInOrder_10 (by decide) ?_
  refine lv_icmp_eq (tgt := 18) hx hcd dX3_storyInOrder_11 (by decide) (fun c_1 => ?_) (fun c_1 => ?_)
  · have c_1 := cEq (tA (n := sat B (x : Int32).toInt) (by omega)) tm1 c_1
    refine lv_iconst (v := nI 0) hx hcd dX3_storyInOrder_18 (by decide) ?_
    refine kx_Sv (As := [.int (nI 0)]) (rest := []) G hC hB h (met_X3_requireFound l hst V (setB S 0 B) false) mw_1028 ks_X3_requireFound ⟨rfl, rfl⟩ ⟨Nat.le_of_ble_eq_true rfl, Nat.le_of_ble_eq_true rfl⟩ rfl rfl hl.1 (Nat.le_of_ble_eq_true rfl) dX3_storyInOrder_19 ⟨Nat.le_of_ble_eq_true rfl, Nat.le_of_ble_eq_true rfl⟩ (fun E ce q9 u t H1 locs1 ht9 hpx hb9 hS9 e1 e2 e3 => by subst hQ; exact kx_pass htab hlocks ht9 (⟨hpx.1, by omega, hpx.2.2⟩) hb9 hS9 e1 e2 e3 (Nat.le_of_ble_eq_true rfl) (Nat.le_of_ble_eq_true rfl)) (fun u H locs hp h => ?_)
    obtain ⟨hlit, hu⟩ := hp; rw [hu] at h
    exact absurd hlit (by decide)
  · have c_1 := cNe (tA (n := sat B (x : Int32).toInt) (by omega)) tm1 c_1
    refine lv_iconst (v := nI 1) hx hcd dX3_storyInOrder_14 (by decide) ?_
    refine lv_goto (tgt := 19) hx hcd dX3_storyInOrder_15 (by decide) ?_
    refine kx_Sv (As := [.int (nI 1)]) (rest := []) G hC hB h (met_X3_requireFound l hst V (setB S 0 B) true) mw_1028 ks_X3_requireFound ⟨rfl, rfl⟩ ⟨Nat.le_of_ble_eq_true rfl, Nat.le_of_ble_eq_true rfl⟩ rfl rfl hl.1 (Nat.le_of_ble_eq_true rfl) dX3_storyInOrder_19 ⟨Nat.le_of_ble_eq_true rfl, Nat.le_of_ble_eq_true rfl⟩ (fun E ce q9 u t H1 locs1 ht9 hpx hb9 hS9 e1 e2 e3 => by subst hQ; exact kx_pass htab hlocks ht9 (absurd hpx.2.1 (by decide)) hb9 hS9 e1 e2 e3 (Nat.le_of_ble_eq_true rfl) (Nat.le_of_ble_eq_true rfl)) (fun u H locs hp h => ?_)
    obtain ⟨hlit, hu⟩ := hp; rw [hu] at h
    refine lv_iload_n hx hcd dX3_storyInOrder_22 rfl (lv_at hl 0 rfl) ?_
    exact kx_reti hQ G hret hlocks h (⟨by omega, rfl, rfl⟩) (Nat.le_of_ble_eq_true rfl) (Nat.le_of_ble_eq_true rfl) dX3_storyInOrder_23
set_option maxHeartbeats 4000000 in
set_option maxRecDepth 100000 in
/-- assign -/
theorem met_X3_assign (l : Launch) (hst : l.stackTraces = false) (V : kEnv) (S : kCs) (B : kBd) (hI : bI B) (nx sz : Nat) (hnx : S.2.1 3 = nI nx) (hsz : S.2.1 4 = nI sz) (hx5 : nx < 60000) (hs5 : sz ≤ 8) (hnb : bN (S.1 (4 + nx % 8))) (x : Int32) (y : Int32) : kX l yX3_assign cX3_assign 3 (some .boolean) { frames := 8, cells := 6, slots := 36, locals := 131 } V (cWs V) [.ref (eX V 96), .int (x), .int (y)] (setB S 0 B) (fun r u => ∃ (j : Nat) (k : Nat), x = nI j ∧ j < B.2 0 ∧ y = nI k ∧ k < B.2 1 ∧ (decide (B.2 3 ≠ 0)) = true ∧ ((((((decide (B.2 3 ≠ 0) && (decide (j < B.2 0) && (B.2 2).testBit j)) && decide (B.1 1 j ≠ 0)) && decide (asgOf B j = 0)) && decide (k < B.2 1)) && decide (B.1 4 k = 0))) = true ∧ r = bz (decide (0 < opn (bSet B 4 k (j + 1)) j)) ∧ u = setB (hkS S B nx sz) 0 (bSet B 4 k (j + 1))) (fun E u => (E = "java/lang/IndexOutOfBoundsException" ∧ inR (B.2 0) x = false ∧ u = setB S 0 B) ∨ (∃ (j : Nat), x = nI j ∧ j < B.2 0 ∧ E = "java/lang/IndexOutOfBoundsException" ∧ inR (B.2 1) y = false ∧ u = setB S 0 B) ∨ (∃ (j : Nat) (k : Nat), x = nI j ∧ j < B.2 0 ∧ y = nI k ∧ k < B.2 1 ∧ E = "java/lang/UnsupportedOperationException" ∧ (decide (B.2 3 ≠ 0)) = false ∧ u = setB S 0 B) ∨ (∃ (j : Nat) (k : Nat), x = nI j ∧ j < B.2 0 ∧ y = nI k ∧ k < B.2 1 ∧ (decide (B.2 3 ≠ 0)) = true ∧ E = "java/lang/IllegalStateException" ∧ ((((((decide (B.2 3 ≠ 0) && (decide (j < B.2 0) && (B.2 2).testBit j)) && decide (B.1 1 j ≠ 0)) && decide (asgOf B j = 0)) && decide (k < B.2 1)) && decide (B.1 4 k = 0))) = false ∧ u = setB S 0 B)) 6 36 := by
  refine kX_of (by decide +kernel) (Nat.le_of_ble_eq_true rfl) ?_
  intro pg e s m args below meth c G hret hlocks htab hC hB h ls hl Q hQ
  have hl : lv_has ls 3 [(0, .ref (eX V 96)), (1, .int (x)), (2, .int (y))] := hl
  have hx := G.1
  have hcd := G.2.1
  have hI0 := hI
  obtain ⟨hz, hbn, hn, hm, h3, h54, h4, h7, hr, he, ha, hact, h5⟩ := hI
  refine lv_aload_n hx hcd dX3_assign_0 rfl (lv_at hl 0 rfl) ?_
  refine lv_iload_n hx hcd dX3_assign_1 rfl (lv_at hl 1 rfl) ?_
  refine kx_Vv (As := [.int (x)]) (rest := []) (b := eX V 96) G hC hB h (met_X3_requireStory l hst V S B hI0 x) mw_846 kv_X3_requireStory ⟨rfl, rfl⟩ ⟨Nat.le_of_ble_eq_true rfl, Nat.le_of_ble_eq_true rfl⟩ (r_sV hC h) rfl rfl hl.1 (Nat.le_of_ble_eq_true rfl) dX3_assign_2 ⟨Nat.le_of_ble_eq_true rfl, Nat.le_of_ble_eq_true rfl⟩ (fun E ce q9 u t H1 locs1 ht9 hpx hb9 hS9 e1 e2 e3 => by subst hQ; exact kx_pass htab hlocks ht9 (Or.inl (hpx)) hb9 hS9 e1 e2 e3 (Nat.le_of_ble_eq_true rfl) (Nat.le_of_ble_eq_true rfl)) (fun u H locs hp h => ?_)
  obtain ⟨hs1, hu⟩ := hp; rw [hu] at h
  obtain ⟨j, hj, rfl⟩ := inR_ex (by omega) hs1
  refine lv_aload_n hx hcd dX3_assign_5 rfl (lv_at hl 0 rfl) ?_
  refine lv_iload_n hx hcd dX3_assign_6 rfl (lv_at hl 2 rfl) ?_
  refine kx_Vv (As := [.int (y)]) (rest := []) (b := eX V 96) G hC hB h (met_X3_requireDeveloper l hst V S B hI0 y) mw_1073 kv_X3_requireDeveloper ⟨rfl, rfl⟩ ⟨Nat.le_of_ble_eq_true rfl, Nat.le_of_ble_eq_true rfl⟩ (r_sV hC h) rfl rfl hl.1 (Nat.le_of_ble_eq_true rfl) dX3_assign_7 ⟨Nat.le_of_ble_eq_true rfl, Nat.le_of_ble_eq_true rfl⟩ (fun E ce q9 u t H1 locs1 ht9 hpx hb9 hS9 e1 e2 e3 => by subst hQ; exact kx_pass htab hlocks ht9 (Or.inr (Or.inl (⟨j, rfl, hj, hpx⟩))) hb9 hS9 e1 e2 e3 (Nat.le_of_ble_eq_true rfl) (Nat.le_of_ble_eq_true rfl)) (fun u H locs hp h => ?_)
  obtain ⟨hs2, hu⟩ := hp; rw [hu] at h
  obtain ⟨k, hk, rfl⟩ := inR_ex (by omega) hs2
  refine lv_aload_n hx hcd dX3_assign_10 rfl (lv_at hl 0 rfl) ?_
  refine va_get (D := eD V) (ci := 7) (v := .ref (eX V (8 * 0))) (C := RX3) (T := TX3) (N := 11) hx hcd G.2.2.2.2 iwX3 G.2.2.2.1 hC.1 h.1 (96 + 0) (cF_at V _ (i := 0) (by decide)) rfl 0 (by decide) (G.2.2.2.2 _ mw_242) (fun y h9 => h9) rfl dX3_assign_11 ?_
  refine r_bS G hC h 0 3 (by omega) (by decide) (setB_at _ _ _) mw_117 (x := nI (B.2 3)) rfl dX3_assign_14 ?_
  have q_1 := hz.2 3
  refine lv_topi (fun z_2 e_z_2 => ?_)
  obtain rfl : z_2 = bz (decide (B.2 3 ≠ 0)) := by rw [e_z_2]; exact act_bz h3
  refine kx_Sv (As := [.int (bz (decide (B.2 3 ≠ 0)))]) (rest := []) G hC hB h (met_X3_requireSupport l hst V (setB S 0 B) (decide (B.2 3 ≠ 0))) mw_890 ks_X3_requireSupport ⟨rfl, rfl⟩ ⟨Nat.le_of_ble_eq_true rfl, Nat.le_of_ble_eq_true rfl⟩ rfl rfl hl.1 (Nat.le_of_ble_eq_true rfl) dX3_assign_17 ⟨Nat.le_of_ble_eq_true rfl, Nat.le_of_ble_eq_true rfl⟩ (fun E ce q9 u t H1 locs1 ht9 hpx hb9 hS9 e1 e2 e3 => by subst hQ; exact kx_pass htab hlocks ht9 (Or.inr (Or.inr (Or.inl (⟨j, k, rfl, hj, rfl, hk, hpx⟩)))) hb9 hS9 e1 e2 e3 (Nat.le_of_ble_eq_true rfl) (Nat.le_of_ble_eq_true rfl)) (fun u H locs hp h => ?_)
  obtain ⟨hs3, hu⟩ := hp; rw [hu] at h
  refine lv_aload_n hx hcd dX3_assign_20 rfl (lv_at hl 0 rfl) ?_
  refine va_get (D := eD V) (ci := 7) (v := .ref (eX V (8 * 0))) (C := RX3) (T := TX3) (N := 11) hx hcd G.2.2.2.2 iwX3 G.2.2.2.1 hC.1 h.1 (96 + 0) (cF_at V _ (i := 0) (by decide)) rfl 0 (by decide) (G.2.2.2.2 _ mw_242) (fun y h9 => h9) rfl dX3_assign_21 ?_
  refine lv_iload_n hx hcd dX3_assign_24 rfl (lv_at hl 1 rfl) ?_
  refine lv_iload_n hx hcd dX3_assign_25 rfl (lv_at hl 2 rfl) ?_
  refine k_Vi (As := [.int (nI (j)), .int (nI (k))]) (rest := []) (b := eX V (8 * 0)) G hC hB h (met_X0_canAssign l V S 0 B (by omega) hz hn hm j (by omega) k (by omega)) mw_1078 kv_X0_canAssign ⟨rfl, rfl⟩ ⟨Nat.le_of_ble_eq_true rfl, Nat.le_of_ble_eq_true rfl⟩ (r_bV hC h 0 (by omega)) rfl rfl hl.1 (Nat.le_of_ble_eq_true rfl) dX3_assign_26 ⟨Nat.le_of_ble_eq_true rfl, Nat.le_of_ble_eq_true rfl⟩ (fun r u H locs hp h => ?_)
  obtain ⟨rfl, rfl⟩ := hp
  refine kx_Sv (As := [.int (bz ((((((decide (B.2 3 ≠ 0) && (decide (j < B.2 0) && (B.2 2).testBit j)) && decide (B.1 1 j ≠ 0)) && decide (asgOf B j = 0)) && decide (k < B.2 1)) && decide (B.1 4 k = 0))))]) (rest := []) G hC hB h (met_X3_requireState l hst V (setB S 0 B) (((((decide (B.2 3 ≠ 0) && (decide (j < B.2 0) && (B.2 2).testBit j)) && decide (B.1 1 j ≠ 0)) && decide (asgOf B j = 0)) && decide (k < B.2 1)) && decide (B.1 4 k = 0))) mw_804 ks_X3_requireState ⟨rfl, rfl⟩ ⟨Nat.le_of_ble_eq_true rfl, Nat.le_of_ble_eq_true rfl⟩ rfl rfl hl.1 (Nat.le_of_ble_eq_true rfl) dX3_assign_29 ⟨Nat.le_of_ble_eq_true rfl, Nat.le_of_ble_eq_true rfl⟩ (fun E ce q9 u t H1 locs1 ht9 hpx hb9 hS9 e1 e2 e3 => by subst hQ; exact kx_pass htab hlocks ht9 (Or.inr (Or.inr (Or.inr (⟨j, k, rfl, hj, rfl, hk, hs3, hpx⟩)))) hb9 hS9 e1 e2 e3 (Nat.le_of_ble_eq_true rfl) (Nat.le_of_ble_eq_true rfl)) (fun u H locs hp h => ?_)
  obtain ⟨hs4, hu⟩ := hp; rw [hu] at h
  have hz2 : kSm (bSet B 4 k (j + 1)) := kSm_set hz 4 k (by omega)
  refine lv_aload_n hx hcd dX3_assign_32 rfl (lv_at hl 0 rfl) ?_
  refine va_get (D := eD V) (ci := 7) (v := .ref (eX V 97)) (C := RX3) (T := TX3) (N := 11) hx hcd G.2.2.2.2 iwX3 G.2.2.2.1 hC.1 h.1 (96 + 0) (cF_at V _ (i := 0) (by decide)) rfl 4 (by decide) (G.2.2.2.2 _ mw_246) (fun y h9 => h9) rfl dX3_assign_33 ?_
  refine lv_aload_n hx hcd dX3_assign_36 rfl (lv_at hl 0 rfl) ?_
  refine va_get (D := eD V) (ci := 7) (v := .ref (eX V (8 * 0))) (C := RX3) (T := TX3) (N := 11) hx hcd G.2.2.2.2 iwX3 G.2.2.2.1 hC.1 h.1 (96 + 0) (cF_at V _ (i := 0) (by decide)) rfl 0 (by decide) (G.2.2.2.2 _ mw_242) (fun y h9 => h9) rfl dX3_assign_37 ?_
  refine k_Vv (As := [.ref (eX V (8 * 0))]) (rest := []) (b := eX V 97) G hC hB h (met_X2_keep l V (setB S 0 B) 0 (by omega) nx sz hnx hsz hx5 hs5 hz h3 hbn (by rw [setB_ne _ _ (by omega)]; exact hnb)) mw_823 kv_X2_keep ⟨rfl, rfl⟩ ⟨Nat.le_of_ble_eq_true rfl, Nat.le_of_ble_eq_true rfl⟩ (r_hV hC h) rfl rfl hl.1 (Nat.le_of_ble_eq_true rfl) dX3_assign_40 ⟨Nat.le_of_ble_eq_true rfl, Nat.le_of_ble_eq_true rfl⟩ (fun u H locs hp h => ?_)
  rw [hp, histS_0] at h
  refine lv_aload_n hx hcd dX3_assign_43 rfl (lv_at hl 0 rfl) ?_
  refine va_get (D := eD V) (ci := 7) (v := .ref (eX V (8 * 0))) (C := RX3) (T := TX3) (N := 11) hx hcd G.2.2.2.2 iwX3 G.2.2.2.1 hC.1 h.1 (96 + 0) (cF_at V _ (i := 0) (by decide)) rfl 0 (by decide) (G.2.2.2.2 _ mw_242) (fun y h9 => h9) rfl dX3_assign_44 ?_
  refine lv_iload_n hx hcd dX3_assign_47 rfl (lv_at hl 1 rfl) ?_
  refine lv_iload_n hx hcd dX3_assign_48 rfl (lv_at hl 2 rfl) ?_
  refine k_Vv (As := [.int (nI (j)), .int (nI (k))]) (rest := []) (b := eX V (8 * 0)) G hC hB h (met_X0_putAssignment l V (hkS S B nx sz) 0 B (by omega) hz hn hm j (by omega) k (by omega)) mw_1086 kv_X0_putAssignment ⟨rfl, rfl⟩ ⟨Nat.le_of_ble_eq_true rfl, Nat.le_of_ble_eq_true rfl⟩ (r_bV hC h 0 (by omega)) rfl rfl hl.1 (Nat.le_of_ble_eq_true rfl) dX3_assign_49 ⟨Nat.le_of_ble_eq_true rfl, Nat.le_of_ble_eq_true rfl⟩ (fun u H locs hp h => ?_)
  obtain rfl := hp
  refine lv_aload_n hx hcd dX3_assign_52 rfl (lv_at hl 0 rfl) ?_
  refine va_get (D := eD V) (ci := 7) (v := .ref (eX V (8 * 0))) (C := RX3) (T := TX3) (N := 11) hx hcd G.2.2.2.2 iwX3 G.2.2.2.1 hC.1 h.1 (96 + 0) (cF_at V _ (i := 0) (by decide)) rfl 0 (by decide) (G.2.2.2.2 _ mw_242) (fun y h9 => h9) rfl dX3_assign_53 ?_
  refine lv_iload_n hx hcd dX3_assign_56 rfl (lv_at hl 1 rfl) ?_
  refine k_Vi (As := [.int (nI (j))]) (rest := []) (b := eX V (8 * 0)) G hC hB h (met_X0_openBlockerCount l V (hkS S B nx sz) 0 (bSet B 4 k (j + 1)) (by omega) hz2 hn j (by omega)) mw_969 kv_X0_openBlockerCount ⟨rfl, rfl⟩ ⟨Nat.le_of_ble_eq_true rfl, Nat.le_of_ble_eq_true rfl⟩ (r_bV hC h 0 (by omega)) rfl rfl hl.1 (Nat.le_of_ble_eq_true rfl) dX3_assign_57 ⟨Nat.le_of_ble_eq_true rfl, Nat.le_of_ble_eq_true rfl⟩ (fun r u H locs hp h => ?_)
  obtain ⟨rfl, rfl⟩ := hp
  have q_3 := opn_le (bSet B 4 k (j + 1)) j
  refine lv_if_le (tgt := 67) hx hcd dX3_assign_60 (by decide) (fun c_4 => ?_) (fun c_4 => ?_)
  · have c_4 := cLe (tN (n := opn (bSet B 4 k (j + 1)) j) (by omega)) t0 c_4
    refine lv_iconst (v := nI 0) hx hcd dX3_assign_67 (by decide) ?_
    exact kx_retz hQ G hret hlocks h (Or.inl rfl) (⟨j, k, rfl, hj, rfl, hk, hs3, hs4, (bz_f (decide_eq_false (by omega))).symm, rfl⟩) (Nat.le_of_ble_eq_true rfl) (Nat.le_of_ble_eq_true rfl) dX3_assign_68
  · have c_4 := cNle (tN (n := opn (bSet B 4 k (j + 1)) j) (by omega)) t0 c_4
    refine lv_iconst (v := nI 1) hx hcd dX3_assign_63 (by decide) ?_
    refine lv_goto (tgt := 68) hx hcd dX3_assign_64 (by decide) ?_
    exact kx_retz hQ G hret hlocks h (Or.inr rfl) (⟨j, k, rfl, hj, rfl, hk, hs3, hs4, (bz_t (decide_eq_true (by omega))).symm, rfl⟩) (Nat.le_of_ble_eq_true rfl) (Nat.le_of_ble_eq_true rfl) dX3_assign_68
set_option maxHeartbeats 4000000 in
set_option maxRecDepth 100000 in
/-- unassign -/
theorem met_X3_unassign (l : Launch) (hst : l.stackTraces = false) (V : kEnv) (S : kCs) (B : kBd) (hI : bI B) (nx sz : Nat) (hnx : S.2.1 3 = nI nx) (hsz : S.2.1 4 = nI sz) (hx5 : nx < 60000) (hs5 : sz ≤ 8) (hnb : bN (S.1 (4 + nx % 8))) (x : Int32) : kX l yX3_unassign cX3_unassign 2 (some .int) { frames := 8, cells := 6, slots := 36, locals := 131 } V (cWs V) [.ref (eX V 96), .int (x)] (setB S 0 B) (fun r u => ∃ (k : Nat), x = nI k ∧ k < B.2 1 ∧ ((decide (k < B.2 1) && decide (B.1 4 k ≠ 0))) = true ∧ r = nI (B.1 4 k) - 1 ∧ u = setB (hkS S B nx sz) 0 (bSet B 4 k 0)) (fun E u => (E = "java/lang/IndexOutOfBoundsException" ∧ inR (B.2 1) x = false ∧ u = setB S 0 B) ∨ (∃ (k : Nat), x = nI k ∧ k < B.2 1 ∧ E = "java/lang/IllegalStateException" ∧ ((decide (k < B.2 1) && decide (B.1 4 k ≠ 0))) = false ∧ u = setB S 0 B)) 6 36 := by
  refine kX_of (by decide +kernel) (Nat.le_of_ble_eq_true rfl) ?_
  intro pg e s m args below meth c G hret hlocks htab hC hB h ls hl Q hQ
  have hl : lv_has ls 2 [(0, .ref (eX V 96)), (1, .int (x))] := hl
  have hx := G.1
  have hcd := G.2.1
  have hI0 := hI
  obtain ⟨hz, hbn, hn, hm, h3, h54, h4, h7, hr, he, ha, hact, h5⟩ := hI
  refine lv_aload_n hx hcd dX3_unassign_0 rfl (lv_at hl 0 rfl) ?_
  refine lv_iload_n hx hcd dX3_unassign_1 rfl (lv_at hl 1 rfl) ?_
  refine kx_Vv (As := [.int (x)]) (rest := []) (b := eX V 96) G hC hB h (met_X3_requireDeveloper l hst V S B hI0 x) mw_1073 kv_X3_requireDeveloper ⟨rfl, rfl⟩ ⟨Nat.le_of_ble_eq_true rfl, Nat.le_of_ble_eq_true rfl⟩ (r_sV hC h) rfl rfl hl.1 (Nat.le_of_ble_eq_true rfl) dX3_unassign_2 ⟨Nat.le_of_ble_eq_true rfl, Nat.le_of_ble_eq_true rfl⟩ (fun E ce q9 u t H1 locs1 ht9 hpx hb9 hS9 e1 e2 e3 => by subst hQ; exact kx_pass htab hlocks ht9 (Or.inl (hpx)) hb9 hS9 e1 e2 e3 (Nat.le_of_ble_eq_true rfl) (Nat.le_of_ble_eq_true rfl)) (fun u H locs hp h => ?_)
  obtain ⟨hs1, hu⟩ := hp; rw [hu] at h
  obtain ⟨k, hk, rfl⟩ := inR_ex (by omega) hs1
  refine lv_aload_n hx hcd dX3_unassign_5 rfl (lv_at hl 0 rfl) ?_
  refine va_get (D := eD V) (ci := 7) (v := .ref (eX V (8 * 0))) (C := RX3) (T := TX3) (N := 11) hx hcd G.2.2.2.2 iwX3 G.2.2.2.1 hC.1 h.1 (96 + 0) (cF_at V _ (i := 0) (by decide)) rfl 0 (by decide) (G.2.2.2.2 _ mw_242) (fun y h9 => h9) rfl dX3_unassign_6 ?_
  refine lv_iload_n hx hcd dX3_unassign_9 rfl (lv_at hl 1 rfl) ?_
  refine k_Vi (As := [.int (nI (k))]) (rest := []) (b := eX V (8 * 0)) G hC hB h (met_X0_canUnassign l V S 0 B (by omega) hz hm k (by omega)) mw_1097 kv_X0_canUnassign ⟨rfl, rfl⟩ ⟨Nat.le_of_ble_eq_true rfl, Nat.le_of_ble_eq_true rfl⟩ (r_bV hC h 0 (by omega)) rfl rfl hl.1 (Nat.le_of_ble_eq_true rfl) dX3_unassign_10 ⟨Nat.le_of_ble_eq_true rfl, Nat.le_of_ble_eq_true rfl⟩ (fun r u H locs hp h => ?_)
  obtain ⟨rfl, rfl⟩ := hp
  refine kx_Sv (As := [.int (bz ((decide (k < B.2 1) && decide (B.1 4 k ≠ 0))))]) (rest := []) G hC hB h (met_X3_requireState l hst V (setB S 0 B) (decide (k < B.2 1) && decide (B.1 4 k ≠ 0))) mw_804 ks_X3_requireState ⟨rfl, rfl⟩ ⟨Nat.le_of_ble_eq_true rfl, Nat.le_of_ble_eq_true rfl⟩ rfl rfl hl.1 (Nat.le_of_ble_eq_true rfl) dX3_unassign_13 ⟨Nat.le_of_ble_eq_true rfl, Nat.le_of_ble_eq_true rfl⟩ (fun E ce q9 u t H1 locs1 ht9 hpx hb9 hS9 e1 e2 e3 => by subst hQ; exact kx_pass htab hlocks ht9 (Or.inr (⟨k, rfl, hk, hpx⟩)) hb9 hS9 e1 e2 e3 (Nat.le_of_ble_eq_true rfl) (Nat.le_of_ble_eq_true rfl)) (fun u H locs hp h => ?_)
  obtain ⟨hs2, hu⟩ := hp; rw [hu] at h
  refine lv_aload_n hx hcd dX3_unassign_16 rfl (lv_at hl 0 rfl) ?_
  refine va_get (D := eD V) (ci := 7) (v := .ref (eX V 97)) (C := RX3) (T := TX3) (N := 11) hx hcd G.2.2.2.2 iwX3 G.2.2.2.1 hC.1 h.1 (96 + 0) (cF_at V _ (i := 0) (by decide)) rfl 4 (by decide) (G.2.2.2.2 _ mw_246) (fun y h9 => h9) rfl dX3_unassign_17 ?_
  refine lv_aload_n hx hcd dX3_unassign_20 rfl (lv_at hl 0 rfl) ?_
  refine va_get (D := eD V) (ci := 7) (v := .ref (eX V (8 * 0))) (C := RX3) (T := TX3) (N := 11) hx hcd G.2.2.2.2 iwX3 G.2.2.2.1 hC.1 h.1 (96 + 0) (cF_at V _ (i := 0) (by decide)) rfl 0 (by decide) (G.2.2.2.2 _ mw_242) (fun y h9 => h9) rfl dX3_unassign_21 ?_
  refine k_Vv (As := [.ref (eX V (8 * 0))]) (rest := []) (b := eX V 97) G hC hB h (met_X2_keep l V (setB S 0 B) 0 (by omega) nx sz hnx hsz hx5 hs5 hz h3 hbn (by rw [setB_ne _ _ (by omega)]; exact hnb)) mw_823 kv_X2_keep ⟨rfl, rfl⟩ ⟨Nat.le_of_ble_eq_true rfl, Nat.le_of_ble_eq_true rfl⟩ (r_hV hC h) rfl rfl hl.1 (Nat.le_of_ble_eq_true rfl) dX3_unassign_24 ⟨Nat.le_of_ble_eq_true rfl, Nat.le_of_ble_eq_true rfl⟩ (fun u H locs hp h => ?_)
  rw [hp, histS_0] at h
  refine lv_aload_n hx hcd dX3_unassign_27 rfl (lv_at hl 0 rfl) ?_
  refine va_get (D := eD V) (ci := 7) (v := .ref (eX V (8 * 0))) (C := RX3) (T := TX3) (N := 11) hx hcd G.2.2.2.2 iwX3 G.2.2.2.1 hC.1 h.1 (96 + 0) (cF_at V _ (i := 0) (by decide)) rfl 0 (by decide) (G.2.2.2.2 _ mw_242) (fun y h9 => h9) rfl dX3_unassign_28 ?_
  refine lv_iload_n hx hcd dX3_unassign_31 rfl (lv_at hl 1 rfl) ?_
  refine k_Vi (As := [.int (nI (k))]) (rest := []) (b := eX V (8 * 0)) G hC hB h (met_X0_removeAssignment l V (hkS S B nx sz) 0 B (by omega) hz hm k (by omega)) mw_1101 kv_X0_removeAssignment ⟨rfl, rfl⟩ ⟨Nat.le_of_ble_eq_true rfl, Nat.le_of_ble_eq_true rfl⟩ (r_bV hC h 0 (by omega)) rfl rfl hl.1 (Nat.le_of_ble_eq_true rfl) dX3_unassign_32 ⟨Nat.le_of_ble_eq_true rfl, Nat.le_of_ble_eq_true rfl⟩ (fun r u H locs hp h => ?_)
  obtain ⟨rfl, rfl⟩ := hp
  exact kx_reti hQ G hret hlocks h (⟨k, rfl, hk, hs2, rfl, rfl⟩) (Nat.le_of_ble_eq_true rfl) (Nat.le_of_ble_eq_true rfl) dX3_unassign_35
set_option maxHeartbeats 4000000 in
set_option maxRecDepth 100000 in
/-- speedOf -/
theorem met_X3_speedOf (l : Launch) (hst : l.stackTraces = false) (V : kEnv) (S : kCs) (B : kBd) (hI : bI B) (x : Int32) : kX l yX3_speedOf cX3_speedOf 2 (some .int) { frames := 8, cells := 6, slots := 36, locals := 131 } V (cWs V) [.ref (eX V 96), .int (x)] (setB S 0 B) (fun r u => ∃ (k : Nat), x = nI k ∧ k < B.2 1 ∧ r = nI (B.1 3 k) ∧ u = setB S 0 B) (fun E u => (E = "java/lang/IndexOutOfBoundsException" ∧ inR (B.2 1) x = false ∧ u = setB S 0 B)) 6 36 := by
  refine kX_of (by decide +kernel) (Nat.le_of_ble_eq_true rfl) ?_
  intro pg e s m args below meth c G hret hlocks htab hC hB h ls hl Q hQ
  have hl : lv_has ls 2 [(0, .ref (eX V 96)), (1, .int (x))] := hl
  have hx := G.1
  have hcd := G.2.1
  have hI0 := hI
  obtain ⟨hz, hbn, hn, hm, h3, h54, h4, h7, hr, he, ha, hact, h5⟩ := hI
  refine lv_aload_n hx hcd dX3_speedOf_0 rfl (lv_at hl 0 rfl) ?_
  refine lv_iload_n hx hcd dX3_speedOf_1 rfl (lv_at hl 1 rfl) ?_
  refine kx_Vv (As := [.int (x)]) (rest := []) (b := eX V 96) G hC hB h (met_X3_requireDeveloper l hst V S B hI0 x) mw_1073 kv_X3_requireDeveloper ⟨rfl, rfl⟩ ⟨Nat.le_of_ble_eq_true rfl, Nat.le_of_ble_eq_true rfl⟩ (r_sV hC h) rfl rfl hl.1 (Nat.le_of_ble_eq_true rfl) dX3_speedOf_2 ⟨Nat.le_of_ble_eq_true rfl, Nat.le_of_ble_eq_true rfl⟩ (fun E ce q9 u t H1 locs1 ht9 hpx hb9 hS9 e1 e2 e3 => by subst hQ; exact kx_pass htab hlocks ht9 (hpx) hb9 hS9 e1 e2 e3 (Nat.le_of_ble_eq_true rfl) (Nat.le_of_ble_eq_true rfl)) (fun u H locs hp h => ?_)
  obtain ⟨hs1, hu⟩ := hp; rw [hu] at h
  obtain ⟨k, hk, rfl⟩ := inR_ex (by omega) hs1
  refine lv_aload_n hx hcd dX3_speedOf_5 rfl (lv_at hl 0 rfl) ?_
  refine va_get (D := eD V) (ci := 7) (v := .ref (eX V (8 * 0))) (C := RX3) (T := TX3) (N := 11) hx hcd G.2.2.2.2 iwX3 G.2.2.2.1 hC.1 h.1 (96 + 0) (cF_at V _ (i := 0) (by decide)) rfl 0 (by decide) (G.2.2.2.2 _ mw_242) (fun y h9 => h9) rfl dX3_speedOf_6 ?_
  refine r_bA G hC h 0 3 (by omega) (by decide) mw_104 dX3_speedOf_9 ?_
  refine lv_iload_n hx hcd dX3_speedOf_12 rfl (lv_at hl 1 rfl) ?_
  refine r_bL G hC h 0 3 k (by omega) (by decide) (setB_at _ _ _) rfl (show k < 4 by omega) (x := nI (B.1 3 (k))) rfl dX3_speedOf_13 ?_
  have q_1 := hz.1 3 (k)
  exact kx_reti hQ G hret hlocks h (⟨k, rfl, hk, rfl, rfl⟩) (Nat.le_of_ble_eq_true rfl) (Nat.le_of_ble_eq_true rfl) dX3_speedOf_14
set_option maxHeartbeats 4000000 in
set_option maxRecDepth 100000 in
/-- storyOf -/
theorem met_X3_storyOf (l : Launch) (hst : l.stackTraces = false) (V : kEnv) (S : kCs) (B : kBd) (hI : bI B) (x : Int32) : kX l yX3_storyOf cX3_storyOf 3 (some .int) { frames := 8, cells := 6, slots := 36, locals := 131 } V (cWs V) [.ref (eX V 96), .int (x)] (setB S 0 B) (fun r u => ∃ (k : Nat), x = nI k ∧ k < B.2 1 ∧ B.1 4 k ≠ 0 ∧ r = nI (B.1 4 k) - 1 ∧ u = setB S 0 B) (fun E u => (E = "java/lang/IndexOutOfBoundsException" ∧ inR (B.2 1) x = false ∧ u = setB S 0 B) ∨ (∃ (k : Nat), x = nI k ∧ k < B.2 1 ∧ E = "java/util/NoSuchElementException" ∧ B.1 4 k = 0 ∧ u = setB S 0 B)) 6 36 := by
  refine kX_of (by decide +kernel) (Nat.le_of_ble_eq_true rfl) ?_
  intro pg e s m args below meth c G hret hlocks htab hC hB h ls hl Q hQ
  have hl : lv_has ls 3 [(0, .ref (eX V 96)), (1, .int (x))] := hl
  have hx := G.1
  have hcd := G.2.1
  have hI0 := hI
  obtain ⟨hz, hbn, hn, hm, h3, h54, h4, h7, hr, he, ha, hact, h5⟩ := hI
  refine lv_aload_n hx hcd dX3_storyOf_0 rfl (lv_at hl 0 rfl) ?_
  refine lv_iload_n hx hcd dX3_storyOf_1 rfl (lv_at hl 1 rfl) ?_
  refine kx_Vv (As := [.int (x)]) (rest := []) (b := eX V 96) G hC hB h (met_X3_requireDeveloper l hst V S B hI0 x) mw_1073 kv_X3_requireDeveloper ⟨rfl, rfl⟩ ⟨Nat.le_of_ble_eq_true rfl, Nat.le_of_ble_eq_true rfl⟩ (r_sV hC h) rfl rfl hl.1 (Nat.le_of_ble_eq_true rfl) dX3_storyOf_2 ⟨Nat.le_of_ble_eq_true rfl, Nat.le_of_ble_eq_true rfl⟩ (fun E ce q9 u t H1 locs1 ht9 hpx hb9 hS9 e1 e2 e3 => by subst hQ; exact kx_pass htab hlocks ht9 (Or.inl (hpx)) hb9 hS9 e1 e2 e3 (Nat.le_of_ble_eq_true rfl) (Nat.le_of_ble_eq_true rfl)) (fun u H locs hp h => ?_)
  obtain ⟨hs1, hu⟩ := hp; rw [hu] at h
  obtain ⟨k, hk, rfl⟩ := inR_ex (by omega) hs1
  refine lv_aload_n hx hcd dX3_storyOf_5 rfl (lv_at hl 0 rfl) ?_
  refine va_get (D := eD V) (ci := 7) (v := .ref (eX V (8 * 0))) (C := RX3) (T := TX3) (N := 11) hx hcd G.2.2.2.2 iwX3 G.2.2.2.1 hC.1 h.1 (96 + 0) (cF_at V _ (i := 0) (by decide)) rfl 0 (by decide) (G.2.2.2.2 _ mw_242) (fun y h9 => h9) rfl dX3_storyOf_6 ?_
  refine r_bA G hC h 0 4 (by omega) (by decide) mw_106 dX3_storyOf_9 ?_
  refine lv_iload_n hx hcd dX3_storyOf_12 rfl (lv_at hl 1 rfl) ?_
  refine r_bL G hC h 0 4 k (by omega) (by decide) (setB_at _ _ _) rfl (show k < 4 by omega) (x := nI (B.1 4 (k)) - 1) rfl dX3_storyOf_13 ?_
  have q_1 := hz.1 4 (k)
  refine lv_istore_n (lv' := [(2, .int (nI (B.1 4 (k)) - 1)), (0, .ref (eX V 96)), (1, .int (nI (k)))]) hx hcd dX3_storyOf_14 rfl hl (by decide) rfl (fun ls hl => ?_)
  refine lv_iload_n hx hcd dX3_storyOf_15 rfl (lv_at hl 0 rfl) ?_
  refine lv_iconst (v := -1) hx hcd dX3_storyOf_16 (by decide) ?_
  refine lv_icmp_eq (tgt := 24) hx hcd dX3_storyOf_17 (by decide) (fun c_2 => ?_) (fun c_2 => ?_)
  · have c_2 := cEq (tA (n := B.1 4 (k)) (by omega)) tm1 c_2
    refine lv_iconst (v := nI 0) hx hcd dX3_storyOf_24 (by decide) ?_
    refine kx_Sv (As := [.int (nI 0)]) (rest := []) G hC hB h (met_X3_requireFound l hst V (setB S 0 B) false) mw_1028 ks_X3_requireFound ⟨rfl, rfl⟩ ⟨Nat.le_of_ble_eq_true rfl, Nat.le_of_ble_eq_true rfl⟩ rfl rfl hl.1 (Nat.le_of_ble_eq_true rfl) dX3_storyOf_25 ⟨Nat.le_of_ble_eq_true rfl, Nat.le_of_ble_eq_true rfl⟩ (fun E ce q9 u t H1 locs1 ht9 hpx hb9 hS9 e1 e2 e3 => by subst hQ; exact kx_pass htab hlocks ht9 (Or.inr (⟨k, rfl, hk, ⟨hpx.1, by omega, hpx.2.2⟩⟩)) hb9 hS9 e1 e2 e3 (Nat.le_of_ble_eq_true rfl) (Nat.le_of_ble_eq_true rfl)) (fun u H locs hp h => ?_)
    obtain ⟨hlit, hu⟩ := hp; rw [hu] at h
    exact absurd hlit (by decide)
  · have c_2 := cNe (tA (n := B.1 4 (k)) (by omega)) tm1 c_2
    refine lv_iconst (v := nI 1) hx hcd dX3_storyOf_20 (by decide) ?_
    refine lv_goto (tgt := 25) hx hcd dX3_storyOf_21 (by decide) ?_
    refine kx_Sv (As := [.int (nI 1)]) (rest := []) G hC hB h (met_X3_requireFound l hst V (setB S 0 B) true) mw_1028 ks_X3_requireFound ⟨rfl, rfl⟩ ⟨Nat.le_of_ble_eq_true rfl, Nat.le_of_ble_eq_true rfl⟩ rfl rfl hl.1 (Nat.le_of_ble_eq_true rfl) dX3_storyOf_25 ⟨Nat.le_of_ble_eq_true rfl, Nat.le_of_ble_eq_true rfl⟩ (fun E ce q9 u t H1 locs1 ht9 hpx hb9 hS9 e1 e2 e3 => by subst hQ; exact kx_pass htab hlocks ht9 (absurd hpx.2.1 (by decide)) hb9 hS9 e1 e2 e3 (Nat.le_of_ble_eq_true rfl) (Nat.le_of_ble_eq_true rfl)) (fun u H locs hp h => ?_)
    obtain ⟨hlit, hu⟩ := hp; rw [hu] at h
    refine lv_iload_n hx hcd dX3_storyOf_28 rfl (lv_at hl 0 rfl) ?_
    exact kx_reti hQ G hret hlocks h (⟨k, rfl, hk, by omega, rfl, rfl⟩) (Nat.le_of_ble_eq_true rfl) (Nat.le_of_ble_eq_true rfl) dX3_storyOf_29
set_option maxHeartbeats 4000000 in
set_option maxRecDepth 100000 in
/-- developerOf -/
theorem met_X3_developerOf (l : Launch) (hst : l.stackTraces = false) (V : kEnv) (S : kCs) (B : kBd) (hI : bI B) (x : Int32) : kX l yX3_developerOf cX3_developerOf 3 (some .int) { frames := 8, cells := 6, slots := 36, locals := 131 } V (cWs V) [.ref (eX V 96), .int (x)] (setB S 0 B) (fun r u => ∃ (j : Nat), x = nI j ∧ j < B.2 0 ∧ asgOf B j ≠ 0 ∧ r = nI (asgOf B j) - 1 ∧ u = setB S 0 B) (fun E u => (E = "java/lang/IndexOutOfBoundsException" ∧ inR (B.2 0) x = false ∧ u = setB S 0 B) ∨ (∃ (j : Nat), x = nI j ∧ j < B.2 0 ∧ E = "java/util/NoSuchElementException" ∧ asgOf B j = 0 ∧ u = setB S 0 B)) 6 36 := by
  refine kX_of (by decide +kernel) (Nat.le_of_ble_eq_true rfl) ?_
  intro pg e s m args below meth c G hret hlocks htab hC hB h ls hl Q hQ
  have hl : lv_has ls 3 [(0, .ref (eX V 96)), (1, .int (x))] := hl
  have hx := G.1
  have hcd := G.2.1
  have hI0 := hI
  obtain ⟨hz, hbn, hn, hm, h3, h54, h4, h7, hr, he, ha, hact, h5⟩ := hI
  refine lv_aload_n hx hcd dX3_developerOf_0 rfl (lv_at hl 0 rfl) ?_
  refine lv_iload_n hx hcd dX3_developerOf_1 rfl (lv_at hl 1 rfl) ?_
  refine kx_Vv (As := [.int (x)]) (rest := []) (b := eX V 96) G hC hB h (met_X3_requireStory l hst V S B hI0 x) mw_846 kv_X3_requireStory ⟨rfl, rfl⟩ ⟨Nat.le_of_ble_eq_true rfl, Nat.le_of_ble_eq_true rfl⟩ (r_sV hC h) rfl rfl hl.1 (Nat.le_of_ble_eq_true rfl) dX3_developerOf_2 ⟨Nat.le_of_ble_eq_true rfl, Nat.le_of_ble_eq_true rfl⟩ (fun E ce q9 u t H1 locs1 ht9 hpx hb9 hS9 e1 e2 e3 => by subst hQ; exact kx_pass htab hlocks ht9 (Or.inl (hpx)) hb9 hS9 e1 e2 e3 (Nat.le_of_ble_eq_true rfl) (Nat.le_of_ble_eq_true rfl)) (fun u H locs hp h => ?_)
  obtain ⟨hs1, hu⟩ := hp; rw [hu] at h
  obtain ⟨j, hj, rfl⟩ := inR_ex (by omega) hs1
  refine lv_aload_n hx hcd dX3_developerOf_5 rfl (lv_at hl 0 rfl) ?_
  refine va_get (D := eD V) (ci := 7) (v := .ref (eX V (8 * 0))) (C := RX3) (T := TX3) (N := 11) hx hcd G.2.2.2.2 iwX3 G.2.2.2.1 hC.1 h.1 (96 + 0) (cF_at V _ (i := 0) (by decide)) rfl 0 (by decide) (G.2.2.2.2 _ mw_242) (fun y h9 => h9) rfl dX3_developerOf_6 ?_
  refine lv_iload_n hx hcd dX3_developerOf_9 rfl (lv_at hl 1 rfl) ?_
  refine k_Vi (As := [.int (nI (j))]) (rest := []) (b := eX V (8 * 0)) G hC hB h (met_X0_assigneeOf l V S 0 B (by omega) hz j (by omega)) mw_1126 kv_X0_assigneeOf ⟨rfl, rfl⟩ ⟨Nat.le_of_ble_eq_true rfl, Nat.le_of_ble_eq_true rfl⟩ (r_bV hC h 0 (by omega)) rfl rfl hl.1 (Nat.le_of_ble_eq_true rfl) dX3_developerOf_10 ⟨Nat.le_of_ble_eq_true rfl, Nat.le_of_ble_eq_true rfl⟩ (fun r u H locs hp h => ?_)
  obtain ⟨rfl, rfl⟩ := hp
  have q_1 := asgOf_le B j
  refine lv_istore_n (lv' := [(2, .int (nI (asgOf B j) - 1)), (0, .ref (eX V 96)), (1, .int (nI (j)))]) hx hcd dX3_developerOf_13 rfl hl (by decide) rfl (fun ls hl => ?_)
  refine lv_iload_n hx hcd dX3_developerOf_14 rfl (lv_at hl 0 rfl) ?_
  refine lv_iconst (v := -1) hx hcd dX3_developerOf_15 (by decide) ?_
  refine lv_icmp_eq (tgt := 23) hx hcd dX3_developerOf_16 (by decide) (fun c_2 => ?_) (fun c_2 => ?_)
  · have c_2 := cEq (tA (n := asgOf B j) (by omega)) tm1 c_2
    refine lv_iconst (v := nI 0) hx hcd dX3_developerOf_23 (by decide) ?_
    refine kx_Sv (As := [.int (nI 0)]) (rest := []) G hC hB h (met_X3_requireFound l hst V (setB S 0 B) false) mw_1028 ks_X3_requireFound ⟨rfl, rfl⟩ ⟨Nat.le_of_ble_eq_true rfl, Nat.le_of_ble_eq_true rfl⟩ rfl rfl hl.1 (Nat.le_of_ble_eq_true rfl) dX3_developerOf_24 ⟨Nat.le_of_ble_eq_true rfl, Nat.le_of_ble_eq_true rfl⟩ (fun E ce q9 u t H1 locs1 ht9 hpx hb9 hS9 e1 e2 e3 => by subst hQ; exact kx_pass htab hlocks ht9 (Or.inr (⟨j, rfl, hj, ⟨hpx.1, by omega, hpx.2.2⟩⟩)) hb9 hS9 e1 e2 e3 (Nat.le_of_ble_eq_true rfl) (Nat.le_of_ble_eq_true rfl)) (fun u H locs hp h => ?_)
    obtain ⟨hlit, hu⟩ := hp; rw [hu] at h
    exact absurd hlit (by decide)
  · have c_2 := cNe (tA (n := asgOf B j) (by omega)) tm1 c_2
    refine lv_iconst (v := nI 1) hx hcd dX3_developerOf_19 (by decide) ?_
    refine lv_goto (tgt := 24) hx hcd dX3_developerOf_20 (by decide) ?_
    refine kx_Sv (As := [.int (nI 1)]) (rest := []) G hC hB h (met_X3_requireFound l hst V (setB S 0 B) true) mw_1028 ks_X3_requireFound ⟨rfl, rfl⟩ ⟨Nat.le_of_ble_eq_true rfl, Nat.le_of_ble_eq_true rfl⟩ rfl rfl hl.1 (Nat.le_of_ble_eq_true rfl) dX3_developerOf_24 ⟨Nat.le_of_ble_eq_true rfl, Nat.le_of_ble_eq_true rfl⟩ (fun E ce q9 u t H1 locs1 ht9 hpx hb9 hS9 e1 e2 e3 => by subst hQ; exact kx_pass htab hlocks ht9 (absurd hpx.2.1 (by decide)) hb9 hS9 e1 e2 e3 (Nat.le_of_ble_eq_true rfl) (Nat.le_of_ble_eq_true rfl)) (fun u H locs hp h => ?_)
    obtain ⟨hlit, hu⟩ := hp; rw [hu] at h
    refine lv_iload_n hx hcd dX3_developerOf_27 rfl (lv_at hl 0 rfl) ?_
    exact kx_reti hQ G hret hlocks h (⟨j, rfl, hj, by omega, rfl, rfl⟩) (Nat.le_of_ble_eq_true rfl) (Nat.le_of_ble_eq_true rfl) dX3_developerOf_28
set_option maxHeartbeats 4000000 in
set_option maxRecDepth 100000 in
/-- plan -/
theorem met_X3_plan (l : Launch) (hst : l.stackTraces = false) (V : kEnv) (S : kCs) (B : kBd) (hI : bI B) (nx sz : Nat) (hnx : S.2.1 3 = nI nx) (hsz : S.2.1 4 = nI sz) (hx5 : nx < 60000) (hs5 : sz ≤ 8) (hnb : bN (S.1 (4 + nx % 8))) (x : Int32) : kX l yX3_plan cX3_plan 2 (some .int) { frames := 8, cells := 6, slots := 36, locals := 131 } V (cWs V) [.ref (eX V 96), .int (x)] (setB S 0 B) (fun r u => ∃ (j : Nat), x = nI j ∧ j < B.2 0 ∧ (((decide (j < B.2 0) && !(B.2 2).testBit j) && decide (B.1 1 j ≠ 0))) = true ∧ r = nI (psum (bPut B 2 (B.2 2 ||| 2 ^ j)) 0) ∧ u = setB (hkS S B nx sz) 0 (bPut B 2 (B.2 2 ||| 2 ^ j))) (fun E u => (E = "java/lang/IndexOutOfBoundsException" ∧ inR (B.2 0) x = false ∧ u = setB S 0 B) ∨ (∃ (j : Nat), x = nI j ∧ j < B.2 0 ∧ E = "java/lang/IllegalStateException" ∧ (((decide (j < B.2 0) && !(B.2 2).testBit j) && decide (B.1 1 j ≠ 0))) = false ∧ u = setB S 0 B)) 6 36 := by
  refine kX_of (by decide +kernel) (Nat.le_of_ble_eq_true rfl) ?_
  intro pg e s m args below meth c G hret hlocks htab hC hB h ls hl Q hQ
  have hl : lv_has ls 2 [(0, .ref (eX V 96)), (1, .int (x))] := hl
  have hx := G.1
  have hcd := G.2.1
  have hI0 := hI
  obtain ⟨hz, hbn, hn, hm, h3, h54, h4, h7, hr, he, ha, hact, h5⟩ := hI
  refine lv_aload_n hx hcd dX3_plan_0 rfl (lv_at hl 0 rfl) ?_
  refine lv_iload_n hx hcd dX3_plan_1 rfl (lv_at hl 1 rfl) ?_
  refine kx_Vv (As := [.int (x)]) (rest := []) (b := eX V 96) G hC hB h (met_X3_requireStory l hst V S B hI0 x) mw_846 kv_X3_requireStory ⟨rfl, rfl⟩ ⟨Nat.le_of_ble_eq_true rfl, Nat.le_of_ble_eq_true rfl⟩ (r_sV hC h) rfl rfl hl.1 (Nat.le_of_ble_eq_true rfl) dX3_plan_2 ⟨Nat.le_of_ble_eq_true rfl, Nat.le_of_ble_eq_true rfl⟩ (fun E ce q9 u t H1 locs1 ht9 hpx hb9 hS9 e1 e2 e3 => by subst hQ; exact kx_pass htab hlocks ht9 (Or.inl (hpx)) hb9 hS9 e1 e2 e3 (Nat.le_of_ble_eq_true rfl) (Nat.le_of_ble_eq_true rfl)) (fun u H locs hp h => ?_)
  obtain ⟨hs1, hu⟩ := hp; rw [hu] at h
  obtain ⟨j, hj, rfl⟩ := inR_ex (by omega) hs1
  refine lv_aload_n hx hcd dX3_plan_5 rfl (lv_at hl 0 rfl) ?_
  refine va_get (D := eD V) (ci := 7) (v := .ref (eX V (8 * 0))) (C := RX3) (T := TX3) (N := 11) hx hcd G.2.2.2.2 iwX3 G.2.2.2.1 hC.1 h.1 (96 + 0) (cF_at V _ (i := 0) (by decide)) rfl 0 (by decide) (G.2.2.2.2 _ mw_242) (fun y h9 => h9) rfl dX3_plan_6 ?_
  refine lv_iload_n hx hcd dX3_plan_9 rfl (lv_at hl 1 rfl) ?_
  refine k_Vi (As := [.int (nI (j))]) (rest := []) (b := eX V (8 * 0)) G hC hB h (met_X0_canPlan l V S 0 B (by omega) hz hn j (by omega)) mw_1134 kv_X0_canPlan ⟨rfl, rfl⟩ ⟨Nat.le_of_ble_eq_true rfl, Nat.le_of_ble_eq_true rfl⟩ (r_bV hC h 0 (by omega)) rfl rfl hl.1 (Nat.le_of_ble_eq_true rfl) dX3_plan_10 ⟨Nat.le_of_ble_eq_true rfl, Nat.le_of_ble_eq_true rfl⟩ (fun r u H locs hp h => ?_)
  obtain ⟨rfl, rfl⟩ := hp
  refine kx_Sv (As := [.int (bz (((decide (j < B.2 0) && !(B.2 2).testBit j) && decide (B.1 1 j ≠ 0))))]) (rest := []) G hC hB h (met_X3_requireState l hst V (setB S 0 B) ((decide (j < B.2 0) && !(B.2 2).testBit j) && decide (B.1 1 j ≠ 0))) mw_804 ks_X3_requireState ⟨rfl, rfl⟩ ⟨Nat.le_of_ble_eq_true rfl, Nat.le_of_ble_eq_true rfl⟩ rfl rfl hl.1 (Nat.le_of_ble_eq_true rfl) dX3_plan_13 ⟨Nat.le_of_ble_eq_true rfl, Nat.le_of_ble_eq_true rfl⟩ (fun E ce q9 u t H1 locs1 ht9 hpx hb9 hS9 e1 e2 e3 => by subst hQ; exact kx_pass htab hlocks ht9 (Or.inr (⟨j, rfl, hj, hpx⟩)) hb9 hS9 e1 e2 e3 (Nat.le_of_ble_eq_true rfl) (Nat.le_of_ble_eq_true rfl)) (fun u H locs hp h => ?_)
  obtain ⟨hs2, hu⟩ := hp; rw [hu] at h
  refine lv_aload_n hx hcd dX3_plan_16 rfl (lv_at hl 0 rfl) ?_
  refine va_get (D := eD V) (ci := 7) (v := .ref (eX V 97)) (C := RX3) (T := TX3) (N := 11) hx hcd G.2.2.2.2 iwX3 G.2.2.2.1 hC.1 h.1 (96 + 0) (cF_at V _ (i := 0) (by decide)) rfl 4 (by decide) (G.2.2.2.2 _ mw_246) (fun y h9 => h9) rfl dX3_plan_17 ?_
  refine lv_aload_n hx hcd dX3_plan_20 rfl (lv_at hl 0 rfl) ?_
  refine va_get (D := eD V) (ci := 7) (v := .ref (eX V (8 * 0))) (C := RX3) (T := TX3) (N := 11) hx hcd G.2.2.2.2 iwX3 G.2.2.2.1 hC.1 h.1 (96 + 0) (cF_at V _ (i := 0) (by decide)) rfl 0 (by decide) (G.2.2.2.2 _ mw_242) (fun y h9 => h9) rfl dX3_plan_21 ?_
  refine k_Vv (As := [.ref (eX V (8 * 0))]) (rest := []) (b := eX V 97) G hC hB h (met_X2_keep l V (setB S 0 B) 0 (by omega) nx sz hnx hsz hx5 hs5 hz h3 hbn (by rw [setB_ne _ _ (by omega)]; exact hnb)) mw_823 kv_X2_keep ⟨rfl, rfl⟩ ⟨Nat.le_of_ble_eq_true rfl, Nat.le_of_ble_eq_true rfl⟩ (r_hV hC h) rfl rfl hl.1 (Nat.le_of_ble_eq_true rfl) dX3_plan_24 ⟨Nat.le_of_ble_eq_true rfl, Nat.le_of_ble_eq_true rfl⟩ (fun u H locs hp h => ?_)
  rw [hp, histS_0] at h
  refine lv_aload_n hx hcd dX3_plan_27 rfl (lv_at hl 0 rfl) ?_
  refine va_get (D := eD V) (ci := 7) (v := .ref (eX V (8 * 0))) (C := RX3) (T := TX3) (N := 11) hx hcd G.2.2.2.2 iwX3 G.2.2.2.1 hC.1 h.1 (96 + 0) (cF_at V _ (i := 0) (by decide)) rfl 0 (by decide) (G.2.2.2.2 _ mw_242) (fun y h9 => h9) rfl dX3_plan_28 ?_
  refine lv_iload_n hx hcd dX3_plan_31 rfl (lv_at hl 1 rfl) ?_
  refine k_Vi (As := [.int (nI (j))]) (rest := []) (b := eX V (8 * 0)) G hC hB h (met_X0_putIntoPlan l V (hkS S B nx sz) 0 B (by omega) hz j (by omega)) mw_1138 kv_X0_putIntoPlan ⟨rfl, rfl⟩ ⟨Nat.le_of_ble_eq_true rfl, Nat.le_of_ble_eq_true rfl⟩ (r_bV hC h 0 (by omega)) rfl rfl hl.1 (Nat.le_of_ble_eq_true rfl) dX3_plan_32 ⟨Nat.le_of_ble_eq_true rfl, Nat.le_of_ble_eq_true rfl⟩ (fun r u H locs hp h => ?_)
  obtain ⟨rfl, rfl⟩ := hp
  exact kx_reti hQ G hret hlocks h (⟨j, rfl, hj, hs2, rfl, rfl⟩) (Nat.le_of_ble_eq_true rfl) (Nat.le_of_ble_eq_true rfl) dX3_plan_35
set_option maxHeartbeats 4000000 in
set_option maxRecDepth 100000 in
/-- unplan -/
theorem met_X3_unplan (l : Launch) (hst : l.stackTraces = false) (V : kEnv) (S : kCs) (B : kBd) (hI : bI B) (nx sz : Nat) (hnx : S.2.1 3 = nI nx) (hsz : S.2.1 4 = nI sz) (hx5 : nx < 60000) (hs5 : sz ≤ 8) (hnb : bN (S.1 (4 + nx % 8))) (x : Int32) : kX l yX3_unplan cX3_unplan 2 (some .int) { frames := 8, cells := 6, slots := 36, locals := 131 } V (cWs V) [.ref (eX V 96), .int (x)] (setB S 0 B) (fun r u => ∃ (j : Nat), x = nI j ∧ j < B.2 0 ∧ (((decide (j < B.2 0) && (B.2 2).testBit j) && decide (asgOf B j = 0))) = true ∧ r = nI (psum (bPut B 2 (andn (B.2 2) (2 ^ j))) 0) ∧ u = setB (hkS S B nx sz) 0 (bPut B 2 (andn (B.2 2) (2 ^ j)))) (fun E u => (E = "java/lang/IndexOutOfBoundsException" ∧ inR (B.2 0) x = false ∧ u = setB S 0 B) ∨ (∃ (j : Nat), x = nI j ∧ j < B.2 0 ∧ E = "java/lang/IllegalStateException" ∧ (((decide (j < B.2 0) && (B.2 2).testBit j) && decide (asgOf B j = 0))) = false ∧ u = setB S 0 B)) 6 36 := by
  refine kX_of (by decide +kernel) (Nat.le_of_ble_eq_true rfl) ?_
  intro pg e s m args below meth c G hret hlocks htab hC hB h ls hl Q hQ
  have hl : lv_has ls 2 [(0, .ref (eX V 96)), (1, .int (x))] := hl
  have hx := G.1
  have hcd := G.2.1
  have hI0 := hI
  obtain ⟨hz, hbn, hn, hm, h3, h54, h4, h7, hr, he, ha, hact, h5⟩ := hI
  refine lv_aload_n hx hcd dX3_unplan_0 rfl (lv_at hl 0 rfl) ?_
  refine lv_iload_n hx hcd dX3_unplan_1 rfl (lv_at hl 1 rfl) ?_
  refine kx_Vv (As := [.int (x)]) (rest := []) (b := eX V 96) G hC hB h (met_X3_requireStory l hst V S B hI0 x) mw_846 kv_X3_requireStory ⟨rfl, rfl⟩ ⟨Nat.le_of_ble_eq_true rfl, Nat.le_of_ble_eq_true rfl⟩ (r_sV hC h) rfl rfl hl.1 (Nat.le_of_ble_eq_true rfl) dX3_unplan_2 ⟨Nat.le_of_ble_eq_true rfl, Nat.le_of_ble_eq_true rfl⟩ (fun E ce q9 u t H1 locs1 ht9 hpx hb9 hS9 e1 e2 e3 => by subst hQ; exact kx_pass htab hlocks ht9 (Or.inl (hpx)) hb9 hS9 e1 e2 e3 (Nat.le_of_ble_eq_true rfl) (Nat.le_of_ble_eq_true rfl)) (fun u H locs hp h => ?_)
  obtain ⟨hs1, hu⟩ := hp; rw [hu] at h
  obtain ⟨j, hj, rfl⟩ := inR_ex (by omega) hs1
  refine lv_aload_n hx hcd dX3_unplan_5 rfl (lv_at hl 0 rfl) ?_
  refine va_get (D := eD V) (ci := 7) (v := .ref (eX V (8 * 0))) (C := RX3) (T := TX3) (N := 11) hx hcd G.2.2.2.2 iwX3 G.2.2.2.1 hC.1 h.1 (96 + 0) (cF_at V _ (i := 0) (by decide)) rfl 0 (by decide) (G.2.2.2.2 _ mw_242) (fun y h9 => h9) rfl dX3_unplan_6 ?_
  refine lv_iload_n hx hcd dX3_unplan_9 rfl (lv_at hl 1 rfl) ?_
  refine k_Vi (As := [.int (nI (j))]) (rest := []) (b := eX V (8 * 0)) G hC hB h (met_X0_canUnplan l V S 0 B (by omega) hz hn j (by omega)) mw_1150 kv_X0_canUnplan ⟨rfl, rfl⟩ ⟨Nat.le_of_ble_eq_true rfl, Nat.le_of_ble_eq_true rfl⟩ (r_bV hC h 0 (by omega)) rfl rfl hl.1 (Nat.le_of_ble_eq_true rfl) dX3_unplan_10 ⟨Nat.le_of_ble_eq_true rfl, Nat.le_of_ble_eq_true rfl⟩ (fun r u H locs hp h => ?_)
  obtain ⟨rfl, rfl⟩ := hp
  refine kx_Sv (As := [.int (bz (((decide (j < B.2 0) && (B.2 2).testBit j) && decide (asgOf B j = 0))))]) (rest := []) G hC hB h (met_X3_requireState l hst V (setB S 0 B) ((decide (j < B.2 0) && (B.2 2).testBit j) && decide (asgOf B j = 0))) mw_804 ks_X3_requireState ⟨rfl, rfl⟩ ⟨Nat.le_of_ble_eq_true rfl, Nat.le_of_ble_eq_true rfl⟩ rfl rfl hl.1 (Nat.le_of_ble_eq_true rfl) dX3_unplan_13 ⟨Nat.le_of_ble_eq_true rfl, Nat.le_of_ble_eq_true rfl⟩ (fun E ce q9 u t H1 locs1 ht9 hpx hb9 hS9 e1 e2 e3 => by subst hQ; exact kx_pass htab hlocks ht9 (Or.inr (⟨j, rfl, hj, hpx⟩)) hb9 hS9 e1 e2 e3 (Nat.le_of_ble_eq_true rfl) (Nat.le_of_ble_eq_true rfl)) (fun u H locs hp h => ?_)
  obtain ⟨hs2, hu⟩ := hp; rw [hu] at h
  refine lv_aload_n hx hcd dX3_unplan_16 rfl (lv_at hl 0 rfl) ?_
  refine va_get (D := eD V) (ci := 7) (v := .ref (eX V 97)) (C := RX3) (T := TX3) (N := 11) hx hcd G.2.2.2.2 iwX3 G.2.2.2.1 hC.1 h.1 (96 + 0) (cF_at V _ (i := 0) (by decide)) rfl 4 (by decide) (G.2.2.2.2 _ mw_246) (fun y h9 => h9) rfl dX3_unplan_17 ?_
  refine lv_aload_n hx hcd dX3_unplan_20 rfl (lv_at hl 0 rfl) ?_
  refine va_get (D := eD V) (ci := 7) (v := .ref (eX V (8 * 0))) (C := RX3) (T := TX3) (N := 11) hx hcd G.2.2.2.2 iwX3 G.2.2.2.1 hC.1 h.1 (96 + 0) (cF_at V _ (i := 0) (by decide)) rfl 0 (by decide) (G.2.2.2.2 _ mw_242) (fun y h9 => h9) rfl dX3_unplan_21 ?_
  refine k_Vv (As := [.ref (eX V (8 * 0))]) (rest := []) (b := eX V 97) G hC hB h (met_X2_keep l V (setB S 0 B) 0 (by omega) nx sz hnx hsz hx5 hs5 hz h3 hbn (by rw [setB_ne _ _ (by omega)]; exact hnb)) mw_823 kv_X2_keep ⟨rfl, rfl⟩ ⟨Nat.le_of_ble_eq_true rfl, Nat.le_of_ble_eq_true rfl⟩ (r_hV hC h) rfl rfl hl.1 (Nat.le_of_ble_eq_true rfl) dX3_unplan_24 ⟨Nat.le_of_ble_eq_true rfl, Nat.le_of_ble_eq_true rfl⟩ (fun u H locs hp h => ?_)
  rw [hp, histS_0] at h
  refine lv_aload_n hx hcd dX3_unplan_27 rfl (lv_at hl 0 rfl) ?_
  refine va_get (D := eD V) (ci := 7) (v := .ref (eX V (8 * 0))) (C := RX3) (T := TX3) (N := 11) hx hcd G.2.2.2.2 iwX3 G.2.2.2.1 hC.1 h.1 (96 + 0) (cF_at V _ (i := 0) (by decide)) rfl 0 (by decide) (G.2.2.2.2 _ mw_242) (fun y h9 => h9) rfl dX3_unplan_28 ?_
  refine lv_iload_n hx hcd dX3_unplan_31 rfl (lv_at hl 1 rfl) ?_
  refine k_Vi (As := [.int (nI (j))]) (rest := []) (b := eX V (8 * 0)) G hC hB h (met_X0_removeFromPlan l V (hkS S B nx sz) 0 B (by omega) hz j (by omega)) mw_1154 kv_X0_removeFromPlan ⟨rfl, rfl⟩ ⟨Nat.le_of_ble_eq_true rfl, Nat.le_of_ble_eq_true rfl⟩ (r_bV hC h 0 (by omega)) rfl rfl hl.1 (Nat.le_of_ble_eq_true rfl) dX3_unplan_32 ⟨Nat.le_of_ble_eq_true rfl, Nat.le_of_ble_eq_true rfl⟩ (fun r u H locs hp h => ?_)
  obtain ⟨rfl, rfl⟩ := hp
  exact kx_reti hQ G hret hlocks h (⟨j, rfl, hj, hs2, rfl, rfl⟩) (Nat.le_of_ble_eq_true rfl) (Nat.le_of_ble_eq_true rfl) dX3_unplan_35
set_option maxHeartbeats 4000000 in
set_option maxRecDepth 100000 in
/-- passDay -/
theorem met_X3_passDay (l : Launch) (hst : l.stackTraces = false) (V : kEnv) (S : kCs) (B : kBd) (hI : bI B) (nx sz : Nat) (hnx : S.2.1 3 = nI nx) (hsz : S.2.1 4 = nI sz) (hx5 : nx < 60000) (hs5 : sz ≤ 8) (hnb : bN (S.1 (4 + nx % 8))) : kX l yX3_passDay cX3_passDay 1 (some .int) { frames := 7, cells := 6, slots := 36, locals := 110 } V (cWs V) [.ref (eX V 96)] (setB S 0 B) (fun r u => ((decide (B.2 3 ≠ 0) && decide (B.2 5 < B.2 4))) = true ∧ r = nI (wkN (unf B) B 4).2 ∧ u = setB (hkS S B nx sz) 0 (dayB B)) (fun E u => (E = "java/lang/IllegalStateException" ∧ ((decide (B.2 3 ≠ 0) && decide (B.2 5 < B.2 4))) = false ∧ u = setB S 0 B)) 6 36 := by
  refine kX_of (by decide +kernel) (Nat.le_of_ble_eq_true rfl) ?_
  intro pg e s m args below meth c G hret hlocks htab hC hB h ls hl Q hQ
  have hl : lv_has ls 1 [(0, .ref (eX V 96))] := hl
  have hx := G.1
  have hcd := G.2.1
  have hI0 := hI
  obtain ⟨hz, hbn, hn, hm, h3, h54, h4, h7, hr, he, ha, hact, h5⟩ := hI
  refine lv_aload_n hx hcd dX3_passDay_0 rfl (lv_at hl 0 rfl) ?_
  refine va_get (D := eD V) (ci := 7) (v := .ref (eX V (8 * 0))) (C := RX3) (T := TX3) (N := 11) hx hcd G.2.2.2.2 iwX3 G.2.2.2.1 hC.1 h.1 (96 + 0) (cF_at V _ (i := 0) (by decide)) rfl 0 (by decide) (G.2.2.2.2 _ mw_242) (fun y h9 => h9) rfl dX3_passDay_1 ?_
  refine k_Vi (As := []) (rest := []) (b := eX V (8 * 0)) G hC hB h (met_X0_canPassDay l V S 0 B (by omega) hz ) mw_1185 kv_X0_canPassDay ⟨rfl, rfl⟩ ⟨Nat.le_of_ble_eq_true rfl, Nat.le_of_ble_eq_true rfl⟩ (r_bV hC h 0 (by omega)) rfl rfl hl.1 (Nat.le_of_ble_eq_true rfl) dX3_passDay_4 ⟨Nat.le_of_ble_eq_true rfl, Nat.le_of_ble_eq_true rfl⟩ (fun r u H locs hp h => ?_)
  obtain ⟨rfl, rfl⟩ := hp
  refine kx_Sv (As := [.int (bz ((decide (B.2 3 ≠ 0) && decide (B.2 5 < B.2 4))))]) (rest := []) G hC hB h (met_X3_requireState l hst V (setB S 0 B) (decide (B.2 3 ≠ 0) && decide (B.2 5 < B.2 4))) mw_804 ks_X3_requireState ⟨rfl, rfl⟩ ⟨Nat.le_of_ble_eq_true rfl, Nat.le_of_ble_eq_true rfl⟩ rfl rfl hl.1 (Nat.le_of_ble_eq_true rfl) dX3_passDay_7 ⟨Nat.le_of_ble_eq_true rfl, Nat.le_of_ble_eq_true rfl⟩ (fun E ce q9 u t H1 locs1 ht9 hpx hb9 hS9 e1 e2 e3 => by subst hQ; exact kx_pass htab hlocks ht9 (hpx) hb9 hS9 e1 e2 e3 (Nat.le_of_ble_eq_true rfl) (Nat.le_of_ble_eq_true rfl)) (fun u H locs hp h => ?_)
  obtain ⟨hs1, hu⟩ := hp; rw [hu] at h
  have g1 := of_decide_eq_true (band_r hs1)
  refine lv_aload_n hx hcd dX3_passDay_10 rfl (lv_at hl 0 rfl) ?_
  refine va_get (D := eD V) (ci := 7) (v := .ref (eX V 97)) (C := RX3) (T := TX3) (N := 11) hx hcd G.2.2.2.2 iwX3 G.2.2.2.1 hC.1 h.1 (96 + 0) (cF_at V _ (i := 0) (by decide)) rfl 4 (by decide) (G.2.2.2.2 _ mw_246) (fun y h9 => h9) rfl dX3_passDay_11 ?_
  refine lv_aload_n hx hcd dX3_passDay_14 rfl (lv_at hl 0 rfl) ?_
  refine va_get (D := eD V) (ci := 7) (v := .ref (eX V (8 * 0))) (C := RX3) (T := TX3) (N := 11) hx hcd G.2.2.2.2 iwX3 G.2.2.2.1 hC.1 h.1 (96 + 0) (cF_at V _ (i := 0) (by decide)) rfl 0 (by decide) (G.2.2.2.2 _ mw_242) (fun y h9 => h9) rfl dX3_passDay_15 ?_
  refine k_Vv (As := [.ref (eX V (8 * 0))]) (rest := []) (b := eX V 97) G hC hB h (met_X2_keep l V (setB S 0 B) 0 (by omega) nx sz hnx hsz hx5 hs5 hz h3 hbn (by rw [setB_ne _ _ (by omega)]; exact hnb)) mw_823 kv_X2_keep ⟨rfl, rfl⟩ ⟨Nat.le_of_ble_eq_true rfl, Nat.le_of_ble_eq_true rfl⟩ (r_hV hC h) rfl rfl hl.1 (Nat.le_of_ble_eq_true rfl) dX3_passDay_18 ⟨Nat.le_of_ble_eq_true rfl, Nat.le_of_ble_eq_true rfl⟩ (fun u H locs hp h => ?_)
  rw [hp, histS_0] at h
  refine lv_aload_n hx hcd dX3_passDay_21 rfl (lv_at hl 0 rfl) ?_
  refine va_get (D := eD V) (ci := 7) (v := .ref (eX V (8 * 0))) (C := RX3) (T := TX3) (N := 11) hx hcd G.2.2.2.2 iwX3 G.2.2.2.1 hC.1 h.1 (96 + 0) (cF_at V _ (i := 0) (by decide)) rfl 0 (by decide) (G.2.2.2.2 _ mw_242) (fun y h9 => h9) rfl dX3_passDay_22 ?_
  refine k_Vi (As := []) (rest := []) (b := eX V (8 * 0)) G hC hB h (met_X0_spendDay l V (hkS S B nx sz) 0 B (by omega) hz hn (by omega)) mw_1189 kv_X0_spendDay ⟨rfl, rfl⟩ ⟨Nat.le_of_ble_eq_true rfl, Nat.le_of_ble_eq_true rfl⟩ (r_bV hC h 0 (by omega)) rfl rfl hl.1 (Nat.le_of_ble_eq_true rfl) dX3_passDay_25 ⟨Nat.le_of_ble_eq_true rfl, Nat.le_of_ble_eq_true rfl⟩ (fun r u H locs hp h => ?_)
  obtain ⟨rfl, rfl⟩ := hp
  exact kx_reti hQ G hret hlocks h (⟨hs1, rfl, rfl⟩) (Nat.le_of_ble_eq_true rfl) (Nat.le_of_ble_eq_true rfl) dX3_passDay_28
set_option maxHeartbeats 4000000 in
set_option maxRecDepth 100000 in
/-- endSprint -/
theorem met_X3_endSprint (l : Launch) (hst : l.stackTraces = false) (V : kEnv) (S : kCs) (B : kBd) (hI : bI B) (nx sz : Nat) (hnx : S.2.1 3 = nI nx) (hsz : S.2.1 4 = nI sz) (hx5 : nx < 60000) (hs5 : sz ≤ 8) (hnb : bN (S.1 (4 + nx % 8))) : kX l yX3_endSprint cX3_endSprint 1 (some .int) { frames := 7, cells := 6, slots := 36, locals := 110 } V (cWs V) [.ref (eX V 96)] (setB S 0 B) (fun r u => (decide (B.2 3 ≠ 0)) = true ∧ r = nI (pfin B) ∧ u = setB (hkS S B nx sz) 0 (endB B)) (fun E u => (E = "java/lang/IllegalStateException" ∧ (decide (B.2 3 ≠ 0)) = false ∧ u = setB S 0 B)) 6 36 := by
  refine kX_of (by decide +kernel) (Nat.le_of_ble_eq_true rfl) ?_
  intro pg e s m args below meth c G hret hlocks htab hC hB h ls hl Q hQ
  have hl : lv_has ls 1 [(0, .ref (eX V 96))] := hl
  have hx := G.1
  have hcd := G.2.1
  have hI0 := hI
  obtain ⟨hz, hbn, hn, hm, h3, h54, h4, h7, hr, he, ha, hact, h5⟩ := hI
  refine lv_aload_n hx hcd dX3_endSprint_0 rfl (lv_at hl 0 rfl) ?_
  refine va_get (D := eD V) (ci := 7) (v := .ref (eX V (8 * 0))) (C := RX3) (T := TX3) (N := 11) hx hcd G.2.2.2.2 iwX3 G.2.2.2.1 hC.1 h.1 (96 + 0) (cF_at V _ (i := 0) (by decide)) rfl 0 (by decide) (G.2.2.2.2 _ mw_242) (fun y h9 => h9) rfl dX3_endSprint_1 ?_
  refine r_bS G hC h 0 3 (by omega) (by decide) (setB_at _ _ _) mw_117 (x := nI (B.2 3)) rfl dX3_endSprint_4 ?_
  have q_1 := hz.2 3
  refine lv_topi (fun z_2 e_z_2 => ?_)
  obtain rfl : z_2 = bz (decide (B.2 3 ≠ 0)) := by rw [e_z_2]; exact act_bz h3
  refine kx_Sv (As := [.int (bz (decide (B.2 3 ≠ 0)))]) (rest := []) G hC hB h (met_X3_requireState l hst V (setB S 0 B) (decide (B.2 3 ≠ 0))) mw_804 ks_X3_requireState ⟨rfl, rfl⟩ ⟨Nat.le_of_ble_eq_true rfl, Nat.le_of_ble_eq_true rfl⟩ rfl rfl hl.1 (Nat.le_of_ble_eq_true rfl) dX3_endSprint_7 ⟨Nat.le_of_ble_eq_true rfl, Nat.le_of_ble_eq_true rfl⟩ (fun E ce q9 u t H1 locs1 ht9 hpx hb9 hS9 e1 e2 e3 => by subst hQ; exact kx_pass htab hlocks ht9 (hpx) hb9 hS9 e1 e2 e3 (Nat.le_of_ble_eq_true rfl) (Nat.le_of_ble_eq_true rfl)) (fun u H locs hp h => ?_)
  obtain ⟨hs1, hu⟩ := hp; rw [hu] at h
  have h79 := hact (of_decide_eq_true hs1)
  refine lv_aload_n hx hcd dX3_endSprint_10 rfl (lv_at hl 0 rfl) ?_
  refine va_get (D := eD V) (ci := 7) (v := .ref (eX V 97)) (C := RX3) (T := TX3) (N := 11) hx hcd G.2.2.2.2 iwX3 G.2.2.2.1 hC.1 h.1 (96 + 0) (cF_at V _ (i := 0) (by decide)) rfl 4 (by decide) (G.2.2.2.2 _ mw_246) (fun y h9 => h9) rfl dX3_endSprint_11 ?_
  refine lv_aload_n hx hcd dX3_endSprint_14 rfl (lv_at hl 0 rfl) ?_
  refine va_get (D := eD V) (ci := 7) (v := .ref (eX V (8 * 0))) (C := RX3) (T := TX3) (N := 11) hx hcd G.2.2.2.2 iwX3 G.2.2.2.1 hC.1 h.1 (96 + 0) (cF_at V _ (i := 0) (by decide)) rfl 0 (by decide) (G.2.2.2.2 _ mw_242) (fun y h9 => h9) rfl dX3_endSprint_15 ?_
  refine k_Vv (As := [.ref (eX V (8 * 0))]) (rest := []) (b := eX V 97) G hC hB h (met_X2_keep l V (setB S 0 B) 0 (by omega) nx sz hnx hsz hx5 hs5 hz h3 hbn (by rw [setB_ne _ _ (by omega)]; exact hnb)) mw_823 kv_X2_keep ⟨rfl, rfl⟩ ⟨Nat.le_of_ble_eq_true rfl, Nat.le_of_ble_eq_true rfl⟩ (r_hV hC h) rfl rfl hl.1 (Nat.le_of_ble_eq_true rfl) dX3_endSprint_18 ⟨Nat.le_of_ble_eq_true rfl, Nat.le_of_ble_eq_true rfl⟩ (fun u H locs hp h => ?_)
  rw [hp, histS_0] at h
  refine lv_aload_n hx hcd dX3_endSprint_21 rfl (lv_at hl 0 rfl) ?_
  refine va_get (D := eD V) (ci := 7) (v := .ref (eX V (8 * 0))) (C := RX3) (T := TX3) (N := 11) hx hcd G.2.2.2.2 iwX3 G.2.2.2.1 hC.1 h.1 (96 + 0) (cF_at V _ (i := 0) (by decide)) rfl 0 (by decide) (G.2.2.2.2 _ mw_242) (fun y h9 => h9) rfl dX3_endSprint_22 ?_
  refine k_Vi (As := []) (rest := []) (b := eX V (8 * 0)) G hC hB h (met_X0_closeSprint l V (hkS S B nx sz) 0 B (by omega) hz (by assumption)) mw_1201 kv_X0_closeSprint ⟨rfl, rfl⟩ ⟨Nat.le_of_ble_eq_true rfl, Nat.le_of_ble_eq_true rfl⟩ (r_bV hC h 0 (by omega)) rfl rfl hl.1 (Nat.le_of_ble_eq_true rfl) dX3_endSprint_25 ⟨Nat.le_of_ble_eq_true rfl, Nat.le_of_ble_eq_true rfl⟩ (fun r u H locs hp h => ?_)
  obtain ⟨rfl, rfl⟩ := hp
  exact kx_reti hQ G hret hlocks h (⟨hs1, rfl, rfl⟩) (Nat.le_of_ble_eq_true rfl) (Nat.le_of_ble_eq_true rfl) dX3_endSprint_28
set_option maxHeartbeats 4000000 in
set_option maxRecDepth 100000 in
/-- daysPassed -/
theorem met_X3_daysPassed (l : Launch) (hst : l.stackTraces = false) (V : kEnv) (S : kCs) (B : kBd) (hI : bI B) : kX l yX3_daysPassed cX3_daysPassed 1 (some .int) { frames := 7, cells := 6, slots := 36, locals := 110 } V (cWs V) [.ref (eX V 96)] (setB S 0 B) (fun r u => (decide (B.2 3 ≠ 0)) = true ∧ r = nI (B.2 5) ∧ u = setB S 0 B) (fun E u => (E = "java/util/NoSuchElementException" ∧ (decide (B.2 3 ≠ 0)) = false ∧ u = setB S 0 B)) 6 36 := by
  refine kX_of (by decide +kernel) (Nat.le_of_ble_eq_true rfl) ?_
  intro pg e s m args below meth c G hret hlocks htab hC hB h ls hl Q hQ
  have hl : lv_has ls 1 [(0, .ref (eX V 96))] := hl
  have hx := G.1
  have hcd := G.2.1
  have hI0 := hI
  obtain ⟨hz, hbn, hn, hm, h3, h54, h4, h7, hr, he, ha, hact, h5⟩ := hI
  refine lv_aload_n hx hcd dX3_daysPassed_0 rfl (lv_at hl 0 rfl) ?_
  refine va_get (D := eD V) (ci := 7) (v := .ref (eX V (8 * 0))) (C := RX3) (T := TX3) (N := 11) hx hcd G.2.2.2.2 iwX3 G.2.2.2.1 hC.1 h.1 (96 + 0) (cF_at V _ (i := 0) (by decide)) rfl 0 (by decide) (G.2.2.2.2 _ mw_242) (fun y h9 => h9) rfl dX3_daysPassed_1 ?_
  refine r_bS G hC h 0 3 (by omega) (by decide) (setB_at _ _ _) mw_117 (x := nI (B.2 3)) rfl dX3_daysPassed_4 ?_
  have q_1 := hz.2 3
  refine lv_topi (fun z_2 e_z_2 => ?_)
  obtain rfl : z_2 = bz (decide (B.2 3 ≠ 0)) := by rw [e_z_2]; exact act_bz h3
  refine kx_Sv (As := [.int (bz (decide (B.2 3 ≠ 0)))]) (rest := []) G hC hB h (met_X3_requireFound l hst V (setB S 0 B) (decide (B.2 3 ≠ 0))) mw_1028 ks_X3_requireFound ⟨rfl, rfl⟩ ⟨Nat.le_of_ble_eq_true rfl, Nat.le_of_ble_eq_true rfl⟩ rfl rfl hl.1 (Nat.le_of_ble_eq_true rfl) dX3_daysPassed_7 ⟨Nat.le_of_ble_eq_true rfl, Nat.le_of_ble_eq_true rfl⟩ (fun E ce q9 u t H1 locs1 ht9 hpx hb9 hS9 e1 e2 e3 => by subst hQ; exact kx_pass htab hlocks ht9 (hpx) hb9 hS9 e1 e2 e3 (Nat.le_of_ble_eq_true rfl) (Nat.le_of_ble_eq_true rfl)) (fun u H locs hp h => ?_)
  obtain ⟨hs1, hu⟩ := hp; rw [hu] at h
  refine lv_aload_n hx hcd dX3_daysPassed_10 rfl (lv_at hl 0 rfl) ?_
  refine va_get (D := eD V) (ci := 7) (v := .ref (eX V (8 * 0))) (C := RX3) (T := TX3) (N := 11) hx hcd G.2.2.2.2 iwX3 G.2.2.2.1 hC.1 h.1 (96 + 0) (cF_at V _ (i := 0) (by decide)) rfl 0 (by decide) (G.2.2.2.2 _ mw_242) (fun y h9 => h9) rfl dX3_daysPassed_11 ?_
  refine r_bS G hC h 0 5 (by omega) (by decide) (setB_at _ _ _) mw_121 (x := nI (B.2 5)) rfl dX3_daysPassed_14 ?_
  have q_3 := hz.2 5
  exact kx_reti hQ G hret hlocks h (⟨hs1, rfl, rfl⟩) (Nat.le_of_ble_eq_true rfl) (Nat.le_of_ble_eq_true rfl) dX3_daysPassed_17
set_option maxHeartbeats 4000000 in
set_option maxRecDepth 100000 in
/-- scopeChange -/
theorem met_X3_scopeChange (l : Launch) (hst : l.stackTraces = false) (V : kEnv) (S : kCs) (B : kBd) (hI : bI B) : kX l yX3_scopeChange cX3_scopeChange 1 (some .int) { frames := 7, cells := 6, slots := 36, locals := 110 } V (cWs V) [.ref (eX V 96)] (setB S 0 B) (fun r u => (decide (B.2 3 ≠ 0)) = true ∧ r = nI (psum B 0) - nI (B.2 6) ∧ u = setB S 0 B) (fun E u => (E = "java/util/NoSuchElementException" ∧ (decide (B.2 3 ≠ 0)) = false ∧ u = setB S 0 B)) 6 36 := by
  refine kX_of (by decide +kernel) (Nat.le_of_ble_eq_true rfl) ?_
  intro pg e s m args below meth c G hret hlocks htab hC hB h ls hl Q hQ
  have hl : lv_has ls 1 [(0, .ref (eX V 96))] := hl
  have hx := G.1
  have hcd := G.2.1
  have hI0 := hI
  obtain ⟨hz, hbn, hn, hm, h3, h54, h4, h7, hr, he, ha, hact, h5⟩ := hI
  refine lv_aload_n hx hcd dX3_scopeChange_0 rfl (lv_at hl 0 rfl) ?_
  refine va_get (D := eD V) (ci := 7) (v := .ref (eX V (8 * 0))) (C := RX3) (T := TX3) (N := 11) hx hcd G.2.2.2.2 iwX3 G.2.2.2.1 hC.1 h.1 (96 + 0) (cF_at V _ (i := 0) (by decide)) rfl 0 (by decide) (G.2.2.2.2 _ mw_242) (fun y h9 => h9) rfl dX3_scopeChange_1 ?_
  refine r_bS G hC h 0 3 (by omega) (by decide) (setB_at _ _ _) mw_117 (x := nI (B.2 3)) rfl dX3_scopeChange_4 ?_
  have q_1 := hz.2 3
  refine lv_topi (fun z_2 e_z_2 => ?_)
  obtain rfl : z_2 = bz (decide (B.2 3 ≠ 0)) := by rw [e_z_2]; exact act_bz h3
  refine kx_Sv (As := [.int (bz (decide (B.2 3 ≠ 0)))]) (rest := []) G hC hB h (met_X3_requireFound l hst V (setB S 0 B) (decide (B.2 3 ≠ 0))) mw_1028 ks_X3_requireFound ⟨rfl, rfl⟩ ⟨Nat.le_of_ble_eq_true rfl, Nat.le_of_ble_eq_true rfl⟩ rfl rfl hl.1 (Nat.le_of_ble_eq_true rfl) dX3_scopeChange_7 ⟨Nat.le_of_ble_eq_true rfl, Nat.le_of_ble_eq_true rfl⟩ (fun E ce q9 u t H1 locs1 ht9 hpx hb9 hS9 e1 e2 e3 => by subst hQ; exact kx_pass htab hlocks ht9 (hpx) hb9 hS9 e1 e2 e3 (Nat.le_of_ble_eq_true rfl) (Nat.le_of_ble_eq_true rfl)) (fun u H locs hp h => ?_)
  obtain ⟨hs1, hu⟩ := hp; rw [hu] at h
  refine lv_aload_n hx hcd dX3_scopeChange_10 rfl (lv_at hl 0 rfl) ?_
  refine va_get (D := eD V) (ci := 7) (v := .ref (eX V (8 * 0))) (C := RX3) (T := TX3) (N := 11) hx hcd G.2.2.2.2 iwX3 G.2.2.2.1 hC.1 h.1 (96 + 0) (cF_at V _ (i := 0) (by decide)) rfl 0 (by decide) (G.2.2.2.2 _ mw_242) (fun y h9 => h9) rfl dX3_scopeChange_11 ?_
  refine k_Vi (As := []) (rest := []) (b := eX V (8 * 0)) G hC hB h (met_X0_plannedPoints l V S 0 B (by omega) hz) mw_296 kv_X0_plannedPoints ⟨rfl, rfl⟩ ⟨Nat.le_of_ble_eq_true rfl, Nat.le_of_ble_eq_true rfl⟩ (r_bV hC h 0 (by omega)) rfl rfl hl.1 (Nat.le_of_ble_eq_true rfl) dX3_scopeChange_14 ⟨Nat.le_of_ble_eq_true rfl, Nat.le_of_ble_eq_true rfl⟩ (fun r u H locs hp h => ?_)
  obtain ⟨rfl, rfl⟩ := hp
  refine lv_aload_n hx hcd dX3_scopeChange_17 rfl (lv_at hl 0 rfl) ?_
  refine va_get (D := eD V) (ci := 7) (v := .ref (eX V (8 * 0))) (C := RX3) (T := TX3) (N := 11) hx hcd G.2.2.2.2 iwX3 G.2.2.2.1 hC.1 h.1 (96 + 0) (cF_at V _ (i := 0) (by decide)) rfl 0 (by decide) (G.2.2.2.2 _ mw_242) (fun y h9 => h9) rfl dX3_scopeChange_18 ?_
  refine r_bS G hC h 0 6 (by omega) (by decide) (setB_at _ _ _) mw_123 (x := nI (B.2 6)) rfl dX3_scopeChange_21 ?_
  have q_3 := hz.2 6
  refine w_isub (v := nI (psum B 0) - nI (B.2 6)) hx hcd dX3_scopeChange_24 rfl ?_
  exact kx_reti hQ G hret hlocks h (⟨hs1, rfl, rfl⟩) (Nat.le_of_ble_eq_true rfl) (Nat.le_of_ble_eq_true rfl) dX3_scopeChange_25
set_option maxHeartbeats 4000000 in
set_option maxRecDepth 100000 in
/-- isPlanned -/
theorem met_X3_isPlanned (l : Launch) (hst : l.stackTraces = false) (V : kEnv) (S : kCs) (B : kBd) (hI : bI B) (x : Int32) : kX l yX3_isPlanned cX3_isPlanned 2 (some .boolean) { frames := 8, cells := 6, slots := 36, locals := 131 } V (cWs V) [.ref (eX V 96), .int (x)] (setB S 0 B) (fun r u => ∃ (j : Nat), x = nI j ∧ j < B.2 0 ∧ r = bz ((decide (j < B.2 0) && (B.2 2).testBit j)) ∧ u = setB S 0 B) (fun E u => (E = "java/lang/IndexOutOfBoundsException" ∧ inR (B.2 0) x = false ∧ u = setB S 0 B)) 6 36 := by
  refine kX_of (by decide +kernel) (Nat.le_of_ble_eq_true rfl) ?_
  intro pg e s m args below meth c G hret hlocks htab hC hB h ls hl Q hQ
  have hl : lv_has ls 2 [(0, .ref (eX V 96)), (1, .int (x))] := hl
  have hx := G.1
  have hcd := G.2.1
  have hI0 := hI
  obtain ⟨hz, hbn, hn, hm, h3, h54, h4, h7, hr, he, ha, hact, h5⟩ := hI
  refine lv_aload_n hx hcd dX3_isPlanned_0 rfl (lv_at hl 0 rfl) ?_
  refine lv_iload_n hx hcd dX3_isPlanned_1 rfl (lv_at hl 1 rfl) ?_
  refine kx_Vv (As := [.int (x)]) (rest := []) (b := eX V 96) G hC hB h (met_X3_requireStory l hst V S B hI0 x) mw_846 kv_X3_requireStory ⟨rfl, rfl⟩ ⟨Nat.le_of_ble_eq_true rfl, Nat.le_of_ble_eq_true rfl⟩ (r_sV hC h) rfl rfl hl.1 (Nat.le_of_ble_eq_true rfl) dX3_isPlanned_2 ⟨Nat.le_of_ble_eq_true rfl, Nat.le_of_ble_eq_true rfl⟩ (fun E ce q9 u t H1 locs1 ht9 hpx hb9 hS9 e1 e2 e3 => by subst hQ; exact kx_pass htab hlocks ht9 (hpx) hb9 hS9 e1 e2 e3 (Nat.le_of_ble_eq_true rfl) (Nat.le_of_ble_eq_true rfl)) (fun u H locs hp h => ?_)
  obtain ⟨hs1, hu⟩ := hp; rw [hu] at h
  obtain ⟨j, hj, rfl⟩ := inR_ex (by omega) hs1
  refine lv_aload_n hx hcd dX3_isPlanned_5 rfl (lv_at hl 0 rfl) ?_
  refine va_get (D := eD V) (ci := 7) (v := .ref (eX V (8 * 0))) (C := RX3) (T := TX3) (N := 11) hx hcd G.2.2.2.2 iwX3 G.2.2.2.1 hC.1 h.1 (96 + 0) (cF_at V _ (i := 0) (by decide)) rfl 0 (by decide) (G.2.2.2.2 _ mw_242) (fun y h9 => h9) rfl dX3_isPlanned_6 ?_
  refine lv_iload_n hx hcd dX3_isPlanned_9 rfl (lv_at hl 1 rfl) ?_
  refine k_Vi (As := [.int (nI (j))]) (rest := []) (b := eX V (8 * 0)) G hC hB h (met_X0_plans l V S 0 B (by omega) hz hn j (by omega)) mw_1223 kv_X0_plans ⟨rfl, rfl⟩ ⟨Nat.le_of_ble_eq_true rfl, Nat.le_of_ble_eq_true rfl⟩ (r_bV hC h 0 (by omega)) rfl rfl hl.1 (Nat.le_of_ble_eq_true rfl) dX3_isPlanned_10 ⟨Nat.le_of_ble_eq_true rfl, Nat.le_of_ble_eq_true rfl⟩ (fun r u H locs hp h => ?_)
  obtain ⟨rfl, rfl⟩ := hp
  exact kx_retz hQ G hret hlocks h (bz01 _) (⟨j, rfl, hj, rfl, rfl⟩) (Nat.le_of_ble_eq_true rfl) (Nat.le_of_ble_eq_true rfl) dX3_isPlanned_13
set_option maxHeartbeats 4000000 in
set_option maxRecDepth 100000 in
/-- burnDown -/
theorem met_X3_burnDown (l : Launch) (hst : l.stackTraces = false) (V : kEnv) (S : kCs) (B : kBd) (hI : bI B) (x : Int32) : kX l yX3_burnDown cX3_burnDown 2 (some .int) { frames := 7, cells := 6, slots := 36, locals := 110 } V (cWs V) [.ref (eX V 96), .int (x)] (setB S 0 B) (fun r u => ∃ (k : Nat), ((decide (B.2 3 ≠ 0) && decide (0 ≤ (x : Int32).toInt ∧ (x : Int32).toInt ≤ (B.2 5 : Nat)))) = true ∧ x = nI k ∧ k ≤ B.2 5 ∧ r = nI (B.1 5 k) ∧ u = setB S 0 B) (fun E u => (E = "java/util/NoSuchElementException" ∧ ((decide (B.2 3 ≠ 0) && decide (0 ≤ (x : Int32).toInt ∧ (x : Int32).toInt ≤ (B.2 5 : Nat)))) = false ∧ u = setB S 0 B)) 6 36 := by
  refine kX_of (by decide +kernel) (Nat.le_of_ble_eq_true rfl) ?_
  intro pg e s m args below meth c G hret hlocks htab hC hB h ls hl Q hQ
  have hl : lv_has ls 2 [(0, .ref (eX V 96)), (1, .int (x))] := hl
  have hx := G.1
  have hcd := G.2.1
  have hI0 := hI
  obtain ⟨hz, hbn, hn, hm, h3, h54, h4, h7, hr, he, ha, hact, h5⟩ := hI
  refine lv_aload_n hx hcd dX3_burnDown_0 rfl (lv_at hl 0 rfl) ?_
  refine va_get (D := eD V) (ci := 7) (v := .ref (eX V (8 * 0))) (C := RX3) (T := TX3) (N := 11) hx hcd G.2.2.2.2 iwX3 G.2.2.2.1 hC.1 h.1 (96 + 0) (cF_at V _ (i := 0) (by decide)) rfl 0 (by decide) (G.2.2.2.2 _ mw_242) (fun y h9 => h9) rfl dX3_burnDown_1 ?_
  refine lv_iload_n hx hcd dX3_burnDown_4 rfl (lv_at hl 1 rfl) ?_
  refine k_Vi (As := [.int (x)]) (rest := []) (b := eX V (8 * 0)) G hC hB h (met_X0_hasRecorded l V S 0 B (by omega) hz (by omega) x) mw_674 kv_X0_hasRecorded ⟨rfl, rfl⟩ ⟨Nat.le_of_ble_eq_true rfl, Nat.le_of_ble_eq_true rfl⟩ (r_bV hC h 0 (by omega)) rfl rfl hl.1 (Nat.le_of_ble_eq_true rfl) dX3_burnDown_5 ⟨Nat.le_of_ble_eq_true rfl, Nat.le_of_ble_eq_true rfl⟩ (fun r u H locs hp h => ?_)
  obtain ⟨rfl, rfl⟩ := hp
  refine kx_Sv (As := [.int (bz ((decide (B.2 3 ≠ 0) && decide (0 ≤ (x : Int32).toInt ∧ (x : Int32).toInt ≤ (B.2 5 : Nat)))))]) (rest := []) G hC hB h (met_X3_requireFound l hst V (setB S 0 B) (decide (B.2 3 ≠ 0) && decide (0 ≤ (x : Int32).toInt ∧ (x : Int32).toInt ≤ (B.2 5 : Nat)))) mw_1028 ks_X3_requireFound ⟨rfl, rfl⟩ ⟨Nat.le_of_ble_eq_true rfl, Nat.le_of_ble_eq_true rfl⟩ rfl rfl hl.1 (Nat.le_of_ble_eq_true rfl) dX3_burnDown_8 ⟨Nat.le_of_ble_eq_true rfl, Nat.le_of_ble_eq_true rfl⟩ (fun E ce q9 u t H1 locs1 ht9 hpx hb9 hS9 e1 e2 e3 => by subst hQ; exact kx_pass htab hlocks ht9 (hpx) hb9 hS9 e1 e2 e3 (Nat.le_of_ble_eq_true rfl) (Nat.le_of_ble_eq_true rfl)) (fun u H locs hp h => ?_)
  obtain ⟨hs1, hu⟩ := hp; rw [hu] at h
  obtain ⟨k, rfl, -, hk⟩ := rng_ex (a := 0) (b := B.2 5) (by omega) (of_decide_eq_true (band_r hs1))
  refine lv_aload_n hx hcd dX3_burnDown_11 rfl (lv_at hl 0 rfl) ?_
  refine va_get (D := eD V) (ci := 7) (v := .ref (eX V (8 * 0))) (C := RX3) (T := TX3) (N := 11) hx hcd G.2.2.2.2 iwX3 G.2.2.2.1 hC.1 h.1 (96 + 0) (cF_at V _ (i := 0) (by decide)) rfl 0 (by decide) (G.2.2.2.2 _ mw_242) (fun y h9 => h9) rfl dX3_burnDown_12 ?_
  refine r_bA G hC h 0 5 (by omega) (by decide) mw_108 dX3_burnDown_15 ?_
  refine lv_iload_n hx hcd dX3_burnDown_18 rfl (lv_at hl 1 rfl) ?_
  refine r_bL G hC h 0 5 k (by omega) (by decide) (setB_at _ _ _) rfl (show k < 11 by omega) (x := nI (B.1 5 (k))) rfl dX3_burnDown_19 ?_
  have q_1 := hz.1 5 (k)
  exact kx_reti hQ G hret hlocks h (⟨k, hs1, rfl, hk, rfl, rfl⟩) (Nat.le_of_ble_eq_true rfl) (Nat.le_of_ble_eq_true rfl) dX3_burnDown_20
set_option maxHeartbeats 4000000 in
set_option maxRecDepth 100000 in
/-- velocityOf -/
theorem met_X3_velocityOf (l : Launch) (hst : l.stackTraces = false) (V : kEnv) (S : kCs) (B : kBd) (hI : bI B) (x : Int32) : kX l yX3_velocityOf cX3_velocityOf 2 (some .int) { frames := 7, cells := 6, slots := 36, locals := 110 } V (cWs V) [.ref (eX V 96), .int (x)] (setB S 0 B) (fun r u => ∃ (k : Nat), (decide (0 ≤ (x : Int32).toInt ∧ (x : Int32).toInt < (B.2 7 : Nat))) = true ∧ x = nI k ∧ k < B.2 7 ∧ r = nI (B.1 6 k) ∧ u = setB S 0 B) (fun E u => (E = "java/lang/IndexOutOfBoundsException" ∧ (decide (0 ≤ (x : Int32).toInt ∧ (x : Int32).toInt < (B.2 7 : Nat))) = false ∧ u = setB S 0 B)) 6 36 := by
  refine kX_of (by decide +kernel) (Nat.le_of_ble_eq_true rfl) ?_
  intro pg e s m args below meth c G hret hlocks htab hC hB h ls hl Q hQ
  have hl : lv_has ls 2 [(0, .ref (eX V 96)), (1, .int (x))] := hl
  have hx := G.1
  have hcd := G.2.1
  have hI0 := hI
  obtain ⟨hz, hbn, hn, hm, h3, h54, h4, h7, hr, he, ha, hact, h5⟩ := hI
  refine lv_aload_n hx hcd dX3_velocityOf_0 rfl (lv_at hl 0 rfl) ?_
  refine va_get (D := eD V) (ci := 7) (v := .ref (eX V (8 * 0))) (C := RX3) (T := TX3) (N := 11) hx hcd G.2.2.2.2 iwX3 G.2.2.2.1 hC.1 h.1 (96 + 0) (cF_at V _ (i := 0) (by decide)) rfl 0 (by decide) (G.2.2.2.2 _ mw_242) (fun y h9 => h9) rfl dX3_velocityOf_1 ?_
  refine lv_iload_n hx hcd dX3_velocityOf_4 rfl (lv_at hl 1 rfl) ?_
  refine k_Vi (As := [.int (x)]) (rest := []) (b := eX V (8 * 0)) G hC hB h (met_X0_hasEnded l V S 0 B (by omega) hz (by omega) x) mw_1256 kv_X0_hasEnded ⟨rfl, rfl⟩ ⟨Nat.le_of_ble_eq_true rfl, Nat.le_of_ble_eq_true rfl⟩ (r_bV hC h 0 (by omega)) rfl rfl hl.1 (Nat.le_of_ble_eq_true rfl) dX3_velocityOf_5 ⟨Nat.le_of_ble_eq_true rfl, Nat.le_of_ble_eq_true rfl⟩ (fun r u H locs hp h => ?_)
  obtain ⟨rfl, rfl⟩ := hp
  refine kx_Sv (As := [.int (bz (decide (0 ≤ (x : Int32).toInt ∧ (x : Int32).toInt < (B.2 7 : Nat))))]) (rest := []) G hC hB h (met_X3_requireIndex l hst V (setB S 0 B) (decide (0 ≤ (x : Int32).toInt ∧ (x : Int32).toInt < (B.2 7 : Nat)))) mw_850 ks_X3_requireIndex ⟨rfl, rfl⟩ ⟨Nat.le_of_ble_eq_true rfl, Nat.le_of_ble_eq_true rfl⟩ rfl rfl hl.1 (Nat.le_of_ble_eq_true rfl) dX3_velocityOf_8 ⟨Nat.le_of_ble_eq_true rfl, Nat.le_of_ble_eq_true rfl⟩ (fun E ce q9 u t H1 locs1 ht9 hpx hb9 hS9 e1 e2 e3 => by subst hQ; exact kx_pass htab hlocks ht9 (hpx) hb9 hS9 e1 e2 e3 (Nat.le_of_ble_eq_true rfl) (Nat.le_of_ble_eq_true rfl)) (fun u H locs hp h => ?_)
  obtain ⟨hs1, hu⟩ := hp; rw [hu] at h
  obtain ⟨k, hk, rfl⟩ := inR_ex (n := B.2 7) (by omega) hs1
  refine lv_aload_n hx hcd dX3_velocityOf_11 rfl (lv_at hl 0 rfl) ?_
  refine va_get (D := eD V) (ci := 7) (v := .ref (eX V (8 * 0))) (C := RX3) (T := TX3) (N := 11) hx hcd G.2.2.2.2 iwX3 G.2.2.2.1 hC.1 h.1 (96 + 0) (cF_at V _ (i := 0) (by decide)) rfl 0 (by decide) (G.2.2.2.2 _ mw_242) (fun y h9 => h9) rfl dX3_velocityOf_12 ?_
  refine r_bA G hC h 0 6 (by omega) (by decide) mw_110 dX3_velocityOf_15 ?_
  refine lv_iload_n hx hcd dX3_velocityOf_18 rfl (lv_at hl 1 rfl) ?_
  refine r_bL G hC h 0 6 k (by omega) (by decide) (setB_at _ _ _) rfl (show k < 9 by omega) (x := nI (B.1 6 (k))) rfl dX3_velocityOf_19 ?_
  have q_1 := hz.1 6 (k)
  exact kx_reti hQ G hret hlocks h (⟨k, hs1, rfl, hk, rfl, rfl⟩) (Nat.le_of_ble_eq_true rfl) (Nat.le_of_ble_eq_true rfl) dX3_velocityOf_20
set_option maxHeartbeats 4000000 in
set_option maxRecDepth 100000 in
/-- errorPosition -/
theorem met_X3_errorPosition (l : Launch) (hst : l.stackTraces = false) (V : kEnv) (S : kCs) (B : kBd) (hI : bI B) (ep : Nat) (hep : S.2.1 1 = nI ep - 1) (hep2 : ep < 1000) : kX l yX3_errorPosition cX3_errorPosition 1 (some .int) { frames := 7, cells := 6, slots := 36, locals := 110 } V (cWs V) [.ref (eX V 96)] (setB S 0 B) (fun r u => ep ≠ 0 ∧ r = nI ep - 1 ∧ u = setB S 0 B) (fun E u => (E = "java/util/NoSuchElementException" ∧ ep = 0 ∧ u = setB S 0 B)) 6 36 := by
  refine kX_of (by decide +kernel) (Nat.le_of_ble_eq_true rfl) ?_
  intro pg e s m args below meth c G hret hlocks htab hC hB h ls hl Q hQ
  have hl : lv_has ls 1 [(0, .ref (eX V 96))] := hl
  have hx := G.1
  have hcd := G.2.1
  have hI0 := hI
  obtain ⟨hz, hbn, hn, hm, h3, h54, h4, h7, hr, he, ha, hact, h5⟩ := hI
  refine lv_aload_n hx hcd dX3_errorPosition_0 rfl (lv_at hl 0 rfl) ?_
  refine va_get (D := eD V) (ci := 7) (v := .int (nI (ep) - 1)) (C := RX3) (T := TX3) (N := 11) hx hcd G.2.2.2.2 iwX3 G.2.2.2.1 hC.1 h.1 (96 + 0) (cF_at V _ (i := 0) (by decide)) rfl 9 (by decide) (G.2.2.2.2 _ mw_251) (fun y h9 => h9) (congrArg (fun z => some (Value.int z)) (hep)) dX3_errorPosition_1 ?_
  refine lv_iconst (v := -1) hx hcd dX3_errorPosition_4 (by decide) ?_
  refine lv_icmp_eq (tgt := 12) hx hcd dX3_errorPosition_5 (by decide) (fun c_1 => ?_) (fun c_1 => ?_)
  · have c_1 := cEq (tA (n := ep) (by omega)) tm1 c_1
    refine lv_iconst (v := nI 0) hx hcd dX3_errorPosition_12 (by decide) ?_
    refine kx_Sv (As := [.int (nI 0)]) (rest := []) G hC hB h (met_X3_requireFound l hst V (setB S 0 B) false) mw_1028 ks_X3_requireFound ⟨rfl, rfl⟩ ⟨Nat.le_of_ble_eq_true rfl, Nat.le_of_ble_eq_true rfl⟩ rfl rfl hl.1 (Nat.le_of_ble_eq_true rfl) dX3_errorPosition_13 ⟨Nat.le_of_ble_eq_true rfl, Nat.le_of_ble_eq_true rfl⟩ (fun E ce q9 u t H1 locs1 ht9 hpx hb9 hS9 e1 e2 e3 => by subst hQ; exact kx_pass htab hlocks ht9 (⟨hpx.1, by omega, hpx.2.2⟩) hb9 hS9 e1 e2 e3 (Nat.le_of_ble_eq_true rfl) (Nat.le_of_ble_eq_true rfl)) (fun u H locs hp h => ?_)
    obtain ⟨hlit, hu⟩ := hp; rw [hu] at h
    exact absurd hlit (by decide)
  · have c_1 := cNe (tA (n := ep) (by omega)) tm1 c_1
    refine lv_iconst (v := nI 1) hx hcd dX3_errorPosition_8 (by decide) ?_
    refine lv_goto (tgt := 13) hx hcd dX3_errorPosition_9 (by decide) ?_
    refine kx_Sv (As := [.int (nI 1)]) (rest := []) G hC hB h (met_X3_requireFound l hst V (setB S 0 B) true) mw_1028 ks_X3_requireFound ⟨rfl, rfl⟩ ⟨Nat.le_of_ble_eq_true rfl, Nat.le_of_ble_eq_true rfl⟩ rfl rfl hl.1 (Nat.le_of_ble_eq_true rfl) dX3_errorPosition_13 ⟨Nat.le_of_ble_eq_true rfl, Nat.le_of_ble_eq_true rfl⟩ (fun E ce q9 u t H1 locs1 ht9 hpx hb9 hS9 e1 e2 e3 => by subst hQ; exact kx_pass htab hlocks ht9 (absurd hpx.2.1 (by decide)) hb9 hS9 e1 e2 e3 (Nat.le_of_ble_eq_true rfl) (Nat.le_of_ble_eq_true rfl)) (fun u H locs hp h => ?_)
    obtain ⟨hlit, hu⟩ := hp; rw [hu] at h
    refine lv_aload_n hx hcd dX3_errorPosition_16 rfl (lv_at hl 0 rfl) ?_
    refine va_get (D := eD V) (ci := 7) (v := .int (nI (ep) - 1)) (C := RX3) (T := TX3) (N := 11) hx hcd G.2.2.2.2 iwX3 G.2.2.2.1 hC.1 h.1 (96 + 0) (cF_at V _ (i := 0) (by decide)) rfl 9 (by decide) (G.2.2.2.2 _ mw_251) (fun y h9 => h9) (congrArg (fun z => some (Value.int z)) (hep)) dX3_errorPosition_17 ?_
    exact kx_reti hQ G hret hlocks h (⟨by omega, rfl, rfl⟩) (Nat.le_of_ble_eq_true rfl) (Nat.le_of_ble_eq_true rfl) dX3_errorPosition_20
set_option maxHeartbeats 4000000 in
set_option maxRecDepth 100000 in
/-- failedCommand -/
theorem met_X3_failedCommand (l : Launch) (hst : l.stackTraces = false) (V : kEnv) (S : kCs) (B : kBd) (hI : bI B) (fp : Nat) (hfp : S.2.1 2 = nI fp - 1) (hfp2 : fp < 1000) : kX l yX3_failedCommand cX3_failedCommand 1 (some .int) { frames := 7, cells := 6, slots := 36, locals := 110 } V (cWs V) [.ref (eX V 96)] (setB S 0 B) (fun r u => fp ≠ 0 ∧ r = nI fp - 1 ∧ u = setB S 0 B) (fun E u => (E = "java/util/NoSuchElementException" ∧ fp = 0 ∧ u = setB S 0 B)) 6 36 := by
  refine kX_of (by decide +kernel) (Nat.le_of_ble_eq_true rfl) ?_
  intro pg e s m args below meth c G hret hlocks htab hC hB h ls hl Q hQ
  have hl : lv_has ls 1 [(0, .ref (eX V 96))] := hl
  have hx := G.1
  have hcd := G.2.1
  have hI0 := hI
  obtain ⟨hz, hbn, hn, hm, h3, h54, h4, h7, hr, he, ha, hact, h5⟩ := hI
  refine lv_aload_n hx hcd dX3_failedCommand_0 rfl (lv_at hl 0 rfl) ?_
  refine va_get (D := eD V) (ci := 7) (v := .int (nI (fp) - 1)) (C := RX3) (T := TX3) (N := 11) hx hcd G.2.2.2.2 iwX3 G.2.2.2.1 hC.1 h.1 (96 + 0) (cF_at V _ (i := 0) (by decide)) rfl 10 (by decide) (G.2.2.2.2 _ mw_252) (fun y h9 => h9) (congrArg (fun z => some (Value.int z)) (hfp)) dX3_failedCommand_1 ?_
  refine lv_iconst (v := -1) hx hcd dX3_failedCommand_4 (by decide) ?_
  refine lv_icmp_eq (tgt := 12) hx hcd dX3_failedCommand_5 (by decide) (fun c_1 => ?_) (fun c_1 => ?_)
  · have c_1 := cEq (tA (n := fp) (by omega)) tm1 c_1
    refine lv_iconst (v := nI 0) hx hcd dX3_failedCommand_12 (by decide) ?_
    refine kx_Sv (As := [.int (nI 0)]) (rest := []) G hC hB h (met_X3_requireFound l hst V (setB S 0 B) false) mw_1028 ks_X3_requireFound ⟨rfl, rfl⟩ ⟨Nat.le_of_ble_eq_true rfl, Nat.le_of_ble_eq_true rfl⟩ rfl rfl hl.1 (Nat.le_of_ble_eq_true rfl) dX3_failedCommand_13 ⟨Nat.le_of_ble_eq_true rfl, Nat.le_of_ble_eq_true rfl⟩ (fun E ce q9 u t H1 locs1 ht9 hpx hb9 hS9 e1 e2 e3 => by subst hQ; exact kx_pass htab hlocks ht9 (⟨hpx.1, by omega, hpx.2.2⟩) hb9 hS9 e1 e2 e3 (Nat.le_of_ble_eq_true rfl) (Nat.le_of_ble_eq_true rfl)) (fun u H locs hp h => ?_)
    obtain ⟨hlit, hu⟩ := hp; rw [hu] at h
    exact absurd hlit (by decide)
  · have c_1 := cNe (tA (n := fp) (by omega)) tm1 c_1
    refine lv_iconst (v := nI 1) hx hcd dX3_failedCommand_8 (by decide) ?_
    refine lv_goto (tgt := 13) hx hcd dX3_failedCommand_9 (by decide) ?_
    refine kx_Sv (As := [.int (nI 1)]) (rest := []) G hC hB h (met_X3_requireFound l hst V (setB S 0 B) true) mw_1028 ks_X3_requireFound ⟨rfl, rfl⟩ ⟨Nat.le_of_ble_eq_true rfl, Nat.le_of_ble_eq_true rfl⟩ rfl rfl hl.1 (Nat.le_of_ble_eq_true rfl) dX3_failedCommand_13 ⟨Nat.le_of_ble_eq_true rfl, Nat.le_of_ble_eq_true rfl⟩ (fun E ce q9 u t H1 locs1 ht9 hpx hb9 hS9 e1 e2 e3 => by subst hQ; exact kx_pass htab hlocks ht9 (absurd hpx.2.1 (by decide)) hb9 hS9 e1 e2 e3 (Nat.le_of_ble_eq_true rfl) (Nat.le_of_ble_eq_true rfl)) (fun u H locs hp h => ?_)
    obtain ⟨hlit, hu⟩ := hp; rw [hu] at h
    refine lv_aload_n hx hcd dX3_failedCommand_16 rfl (lv_at hl 0 rfl) ?_
    refine va_get (D := eD V) (ci := 7) (v := .int (nI (fp) - 1)) (C := RX3) (T := TX3) (N := 11) hx hcd G.2.2.2.2 iwX3 G.2.2.2.1 hC.1 h.1 (96 + 0) (cF_at V _ (i := 0) (by decide)) rfl 10 (by decide) (G.2.2.2.2 _ mw_252) (fun y h9 => h9) (congrArg (fun z => some (Value.int z)) (hfp)) dX3_failedCommand_17 ?_
    exact kx_reti hQ G hret hlocks h (⟨by omega, rfl, rfl⟩) (Nat.le_of_ble_eq_true rfl) (Nat.le_of_ble_eq_true rfl) dX3_failedCommand_20
set_option maxHeartbeats 4000000 in
set_option maxRecDepth 100000 in
/-- save -/
theorem met_X3_save (l : Launch) (V : kEnv) (S : kCs) (B : kBd) (hI : bI B) (hbs : bN (S.1 3)) : kI l yX3_save cX3_save 1 (some .int) { frames := 2, cells := 0, slots := 0, locals := 43 } V (cWs V) [.ref (eX V 96)] ((setB S 0 B)) (fun r u => r = nI (B.2 0) ∧ u = sPut (setB (setB S 0 B) 3 B) 0 (nI 1)) 0 0 := by
  refine kI_of (by decide +kernel) (Nat.le_of_ble_eq_true rfl) ?_
  intro pg e s m args below meth c G hret hlocks hC hB h ls hl Q hQ
  have hl : lv_has ls 1 [(0, .ref (eX V 96))] := hl
  have hx := G.1
  have hcd := G.2.1
  obtain ⟨hz, hbn, hn, hm, h3, h54, h4, h7, hr, he, ha, hact, h5⟩ := hI
  refine lv_aload_n hx hcd dX3_save_0 rfl (lv_at hl 0 rfl) ?_
  refine va_get (D := eD V) (ci := 7) (v := .ref (eX V (8 * 3))) (C := RX3) (T := TX3) (N := 11) hx hcd G.2.2.2.2 iwX3 G.2.2.2.1 hC.1 h.1 (96 + 0) (cF_at V _ (i := 0) (by decide)) rfl 3 (by decide) (G.2.2.2.2 _ mw_245) (fun y h9 => h9) rfl dX3_save_1 ?_
  refine lv_aload_n hx hcd dX3_save_4 rfl (lv_at hl 0 rfl) ?_
  refine va_get (D := eD V) (ci := 7) (v := .ref (eX V (8 * 0))) (C := RX3) (T := TX3) (N := 11) hx hcd G.2.2.2.2 iwX3 G.2.2.2.1 hC.1 h.1 (96 + 0) (cF_at V _ (i := 0) (by decide)) rfl 0 (by decide) (G.2.2.2.2 _ mw_242) (fun y h9 => h9) rfl dX3_save_5 ?_
  have h := cH_b 3 h
  refine k_Vv (As := [.ref (eX V (8 * 0))]) (rest := []) (b := eX V (8 * 3)) G hC hB h (met_X0_copyFrom l V (setB S 0 B) 3 ((setB S 0 B).1 3) (by omega) 0 (by omega) (by first | assumption | decide | omega) hz h3 hbn hbs) mw_737 kv_X0_copyFrom ⟨rfl, rfl⟩ ⟨Nat.le_of_ble_eq_true rfl, Nat.le_of_ble_eq_true rfl⟩ (r_bV hC h 3 (by omega)) rfl rfl hl.1 (Nat.le_of_ble_eq_true rfl) dX3_save_8 ⟨Nat.le_of_ble_eq_true rfl, Nat.le_of_ble_eq_true rfl⟩ (fun u H locs hp h => ?_)
  obtain rfl := hp
  refine lv_aload_n hx hcd dX3_save_11 rfl (lv_at hl 0 rfl) ?_
  refine lv_iconst (v := nI 1) hx hcd dX3_save_12 (by decide) ?_
  refine r_sP G hC h 0 (by decide) mw_250 (fun _ => Or.inr rfl) rfl dX3_save_13 (fun H locs h => ?_)
  refine lv_aload_n hx hcd dX3_save_16 rfl (lv_at hl 0 rfl) ?_
  refine va_get (D := eD V) (ci := 7) (v := .ref (eX V (8 * 0))) (C := RX3) (T := TX3) (N := 11) hx hcd G.2.2.2.2 iwX3 G.2.2.2.1 hC.1 h.1 (96 + 0) (cF_at V _ (i := 0) (by decide)) rfl 0 (by decide) (G.2.2.2.2 _ mw_242) (fun y h9 => h9) rfl dX3_save_17 ?_
  refine r_bS G hC h 0 0 (by omega) (by decide) rfl mw_112 (x := nI (((sPut (setB (setB S 0 B) 3 ((setB S 0 B).1 0)) 0 (nI 1)).1 0).2 0)) rfl dX3_save_20 ?_
  exact k_reti hQ G hret hlocks h (⟨rfl, rfl⟩) (Nat.le_of_ble_eq_true rfl) (Nat.le_of_ble_eq_true rfl) dX3_save_23
set_option maxHeartbeats 4000000 in
set_option maxRecDepth 100000 in
/-- undo -/
theorem met_X3_undo (l : Launch) (hst : l.stackTraces = false) (V : kEnv) (S : kCs) (B : kBd) (hI : bI B) (nx sz : Nat) (hnx : S.2.1 3 = nI nx) (hsz : S.2.1 4 = nI sz) (hx5 : nx < 60000) (hs5 : sz ≤ 8) (hk9 : sz ≠ 0 → 1 ≤ nx ∧ kSm (S.1 (4 + (nx - 1) % 8)) ∧ (S.1 (4 + (nx - 1) % 8)).2 3 < 2 ∧ bN (S.1 (4 + (nx - 1) % 8))) : kX l yX3_undo cX3_undo 1 (some .int) { frames := 7, cells := 6, slots := 36, locals := 110 } V (cWs V) [.ref (eX V 96)] (setB S 0 B) (fun r u => sz ≠ 0 ∧ r = nI (sz - 1) ∧ u = tbkS (setB S 0 B) 0 nx sz) (fun E u => (E = "java/lang/IllegalStateException" ∧ sz = 0 ∧ u = setB S 0 B)) 6 36 := by
  refine kX_of (by decide +kernel) (Nat.le_of_ble_eq_true rfl) ?_
  intro pg e s m args below meth c G hret hlocks htab hC hB h ls hl Q hQ
  have hl : lv_has ls 1 [(0, .ref (eX V 96))] := hl
  have hx := G.1
  have hcd := G.2.1
  have hI0 := hI
  obtain ⟨hz, hbn, hn, hm, h3, h54, h4, h7, hr, he, ha, hact, h5⟩ := hI
  refine lv_aload_n hx hcd dX3_undo_0 rfl (lv_at hl 0 rfl) ?_
  refine va_get (D := eD V) (ci := 7) (v := .ref (eX V 97)) (C := RX3) (T := TX3) (N := 11) hx hcd G.2.2.2.2 iwX3 G.2.2.2.1 hC.1 h.1 (96 + 0) (cF_at V _ (i := 0) (by decide)) rfl 4 (by decide) (G.2.2.2.2 _ mw_246) (fun y h9 => h9) rfl dX3_undo_1 ?_
  refine va_get (D := eD V) (ci := 6) (v := .int (nI (sz))) (C := RX2) (T := TX2) (N := 3) hx hcd G.2.2.2.2 iwX2 G.2.2.2.1 hC.1 h.1 (96 + 1) (cF_at V _ (i := 1) (by decide)) rfl 2 (by decide) (G.2.2.2.2 _ mw_170) (fun y h9 => h9) (congrArg (fun z => some (Value.int z)) (hsz)) dX3_undo_4 ?_
  refine lv_if_le (tgt := 14) hx hcd dX3_undo_7 (by decide) (fun c_1 => ?_) (fun c_1 => ?_)
  · have c_1 := cLe (tN (n := sz) (by omega)) t0 c_1
    refine lv_iconst (v := nI 0) hx hcd dX3_undo_14 (by decide) ?_
    refine kx_Sv (As := [.int (nI 0)]) (rest := []) G hC hB h (met_X3_requireState l hst V (setB S 0 B) false) mw_804 ks_X3_requireState ⟨rfl, rfl⟩ ⟨Nat.le_of_ble_eq_true rfl, Nat.le_of_ble_eq_true rfl⟩ rfl rfl hl.1 (Nat.le_of_ble_eq_true rfl) dX3_undo_15 ⟨Nat.le_of_ble_eq_true rfl, Nat.le_of_ble_eq_true rfl⟩ (fun E ce q9 u t H1 locs1 ht9 hpx hb9 hS9 e1 e2 e3 => by subst hQ; exact kx_pass htab hlocks ht9 (⟨hpx.1, by omega, hpx.2.2⟩) hb9 hS9 e1 e2 e3 (Nat.le_of_ble_eq_true rfl) (Nat.le_of_ble_eq_true rfl)) (fun u H locs hp h => ?_)
    obtain ⟨hlit, hu⟩ := hp; rw [hu] at h
    exact absurd hlit (by decide)
  · have c_1 := cNle (tN (n := sz) (by omega)) t0 c_1
    refine lv_iconst (v := nI 1) hx hcd dX3_undo_10 (by decide) ?_
    refine lv_goto (tgt := 15) hx hcd dX3_undo_11 (by decide) ?_
    refine kx_Sv (As := [.int (nI 1)]) (rest := []) G hC hB h (met_X3_requireState l hst V (setB S 0 B) true) mw_804 ks_X3_requireState ⟨rfl, rfl⟩ ⟨Nat.le_of_ble_eq_true rfl, Nat.le_of_ble_eq_true rfl⟩ rfl rfl hl.1 (Nat.le_of_ble_eq_true rfl) dX3_undo_15 ⟨Nat.le_of_ble_eq_true rfl, Nat.le_of_ble_eq_true rfl⟩ (fun E ce q9 u t H1 locs1 ht9 hpx hb9 hS9 e1 e2 e3 => by subst hQ; exact kx_pass htab hlocks ht9 (absurd hpx.2.1 (by decide)) hb9 hS9 e1 e2 e3 (Nat.le_of_ble_eq_true rfl) (Nat.le_of_ble_eq_true rfl)) (fun u H locs hp h => ?_)
    obtain ⟨hlit, hu⟩ := hp; rw [hu] at h
    obtain ⟨k91, k92, k93, k94⟩ := hk9 (by omega)
    refine lv_aload_n hx hcd dX3_undo_18 rfl (lv_at hl 0 rfl) ?_
    refine va_get (D := eD V) (ci := 7) (v := .ref (eX V 97)) (C := RX3) (T := TX3) (N := 11) hx hcd G.2.2.2.2 iwX3 G.2.2.2.1 hC.1 h.1 (96 + 0) (cF_at V _ (i := 0) (by decide)) rfl 4 (by decide) (G.2.2.2.2 _ mw_246) (fun y h9 => h9) rfl dX3_undo_19 ?_
    refine lv_aload_n hx hcd dX3_undo_22 rfl (lv_at hl 0 rfl) ?_
    refine va_get (D := eD V) (ci := 7) (v := .ref (eX V (8 * 0))) (C := RX3) (T := TX3) (N := 11) hx hcd G.2.2.2.2 iwX3 G.2.2.2.1 hC.1 h.1 (96 + 0) (cF_at V _ (i := 0) (by decide)) rfl 0 (by decide) (G.2.2.2.2 _ mw_242) (fun y h9 => h9) rfl dX3_undo_23 ?_
    refine k_Vv (As := [.ref (eX V (8 * 0))]) (rest := []) (b := eX V 97) G hC hB h (met_X2_takeBackInto l V (setB S 0 B) 0 (by omega) nx sz hnx hsz hx5 hs5 k91 (by omega) (by rw [setB_ne _ _ (by omega)]; exact k92) (by rw [setB_ne _ _ (by omega)]; exact k93) (by rw [setB_ne _ _ (by omega)]; exact k94) hbn) mw_1451 kv_X2_takeBackInto ⟨rfl, rfl⟩ ⟨Nat.le_of_ble_eq_true rfl, Nat.le_of_ble_eq_true rfl⟩ (r_hV hC h) rfl rfl hl.1 (Nat.le_of_ble_eq_true rfl) dX3_undo_26 ⟨Nat.le_of_ble_eq_true rfl, Nat.le_of_ble_eq_true rfl⟩ (fun u H locs hp h => ?_)
    obtain rfl := hp
    refine lv_aload_n hx hcd dX3_undo_29 rfl (lv_at hl 0 rfl) ?_
    refine va_get (D := eD V) (ci := 7) (v := .ref (eX V 97)) (C := RX3) (T := TX3) (N := 11) hx hcd G.2.2.2.2 iwX3 G.2.2.2.1 hC.1 h.1 (96 + 0) (cF_at V _ (i := 0) (by decide)) rfl 4 (by decide) (G.2.2.2.2 _ mw_246) (fun y h9 => h9) rfl dX3_undo_30 ?_
    refine va_get (D := eD V) (ci := 6) (v := .int (nI (sz - 1))) (C := RX2) (T := TX2) (N := 3) hx hcd G.2.2.2.2 iwX2 G.2.2.2.1 hC.1 h.1 (96 + 1) (cF_at V _ (i := 1) (by decide)) rfl 2 (by decide) (G.2.2.2.2 _ mw_170) (fun y h9 => h9) rfl dX3_undo_33 ?_
    exact kx_reti hQ G hret hlocks h (⟨by omega, rfl, rfl⟩) (Nat.le_of_ble_eq_true rfl) (Nat.le_of_ble_eq_true rfl) dX3_undo_36
set_option maxHeartbeats 4000000 in
set_option maxRecDepth 100000 in
/-- restore -/
theorem met_X3_restore (l : Launch) (hst : l.stackTraces = false) (V : kEnv) (S : kCs) (B : kBd) (hI : bI B) (sv : Bool) (hsv : S.2.1 0 = bz sv) (hk9 : sv = true → kSm (S.1 3) ∧ (S.1 3).2 3 < 2 ∧ bN (S.1 3)) : kX l yX3_restore cX3_restore 1 (some .int) { frames := 7, cells := 6, slots := 36, locals := 110 } V (cWs V) [.ref (eX V 96)] (setB S 0 B) (fun r u => (sv) = true ∧ r = nI ((S.1 3).2 0) ∧ u = sPut (setB S 0 (S.1 3)) 4 (nI 0)) (fun E u => (E = "java/lang/IllegalStateException" ∧ (sv) = false ∧ u = setB S 0 B)) 6 36 := by
  refine kX_of (by decide +kernel) (Nat.le_of_ble_eq_true rfl) ?_
  intro pg e s m args below meth c G hret hlocks htab hC hB h ls hl Q hQ
  have hl : lv_has ls 1 [(0, .ref (eX V 96))] := hl
  have hx := G.1
  have hcd := G.2.1
  have hI0 := hI
  obtain ⟨hz, hbn, hn, hm, h3, h54, h4, h7, hr, he, ha, hact, h5⟩ := hI
  refine lv_aload_n hx hcd dX3_restore_0 rfl (lv_at hl 0 rfl) ?_
  refine va_get (D := eD V) (ci := 7) (v := .int (bz (sv))) (C := RX3) (T := TX3) (N := 11) hx hcd G.2.2.2.2 iwX3 G.2.2.2.1 hC.1 h.1 (96 + 0) (cF_at V _ (i := 0) (by decide)) rfl 8 (by decide) (G.2.2.2.2 _ mw_250) (fun y h9 => h9) (congrArg (fun z => some (Value.int z)) (hsv)) dX3_restore_1 ?_
  refine kx_Sv (As := [.int (bz (sv))]) (rest := []) G hC hB h (met_X3_requireState l hst V (setB S 0 B) sv) mw_804 ks_X3_requireState ⟨rfl, rfl⟩ ⟨Nat.le_of_ble_eq_true rfl, Nat.le_of_ble_eq_true rfl⟩ rfl rfl hl.1 (Nat.le_of_ble_eq_true rfl) dX3_restore_4 ⟨Nat.le_of_ble_eq_true rfl, Nat.le_of_ble_eq_true rfl⟩ (fun E ce q9 u t H1 locs1 ht9 hpx hb9 hS9 e1 e2 e3 => by subst hQ; exact kx_pass htab hlocks ht9 (hpx) hb9 hS9 e1 e2 e3 (Nat.le_of_ble_eq_true rfl) (Nat.le_of_ble_eq_true rfl)) (fun u H locs hp h => ?_)
  obtain ⟨hs1, hu⟩ := hp; rw [hu] at h
  obtain ⟨k92, k93, k94⟩ := hk9 hs1
  refine lv_aload_n hx hcd dX3_restore_7 rfl (lv_at hl 0 rfl) ?_
  refine va_get (D := eD V) (ci := 7) (v := .ref (eX V (8 * 0))) (C := RX3) (T := TX3) (N := 11) hx hcd G.2.2.2.2 iwX3 G.2.2.2.1 hC.1 h.1 (96 + 0) (cF_at V _ (i := 0) (by decide)) rfl 0 (by decide) (G.2.2.2.2 _ mw_242) (fun y h9 => h9) rfl dX3_restore_8 ?_
  refine lv_aload_n hx hcd dX3_restore_11 rfl (lv_at hl 0 rfl) ?_
  refine va_get (D := eD V) (ci := 7) (v := .ref (eX V (8 * 3))) (C := RX3) (T := TX3) (N := 11) hx hcd G.2.2.2.2 iwX3 G.2.2.2.1 hC.1 h.1 (96 + 0) (cF_at V _ (i := 0) (by decide)) rfl 3 (by decide) (G.2.2.2.2 _ mw_245) (fun y h9 => h9) rfl dX3_restore_12 ?_
  have h := cH_b 0 h
  refine k_Vv (As := [.ref (eX V (8 * 3))]) (rest := []) (b := eX V (8 * 0)) G hC hB h (met_X0_copyFrom l V (setB S 0 B) 0 ((setB S 0 B).1 0) (by omega) 3 (by omega) (by omega) k92 k93 k94 hbn) mw_737 kv_X0_copyFrom ⟨rfl, rfl⟩ ⟨Nat.le_of_ble_eq_true rfl, Nat.le_of_ble_eq_true rfl⟩ (r_bV hC h 0 (by omega)) rfl rfl hl.1 (Nat.le_of_ble_eq_true rfl) dX3_restore_15 ⟨Nat.le_of_ble_eq_true rfl, Nat.le_of_ble_eq_true rfl⟩ (fun u H locs hp h => ?_)
  obtain rfl := hp
  have h : cH V s H locs (cWs V (setB S 0 (S.1 3))) := by rw [setB_set] at h; exact h
  refine lv_aload_n hx hcd dX3_restore_18 rfl (lv_at hl 0 rfl) ?_
  refine va_get (D := eD V) (ci := 7) (v := .ref (eX V 97)) (C := RX3) (T := TX3) (N := 11) hx hcd G.2.2.2.2 iwX3 G.2.2.2.1 hC.1 h.1 (96 + 0) (cF_at V _ (i := 0) (by decide)) rfl 4 (by decide) (G.2.2.2.2 _ mw_246) (fun y h9 => h9) rfl dX3_restore_19 ?_
  refine k_Vv (As := []) (rest := []) (b := eX V 97) G hC hB h (met_X2_forgetAll l V (setB S 0 (S.1 3))) mw_1462 kv_X2_forgetAll ⟨rfl, rfl⟩ ⟨Nat.le_of_ble_eq_true rfl, Nat.le_of_ble_eq_true rfl⟩ (r_hV hC h) rfl rfl hl.1 (Nat.le_of_ble_eq_true rfl) dX3_restore_22 ⟨Nat.le_of_ble_eq_true rfl, Nat.le_of_ble_eq_true rfl⟩ (fun u H locs hp h => ?_)
  obtain rfl := hp
  refine lv_aload_n hx hcd dX3_restore_25 rfl (lv_at hl 0 rfl) ?_
  refine va_get (D := eD V) (ci := 7) (v := .ref (eX V (8 * 0))) (C := RX3) (T := TX3) (N := 11) hx hcd G.2.2.2.2 iwX3 G.2.2.2.1 hC.1 h.1 (96 + 0) (cF_at V _ (i := 0) (by decide)) rfl 0 (by decide) (G.2.2.2.2 _ mw_242) (fun y h9 => h9) rfl dX3_restore_26 ?_
  refine r_bS G hC h 0 0 (by omega) (by decide) rfl mw_112 (x := nI (((sPut (setB S 0 (S.1 3)) 4 (nI 0)).1 0).2 0)) rfl dX3_restore_29 ?_
  exact kx_reti hQ G hret hlocks h (⟨hs1, rfl, rfl⟩) (Nat.le_of_ble_eq_true rfl) (Nat.le_of_ble_eq_true rfl) dX3_restore_32
