/-! THE REFERENCE CARRIES ONE COMMAND OUT. -/
theorem kv_X4_addDeveloper : kV yX4_addDeveloper cX4_addDeveloper 3 (some .int) 1 := ⟨mw_1679, mw_1680, mw_64, mw_1681, by decide, by decide, by decide +kernel⟩
theorem kv_X4_addStory : kV yX4_addStory cX4_addStory 3 (some .int) 1 := ⟨mw_1536, mw_1537, mw_64, mw_1538, by decide, by decide, by decide +kernel⟩
theorem kv_X4_assign : kV yX4_assign cX4_assign 3 (some .boolean) 2 := ⟨mw_1683, mw_1684, mw_64, mw_1685, by decide, by decide, by decide +kernel⟩
theorem kv_X4_block : kV yX4_block cX4_block 3 (some .int) 2 := ⟨mw_1584, mw_1585, mw_64, mw_1586, by decide, by decide, by decide +kernel⟩
theorem kv_X4_endSprint : kV yX4_endSprint cX4_endSprint 3 (some .int) 0 := ⟨mw_1739, mw_1740, mw_64, mw_1741, by decide, by decide, by decide +kernel⟩
theorem kv_X4_passDay : kV yX4_passDay cX4_passDay 2 (some .int) 0 := ⟨mw_1731, mw_1732, mw_64, mw_1733, by decide, by decide, by decide +kernel⟩
theorem kv_X4_plan : kV yX4_plan cX4_plan 2 (some .int) 1 := ⟨mw_1715, mw_1716, mw_64, mw_1717, by decide, by decide, by decide +kernel⟩
theorem kv_X4_reestimate : kV yX4_reestimate cX4_reestimate 4 (some .int) 2 := ⟨mw_1561, mw_1562, mw_64, mw_1563, by decide, by decide, by decide +kernel⟩
theorem kv_X4_startSprint : kV yX4_startSprint cX4_startSprint 2 (some .int) 1 := ⟨mw_1727, mw_1728, mw_64, mw_1729, by decide, by decide, by decide +kernel⟩
theorem kv_X4_unassign : kV yX4_unassign cX4_unassign 3 (some .int) 1 := ⟨mw_1695, mw_1696, mw_64, mw_1697, by decide, by decide, by decide +kernel⟩
theorem kv_X4_unblock : kV yX4_unblock cX4_unblock 3 (some .int) 2 := ⟨mw_1608, mw_1609, mw_64, mw_1610, by decide, by decide, by decide +kernel⟩
theorem kv_X4_unplan : kV yX4_unplan cX4_unplan 2 (some .int) 1 := ⟨mw_1723, mw_1724, mw_64, mw_1725, by decide, by decide, by decide +kernel⟩
set_option maxHeartbeats 4000000 in
set_option maxRecDepth 100000 in
/-- carries(p), command 0 -/
theorem met_X4_carries_0 (l : Launch) (V : kEnv) (M : kMs) (B : kBd) (hg : M.2 0 = gOf B) (hA : bA B) (hw : M.1 2 = nI 1) (c0 : Nat) (hc0 : M.1 1 = nI c0) (hc8 : c0 ≤ 8) (p : Nat) (hp9 : p + 2 < 124) (a b : Nat) (hk : M.2 8 p = nI 0) (ha9 : a < 100) (h1 : M.2 8 (p + 1) = nI a) : kI l yX4_carries cX4_carries 4 (some .int) { frames := 5, cells := 0, slots := 0, locals := 112 } V (mWs V) [.ref (eX V 500), .int (nI (p))] (M) (fun r u => carP M B 0 a b u) 0 0 := by
  refine kI_of (by decide +kernel) (Nat.le_of_ble_eq_true rfl) ?_
  intro pg e s m args below meth c G hret hlocks hC hB h ls hl Q hQ
  have hl : lv_has ls 4 [(0, .ref (eX V 500)), (1, .int (nI (p)))] := hl
  have hx := G.1
  have hcd := G.2.1
  have hI := hA.1
  have hI0 := hI
  have hu := hA.2.1
  have hv := hA.2.2.1
  have hw9 := hA.2.2.2.1
  have hR := bA_R hA
  obtain ⟨hz, hbn, hn, hm, h3, h54, h4, h7, hr, he, ha, hact, h5⟩ := hI
  refine lv_aload_n hx hcd dX4_carries_0 rfl (lv_at hl 0 rfl) ?_
  refine r_mA G hC h 8 (by decide) mw_1489 dX4_carries_1 ?_
  refine lv_iload_n hx hcd dX4_carries_4 rfl (lv_at hl 1 rfl) ?_
  refine lv_iconst (v := nI 1) hx hcd dX4_carries_5 (by decide) ?_
  refine w_iadd (v := nI (p + 1)) hx hcd dX4_carries_6 (nI_add _ _) ?_
  refine r_mL G hC h 8 (p + 1) (by decide) (by decide) rfl (show p + 1 < 124 by omega) (x := nI (a)) h1 dX4_carries_7 ?_
  refine lv_istore_n (lv' := [(2, .int (nI (a))), (0, .ref (eX V 500)), (1, .int (nI (p)))]) hx hcd dX4_carries_8 rfl hl (by decide) rfl (fun ls hl => ?_)
  refine lv_aload_n hx hcd dX4_carries_9 rfl (lv_at hl 1 rfl) ?_
  refine r_mA G hC h 8 (by decide) mw_1489 dX4_carries_10 ?_
  refine lv_iload_n hx hcd dX4_carries_13 rfl (lv_at hl 2 rfl) ?_
  refine lv_iconst (v := nI 2) hx hcd dX4_carries_14 (by decide) ?_
  refine w_iadd (v := nI (p + 2)) hx hcd dX4_carries_15 (nI_add _ _) ?_
  refine r_mL G hC h 8 (p + 2) (by decide) (by decide) rfl (show p + 2 < 124 by omega) (x := M.2 8 (p + 2)) rfl dX4_carries_16 ?_
  refine lv_istore_n (lv' := [(3, .int (M.2 8 (p + 2))), (2, .int (nI (a))), (0, .ref (eX V 500)), (1, .int (nI (p)))]) hx hcd dX4_carries_17 rfl hl (by decide) rfl (fun ls hl => ?_)
  refine lv_aload_n hx hcd dX4_carries_18 rfl (lv_at hl 2 rfl) ?_
  refine r_mA G hC h 8 (by decide) mw_1489 dX4_carries_19 ?_
  refine lv_iload_n hx hcd dX4_carries_22 rfl (lv_at hl 3 rfl) ?_
  refine r_mL G hC h 8 (p) (by decide) (by decide) rfl (show p < 124 by omega) (x := nI 0) hk dX4_carries_23 ?_
  have t_3 : (nI 0 : Int32).toInt = (0 : Int) := (tN (n := 0) (by decide))
  refine lv_tableIn (off := 60) (tgt := 84) hx hcd dX4_carries_24 (by rw [t_3]; decide) (by rw [t_3]; decide) (by rw [t_3]; decide) (by decide) ?_
  refine lv_aload_n hx hcd dX4_carries_84 rfl (lv_at hl 2 rfl) ?_
  refine lv_iload_n hx hcd dX4_carries_85 rfl (lv_at hl 1 rfl) ?_
  refine k_Vi (As := [.int (nI (a))]) (rest := []) (b := eX V 500) G hC hB h (met_X4_addStory l V M B hg hI0 1 c0 hw (by decide) hc0 hc8 (by cases hb9 : (B.2 2).testBit (B.2 0); rfl; exact absurd (hA.2.2.2.2.2.1 _ hb9) (Nat.lt_irrefl _)) (nI (a))) mw_1895 kv_X4_addStory ⟨rfl, rfl⟩ ⟨Nat.le_of_ble_eq_true rfl, Nat.le_of_ble_eq_true rfl⟩ (r_mV hC h) rfl rfl hl.1 (Nat.le_of_ble_eq_true rfl) dX4_carries_86 ⟨Nat.le_of_ble_eq_true rfl, Nat.le_of_ble_eq_true rfl⟩ (fun r u H locs hp h => ?_)
  have hq := car_0 (a := a) (b := b) hA ha9 hp
  · skip
    exact k_reti hQ G hret hlocks h (hq) (Nat.le_of_ble_eq_true rfl) (Nat.le_of_ble_eq_true rfl) dX4_carries_89
set_option maxHeartbeats 4000000 in
set_option maxRecDepth 100000 in
/-- carries(p), command 1 -/
theorem met_X4_carries_1 (l : Launch) (V : kEnv) (M : kMs) (B : kBd) (hg : M.2 0 = gOf B) (hA : bA B) (hw : M.1 2 = nI 1) (c0 : Nat) (hc0 : M.1 1 = nI c0) (hc8 : c0 ≤ 8) (p : Nat) (hp9 : p + 2 < 124) (a b : Nat) (hk : M.2 8 p = nI 1) (ha9 : a < 100) (h1 : M.2 8 (p + 1) = nI a) : kI l yX4_carries cX4_carries 4 (some .int) { frames := 5, cells := 0, slots := 0, locals := 112 } V (mWs V) [.ref (eX V 500), .int (nI (p))] (M) (fun r u => carP M B 1 a b u) 0 0 := by
  refine kI_of (by decide +kernel) (Nat.le_of_ble_eq_true rfl) ?_
  intro pg e s m args below meth c G hret hlocks hC hB h ls hl Q hQ
  have hl : lv_has ls 4 [(0, .ref (eX V 500)), (1, .int (nI (p)))] := hl
  have hx := G.1
  have hcd := G.2.1
  have hI := hA.1
  have hI0 := hI
  have hu := hA.2.1
  have hv := hA.2.2.1
  have hw9 := hA.2.2.2.1
  have hR := bA_R hA
  obtain ⟨hz, hbn, hn, hm, h3, h54, h4, h7, hr, he, ha, hact, h5⟩ := hI
  refine lv_aload_n hx hcd dX4_carries_0 rfl (lv_at hl 0 rfl) ?_
  refine r_mA G hC h 8 (by decide) mw_1489 dX4_carries_1 ?_
  refine lv_iload_n hx hcd dX4_carries_4 rfl (lv_at hl 1 rfl) ?_
  refine lv_iconst (v := nI 1) hx hcd dX4_carries_5 (by decide) ?_
  refine w_iadd (v := nI (p + 1)) hx hcd dX4_carries_6 (nI_add _ _) ?_
  refine r_mL G hC h 8 (p + 1) (by decide) (by decide) rfl (show p + 1 < 124 by omega) (x := nI (a)) h1 dX4_carries_7 ?_
  refine lv_istore_n (lv' := [(2, .int (nI (a))), (0, .ref (eX V 500)), (1, .int (nI (p)))]) hx hcd dX4_carries_8 rfl hl (by decide) rfl (fun ls hl => ?_)
  refine lv_aload_n hx hcd dX4_carries_9 rfl (lv_at hl 1 rfl) ?_
  refine r_mA G hC h 8 (by decide) mw_1489 dX4_carries_10 ?_
  refine lv_iload_n hx hcd dX4_carries_13 rfl (lv_at hl 2 rfl) ?_
  refine lv_iconst (v := nI 2) hx hcd dX4_carries_14 (by decide) ?_
  refine w_iadd (v := nI (p + 2)) hx hcd dX4_carries_15 (nI_add _ _) ?_
  refine r_mL G hC h 8 (p + 2) (by decide) (by decide) rfl (show p + 2 < 124 by omega) (x := M.2 8 (p + 2)) rfl dX4_carries_16 ?_
  refine lv_istore_n (lv' := [(3, .int (M.2 8 (p + 2))), (2, .int (nI (a))), (0, .ref (eX V 500)), (1, .int (nI (p)))]) hx hcd dX4_carries_17 rfl hl (by decide) rfl (fun ls hl => ?_)
  refine lv_aload_n hx hcd dX4_carries_18 rfl (lv_at hl 2 rfl) ?_
  refine r_mA G hC h 8 (by decide) mw_1489 dX4_carries_19 ?_
  refine lv_iload_n hx hcd dX4_carries_22 rfl (lv_at hl 3 rfl) ?_
  refine r_mL G hC h 8 (p) (by decide) (by decide) rfl (show p < 124 by omega) (x := nI 1) hk dX4_carries_23 ?_
  have t_3 : (nI 1 : Int32).toInt = (1 : Int) := (tN (n := 1) (by decide))
  refine lv_tableIn (off := 66) (tgt := 90) hx hcd dX4_carries_24 (by rw [t_3]; decide) (by rw [t_3]; decide) (by rw [t_3]; decide) (by decide) ?_
  refine lv_aload_n hx hcd dX4_carries_90 rfl (lv_at hl 2 rfl) ?_
  refine lv_iload_n hx hcd dX4_carries_91 rfl (lv_at hl 1 rfl) ?_
  refine k_Vi (As := [.int (nI (a))]) (rest := []) (b := eX V 500) G hC hB h (met_X4_addDeveloper l V M B hg hI0 1 c0 hw (by decide) hc0 hc8 (hv _ (Nat.le_refl _)) (nI (a))) mw_1896 kv_X4_addDeveloper ⟨rfl, rfl⟩ ⟨Nat.le_of_ble_eq_true rfl, Nat.le_of_ble_eq_true rfl⟩ (r_mV hC h) rfl rfl hl.1 (Nat.le_of_ble_eq_true rfl) dX4_carries_92 ⟨Nat.le_of_ble_eq_true rfl, Nat.le_of_ble_eq_true rfl⟩ (fun r u H locs hp h => ?_)
  have hq := car_1 (a := a) (b := b) hA ha9 hp
  · skip
    exact k_reti hQ G hret hlocks h (hq) (Nat.le_of_ble_eq_true rfl) (Nat.le_of_ble_eq_true rfl) dX4_carries_95
set_option maxHeartbeats 4000000 in
set_option maxRecDepth 100000 in
/-- carries(p), command 2 -/
theorem met_X4_carries_2 (l : Launch) (V : kEnv) (M : kMs) (B : kBd) (hg : M.2 0 = gOf B) (hA : bA B) (hw : M.1 2 = nI 1) (c0 : Nat) (hc0 : M.1 1 = nI c0) (hc8 : c0 ≤ 8) (p : Nat) (hp9 : p + 2 < 124) (a b : Nat) (hk : M.2 8 p = nI 2) (ha9 : a < 100) (h1 : M.2 8 (p + 1) = nI a) (hb9 : b < 100) (h2 : M.2 8 (p + 2) = nI b) : kI l yX4_carries cX4_carries 4 (some .int) { frames := 5, cells := 0, slots := 0, locals := 112 } V (mWs V) [.ref (eX V 500), .int (nI (p))] (M) (fun r u => carP M B 2 a b u) 0 0 := by
  refine kI_of (by decide +kernel) (Nat.le_of_ble_eq_true rfl) ?_
  intro pg e s m args below meth c G hret hlocks hC hB h ls hl Q hQ
  have hl : lv_has ls 4 [(0, .ref (eX V 500)), (1, .int (nI (p)))] := hl
  have hx := G.1
  have hcd := G.2.1
  have hI := hA.1
  have hI0 := hI
  have hu := hA.2.1
  have hv := hA.2.2.1
  have hw9 := hA.2.2.2.1
  have hR := bA_R hA
  obtain ⟨hz, hbn, hn, hm, h3, h54, h4, h7, hr, he, ha, hact, h5⟩ := hI
  refine lv_aload_n hx hcd dX4_carries_0 rfl (lv_at hl 0 rfl) ?_
  refine r_mA G hC h 8 (by decide) mw_1489 dX4_carries_1 ?_
  refine lv_iload_n hx hcd dX4_carries_4 rfl (lv_at hl 1 rfl) ?_
  refine lv_iconst (v := nI 1) hx hcd dX4_carries_5 (by decide) ?_
  refine w_iadd (v := nI (p + 1)) hx hcd dX4_carries_6 (nI_add _ _) ?_
  refine r_mL G hC h 8 (p + 1) (by decide) (by decide) rfl (show p + 1 < 124 by omega) (x := nI (a)) h1 dX4_carries_7 ?_
  refine lv_istore_n (lv' := [(2, .int (nI (a))), (0, .ref (eX V 500)), (1, .int (nI (p)))]) hx hcd dX4_carries_8 rfl hl (by decide) rfl (fun ls hl => ?_)
  refine lv_aload_n hx hcd dX4_carries_9 rfl (lv_at hl 1 rfl) ?_
  refine r_mA G hC h 8 (by decide) mw_1489 dX4_carries_10 ?_
  refine lv_iload_n hx hcd dX4_carries_13 rfl (lv_at hl 2 rfl) ?_
  refine lv_iconst (v := nI 2) hx hcd dX4_carries_14 (by decide) ?_
  refine w_iadd (v := nI (p + 2)) hx hcd dX4_carries_15 (nI_add _ _) ?_
  refine r_mL G hC h 8 (p + 2) (by decide) (by decide) rfl (show p + 2 < 124 by omega) (x := nI (b)) h2 dX4_carries_16 ?_
  refine lv_istore_n (lv' := [(3, .int (nI (b))), (2, .int (nI (a))), (0, .ref (eX V 500)), (1, .int (nI (p)))]) hx hcd dX4_carries_17 rfl hl (by decide) rfl (fun ls hl => ?_)
  refine lv_aload_n hx hcd dX4_carries_18 rfl (lv_at hl 2 rfl) ?_
  refine r_mA G hC h 8 (by decide) mw_1489 dX4_carries_19 ?_
  refine lv_iload_n hx hcd dX4_carries_22 rfl (lv_at hl 3 rfl) ?_
  refine r_mL G hC h 8 (p) (by decide) (by decide) rfl (show p < 124 by omega) (x := nI 2) hk dX4_carries_23 ?_
  have t_3 : (nI 2 : Int32).toInt = (2 : Int) := (tN (n := 2) (by decide))
  refine lv_tableIn (off := 72) (tgt := 96) hx hcd dX4_carries_24 (by rw [t_3]; decide) (by rw [t_3]; decide) (by rw [t_3]; decide) (by decide) ?_
  refine lv_aload_n hx hcd dX4_carries_96 rfl (lv_at hl 2 rfl) ?_
  refine lv_iload_n hx hcd dX4_carries_97 rfl (lv_at hl 1 rfl) ?_
  refine lv_iload_n hx hcd dX4_carries_98 rfl (lv_at hl 0 rfl) ?_
  refine k_Vi (As := [.int (nI (a)), .int (nI (b))]) (rest := []) (b := eX V 500) G hC hB h (met_X4_block l V M B hg hI0 1 c0 hw (by decide) hc0 hc8 (nI (a)) (nI (b))) mw_1897 kv_X4_block ⟨rfl, rfl⟩ ⟨Nat.le_of_ble_eq_true rfl, Nat.le_of_ble_eq_true rfl⟩ (r_mV hC h) rfl rfl hl.1 (Nat.le_of_ble_eq_true rfl) dX4_carries_99 ⟨Nat.le_of_ble_eq_true rfl, Nat.le_of_ble_eq_true rfl⟩ (fun r u H locs hp h => ?_)
  have hq := car_2 (a := a) (b := b) hA ha9 hb9 hp
  · skip
    exact k_reti hQ G hret hlocks h (hq) (Nat.le_of_ble_eq_true rfl) (Nat.le_of_ble_eq_true rfl) dX4_carries_102
set_option maxHeartbeats 4000000 in
set_option maxRecDepth 100000 in
/-- carries(p), command 3 -/
theorem met_X4_carries_3 (l : Launch) (V : kEnv) (M : kMs) (B : kBd) (hg : M.2 0 = gOf B) (hA : bA B) (hw : M.1 2 = nI 1) (c0 : Nat) (hc0 : M.1 1 = nI c0) (hc8 : c0 ≤ 8) (p : Nat) (hp9 : p + 2 < 124) (a b : Nat) (hk : M.2 8 p = nI 3) (ha9 : a < 100) (h1 : M.2 8 (p + 1) = nI a) (hb9 : b < 100) (h2 : M.2 8 (p + 2) = nI b) : kI l yX4_carries cX4_carries 4 (some .int) { frames := 5, cells := 0, slots := 0, locals := 112 } V (mWs V) [.ref (eX V 500), .int (nI (p))] (M) (fun r u => carP M B 3 a b u) 0 0 := by
  refine kI_of (by decide +kernel) (Nat.le_of_ble_eq_true rfl) ?_
  intro pg e s m args below meth c G hret hlocks hC hB h ls hl Q hQ
  have hl : lv_has ls 4 [(0, .ref (eX V 500)), (1, .int (nI (p)))] := hl
  have hx := G.1
  have hcd := G.2.1
  have hI := hA.1
  have hI0 := hI
  have hu := hA.2.1
  have hv := hA.2.2.1
  have hw9 := hA.2.2.2.1
  have hR := bA_R hA
  obtain ⟨hz, hbn, hn, hm, h3, h54, h4, h7, hr, he, ha, hact, h5⟩ := hI
  refine lv_aload_n hx hcd dX4_carries_0 rfl (lv_at hl 0 rfl) ?_
  refine r_mA G hC h 8 (by decide) mw_1489 dX4_carries_1 ?_
  refine lv_iload_n hx hcd dX4_carries_4 rfl (lv_at hl 1 rfl) ?_
  refine lv_iconst (v := nI 1) hx hcd dX4_carries_5 (by decide) ?_
  refine w_iadd (v := nI (p + 1)) hx hcd dX4_carries_6 (nI_add _ _) ?_
  refine r_mL G hC h 8 (p + 1) (by decide) (by decide) rfl (show p + 1 < 124 by omega) (x := nI (a)) h1 dX4_carries_7 ?_
  refine lv_istore_n (lv' := [(2, .int (nI (a))), (0, .ref (eX V 500)), (1, .int (nI (p)))]) hx hcd dX4_carries_8 rfl hl (by decide) rfl (fun ls hl => ?_)
  refine lv_aload_n hx hcd dX4_carries_9 rfl (lv_at hl 1 rfl) ?_
  refine r_mA G hC h 8 (by decide) mw_1489 dX4_carries_10 ?_
  refine lv_iload_n hx hcd dX4_carries_13 rfl (lv_at hl 2 rfl) ?_
  refine lv_iconst (v := nI 2) hx hcd dX4_carries_14 (by decide) ?_
  refine w_iadd (v := nI (p + 2)) hx hcd dX4_carries_15 (nI_add _ _) ?_
  refine r_mL G hC h 8 (p + 2) (by decide) (by decide) rfl (show p + 2 < 124 by omega) (x := nI (b)) h2 dX4_carries_16 ?_
  refine lv_istore_n (lv' := [(3, .int (nI (b))), (2, .int (nI (a))), (0, .ref (eX V 500)), (1, .int (nI (p)))]) hx hcd dX4_carries_17 rfl hl (by decide) rfl (fun ls hl => ?_)
  refine lv_aload_n hx hcd dX4_carries_18 rfl (lv_at hl 2 rfl) ?_
  refine r_mA G hC h 8 (by decide) mw_1489 dX4_carries_19 ?_
  refine lv_iload_n hx hcd dX4_carries_22 rfl (lv_at hl 3 rfl) ?_
  refine r_mL G hC h 8 (p) (by decide) (by decide) rfl (show p < 124 by omega) (x := nI 3) hk dX4_carries_23 ?_
  have t_3 : (nI 3 : Int32).toInt = (3 : Int) := (tN (n := 3) (by decide))
  refine lv_tableIn (off := 79) (tgt := 103) hx hcd dX4_carries_24 (by rw [t_3]; decide) (by rw [t_3]; decide) (by rw [t_3]; decide) (by decide) ?_
  refine lv_aload_n hx hcd dX4_carries_103 rfl (lv_at hl 2 rfl) ?_
  refine lv_iload_n hx hcd dX4_carries_104 rfl (lv_at hl 1 rfl) ?_
  refine lv_iload_n hx hcd dX4_carries_105 rfl (lv_at hl 0 rfl) ?_
  refine k_Vi (As := [.int (nI (a)), .int (nI (b))]) (rest := []) (b := eX V 500) G hC hB h (met_X4_unblock l V M B hg hI0 1 c0 hw (by decide) hc0 hc8 (nI (a)) (nI (b))) mw_1898 kv_X4_unblock ⟨rfl, rfl⟩ ⟨Nat.le_of_ble_eq_true rfl, Nat.le_of_ble_eq_true rfl⟩ (r_mV hC h) rfl rfl hl.1 (Nat.le_of_ble_eq_true rfl) dX4_carries_106 ⟨Nat.le_of_ble_eq_true rfl, Nat.le_of_ble_eq_true rfl⟩ (fun r u H locs hp h => ?_)
  have hq := car_3 (a := a) (b := b) hA ha9 hb9 hp
  · skip
    exact k_reti hQ G hret hlocks h (hq) (Nat.le_of_ble_eq_true rfl) (Nat.le_of_ble_eq_true rfl) dX4_carries_109
set_option maxHeartbeats 4000000 in
set_option maxRecDepth 100000 in
/-- carries(p), command 4 -/
theorem met_X4_carries_4 (l : Launch) (V : kEnv) (M : kMs) (B : kBd) (hg : M.2 0 = gOf B) (hA : bA B) (hw : M.1 2 = nI 1) (c0 : Nat) (hc0 : M.1 1 = nI c0) (hc8 : c0 ≤ 8) (p : Nat) (hp9 : p + 2 < 124) (a b : Nat) (hk : M.2 8 p = nI 4) (ha9 : a < 100) (h1 : M.2 8 (p + 1) = nI a) : kI l yX4_carries cX4_carries 4 (some .int) { frames := 5, cells := 0, slots := 0, locals := 112 } V (mWs V) [.ref (eX V 500), .int (nI (p))] (M) (fun r u => carP M B 4 a b u) 0 0 := by
  refine kI_of (by decide +kernel) (Nat.le_of_ble_eq_true rfl) ?_
  intro pg e s m args below meth c G hret hlocks hC hB h ls hl Q hQ
  have hl : lv_has ls 4 [(0, .ref (eX V 500)), (1, .int (nI (p)))] := hl
  have hx := G.1
  have hcd := G.2.1
  have hI := hA.1
  have hI0 := hI
  have hu := hA.2.1
  have hv := hA.2.2.1
  have hw9 := hA.2.2.2.1
  have hR := bA_R hA
  obtain ⟨hz, hbn, hn, hm, h3, h54, h4, h7, hr, he, ha, hact, h5⟩ := hI
  refine lv_aload_n hx hcd dX4_carries_0 rfl (lv_at hl 0 rfl) ?_
  refine r_mA G hC h 8 (by decide) mw_1489 dX4_carries_1 ?_
  refine lv_iload_n hx hcd dX4_carries_4 rfl (lv_at hl 1 rfl) ?_
  refine lv_iconst (v := nI 1) hx hcd dX4_carries_5 (by decide) ?_
  refine w_iadd (v := nI (p + 1)) hx hcd dX4_carries_6 (nI_add _ _) ?_
  refine r_mL G hC h 8 (p + 1) (by decide) (by decide) rfl (show p + 1 < 124 by omega) (x := nI (a)) h1 dX4_carries_7 ?_
  refine lv_istore_n (lv' := [(2, .int (nI (a))), (0, .ref (eX V 500)), (1, .int (nI (p)))]) hx hcd dX4_carries_8 rfl hl (by decide) rfl (fun ls hl => ?_)
  refine lv_aload_n hx hcd dX4_carries_9 rfl (lv_at hl 1 rfl) ?_
  refine r_mA G hC h 8 (by decide) mw_1489 dX4_carries_10 ?_
  refine lv_iload_n hx hcd dX4_carries_13 rfl (lv_at hl 2 rfl) ?_
  refine lv_iconst (v := nI 2) hx hcd dX4_carries_14 (by decide) ?_
  refine w_iadd (v := nI (p + 2)) hx hcd dX4_carries_15 (nI_add _ _) ?_
  refine r_mL G hC h 8 (p + 2) (by decide) (by decide) rfl (show p + 2 < 124 by omega) (x := M.2 8 (p + 2)) rfl dX4_carries_16 ?_
  refine lv_istore_n (lv' := [(3, .int (M.2 8 (p + 2))), (2, .int (nI (a))), (0, .ref (eX V 500)), (1, .int (nI (p)))]) hx hcd dX4_carries_17 rfl hl (by decide) rfl (fun ls hl => ?_)
  refine lv_aload_n hx hcd dX4_carries_18 rfl (lv_at hl 2 rfl) ?_
  refine r_mA G hC h 8 (by decide) mw_1489 dX4_carries_19 ?_
  refine lv_iload_n hx hcd dX4_carries_22 rfl (lv_at hl 3 rfl) ?_
  refine r_mL G hC h 8 (p) (by decide) (by decide) rfl (show p < 124 by omega) (x := nI 4) hk dX4_carries_23 ?_
  have t_3 : (nI 4 : Int32).toInt = (4 : Int) := (tN (n := 4) (by decide))
  refine lv_tableIn (off := 86) (tgt := 110) hx hcd dX4_carries_24 (by rw [t_3]; decide) (by rw [t_3]; decide) (by rw [t_3]; decide) (by decide) ?_
  refine lv_aload_n hx hcd dX4_carries_110 rfl (lv_at hl 2 rfl) ?_
  refine lv_iload_n hx hcd dX4_carries_111 rfl (lv_at hl 1 rfl) ?_
  refine k_Vi (As := [.int (nI (a))]) (rest := []) (b := eX V 500) G hC hB h (met_X4_plan l V M B hg hI0 1 c0 hw (by decide) hc0 hc8 (nI (a))) mw_1899 kv_X4_plan ⟨rfl, rfl⟩ ⟨Nat.le_of_ble_eq_true rfl, Nat.le_of_ble_eq_true rfl⟩ (r_mV hC h) rfl rfl hl.1 (Nat.le_of_ble_eq_true rfl) dX4_carries_112 ⟨Nat.le_of_ble_eq_true rfl, Nat.le_of_ble_eq_true rfl⟩ (fun r u H locs hp h => ?_)
  have hq := car_4 (a := a) (b := b) hA ha9 hp
  · skip
    exact k_reti hQ G hret hlocks h (hq) (Nat.le_of_ble_eq_true rfl) (Nat.le_of_ble_eq_true rfl) dX4_carries_115
set_option maxHeartbeats 4000000 in
set_option maxRecDepth 100000 in
/-- carries(p), command 5 -/
theorem met_X4_carries_5 (l : Launch) (V : kEnv) (M : kMs) (B : kBd) (hg : M.2 0 = gOf B) (hA : bA B) (hw : M.1 2 = nI 1) (c0 : Nat) (hc0 : M.1 1 = nI c0) (hc8 : c0 ≤ 8) (p : Nat) (hp9 : p + 2 < 124) (a b : Nat) (hk : M.2 8 p = nI 5) (ha9 : a < 100) (h1 : M.2 8 (p + 1) = nI a) : kI l yX4_carries cX4_carries 4 (some .int) { frames := 5, cells := 0, slots := 0, locals := 112 } V (mWs V) [.ref (eX V 500), .int (nI (p))] (M) (fun r u => carP M B 5 a b u) 0 0 := by
  refine kI_of (by decide +kernel) (Nat.le_of_ble_eq_true rfl) ?_
  intro pg e s m args below meth c G hret hlocks hC hB h ls hl Q hQ
  have hl : lv_has ls 4 [(0, .ref (eX V 500)), (1, .int (nI (p)))] := hl
  have hx := G.1
  have hcd := G.2.1
  have hI := hA.1
  have hI0 := hI
  have hu := hA.2.1
  have hv := hA.2.2.1
  have hw9 := hA.2.2.2.1
  have hR := bA_R hA
  obtain ⟨hz, hbn, hn, hm, h3, h54, h4, h7, hr, he, ha, hact, h5⟩ := hI
  refine lv_aload_n hx hcd dX4_carries_0 rfl (lv_at hl 0 rfl) ?_
  refine r_mA G hC h 8 (by decide) mw_1489 dX4_carries_1 ?_
  refine lv_iload_n hx hcd dX4_carries_4 rfl (lv_at hl 1 rfl) ?_
  refine lv_iconst (v := nI 1) hx hcd dX4_carries_5 (by decide) ?_
  refine w_iadd (v := nI (p + 1)) hx hcd dX4_carries_6 (nI_add _ _) ?_
  refine r_mL G hC h 8 (p + 1) (by decide) (by decide) rfl (show p + 1 < 124 by omega) (x := nI (a)) h1 dX4_carries_7 ?_
  refine lv_istore_n (lv' := [(2, .int (nI (a))), (0, .ref (eX V 500)), (1, .int (nI (p)))]) hx hcd dX4_carries_8 rfl hl (by decide) rfl (fun ls hl => ?_)
  refine lv_aload_n hx hcd dX4_carries_9 rfl (lv_at hl 1 rfl) ?_
  refine r_mA G hC h 8 (by decide) mw_1489 dX4_carries_10 ?_
  refine lv_iload_n hx hcd dX4_carries_13 rfl (lv_at hl 2 rfl) ?_
  refine lv_iconst (v := nI 2) hx hcd dX4_carries_14 (by decide) ?_
  refine w_iadd (v := nI (p + 2)) hx hcd dX4_carries_15 (nI_add _ _) ?_
  refine r_mL G hC h 8 (p + 2) (by decide) (by decide) rfl (show p + 2 < 124 by omega) (x := M.2 8 (p + 2)) rfl dX4_carries_16 ?_
  refine lv_istore_n (lv' := [(3, .int (M.2 8 (p + 2))), (2, .int (nI (a))), (0, .ref (eX V 500)), (1, .int (nI (p)))]) hx hcd dX4_carries_17 rfl hl (by decide) rfl (fun ls hl => ?_)
  refine lv_aload_n hx hcd dX4_carries_18 rfl (lv_at hl 2 rfl) ?_
  refine r_mA G hC h 8 (by decide) mw_1489 dX4_carries_19 ?_
  refine lv_iload_n hx hcd dX4_carries_22 rfl (lv_at hl 3 rfl) ?_
  refine r_mL G hC h 8 (p) (by decide) (by decide) rfl (show p < 124 by omega) (x := nI 5) hk dX4_carries_23 ?_
  have t_3 : (nI 5 : Int32).toInt = (5 : Int) := (tN (n := 5) (by decide))
  refine lv_tableIn (off := 92) (tgt := 116) hx hcd dX4_carries_24 (by rw [t_3]; decide) (by rw [t_3]; decide) (by rw [t_3]; decide) (by decide) ?_
  refine lv_aload_n hx hcd dX4_carries_116 rfl (lv_at hl 2 rfl) ?_
  refine lv_iload_n hx hcd dX4_carries_117 rfl (lv_at hl 1 rfl) ?_
  refine k_Vi (As := [.int (nI (a))]) (rest := []) (b := eX V 500) G hC hB h (met_X4_unplan l V M B hg hI0 1 c0 hw (by decide) hc0 hc8 (nI (a))) mw_1900 kv_X4_unplan ⟨rfl, rfl⟩ ⟨Nat.le_of_ble_eq_true rfl, Nat.le_of_ble_eq_true rfl⟩ (r_mV hC h) rfl rfl hl.1 (Nat.le_of_ble_eq_true rfl) dX4_carries_118 ⟨Nat.le_of_ble_eq_true rfl, Nat.le_of_ble_eq_true rfl⟩ (fun r u H locs hp h => ?_)
  have hq := car_5 (a := a) (b := b) hA ha9 hp
  · skip
    exact k_reti hQ G hret hlocks h (hq) (Nat.le_of_ble_eq_true rfl) (Nat.le_of_ble_eq_true rfl) dX4_carries_121
set_option maxHeartbeats 4000000 in
set_option maxRecDepth 100000 in
/-- carries(p), command 6 -/
theorem met_X4_carries_6 (l : Launch) (V : kEnv) (M : kMs) (B : kBd) (hg : M.2 0 = gOf B) (hA : bA B) (hw : M.1 2 = nI 1) (c0 : Nat) (hc0 : M.1 1 = nI c0) (hc8 : c0 ≤ 8) (p : Nat) (hp9 : p + 2 < 124) (a b : Nat) (hk : M.2 8 p = nI 6) (ha9 : a < 100) (h1 : M.2 8 (p + 1) = nI a) : kI l yX4_carries cX4_carries 4 (some .int) { frames := 5, cells := 0, slots := 0, locals := 112 } V (mWs V) [.ref (eX V 500), .int (nI (p))] (M) (fun r u => carP M B 6 a b u) 0 0 := by
  refine kI_of (by decide +kernel) (Nat.le_of_ble_eq_true rfl) ?_
  intro pg e s m args below meth c G hret hlocks hC hB h ls hl Q hQ
  have hl : lv_has ls 4 [(0, .ref (eX V 500)), (1, .int (nI (p)))] := hl
  have hx := G.1
  have hcd := G.2.1
  have hI := hA.1
  have hI0 := hI
  have hu := hA.2.1
  have hv := hA.2.2.1
  have hw9 := hA.2.2.2.1
  have hR := bA_R hA
  obtain ⟨hz, hbn, hn, hm, h3, h54, h4, h7, hr, he, ha, hact, h5⟩ := hI
  refine lv_aload_n hx hcd dX4_carries_0 rfl (lv_at hl 0 rfl) ?_
  refine r_mA G hC h 8 (by decide) mw_1489 dX4_carries_1 ?_
  refine lv_iload_n hx hcd dX4_carries_4 rfl (lv_at hl 1 rfl) ?_
  refine lv_iconst (v := nI 1) hx hcd dX4_carries_5 (by decide) ?_
  refine w_iadd (v := nI (p + 1)) hx hcd dX4_carries_6 (nI_add _ _) ?_
  refine r_mL G hC h 8 (p + 1) (by decide) (by decide) rfl (show p + 1 < 124 by omega) (x := nI (a)) h1 dX4_carries_7 ?_
  refine lv_istore_n (lv' := [(2, .int (nI (a))), (0, .ref (eX V 500)), (1, .int (nI (p)))]) hx hcd dX4_carries_8 rfl hl (by decide) rfl (fun ls hl => ?_)
  refine lv_aload_n hx hcd dX4_carries_9 rfl (lv_at hl 1 rfl) ?_
  refine r_mA G hC h 8 (by decide) mw_1489 dX4_carries_10 ?_
  refine lv_iload_n hx hcd dX4_carries_13 rfl (lv_at hl 2 rfl) ?_
  refine lv_iconst (v := nI 2) hx hcd dX4_carries_14 (by decide) ?_
  refine w_iadd (v := nI (p + 2)) hx hcd dX4_carries_15 (nI_add _ _) ?_
  refine r_mL G hC h 8 (p + 2) (by decide) (by decide) rfl (show p + 2 < 124 by omega) (x := M.2 8 (p + 2)) rfl dX4_carries_16 ?_
  refine lv_istore_n (lv' := [(3, .int (M.2 8 (p + 2))), (2, .int (nI (a))), (0, .ref (eX V 500)), (1, .int (nI (p)))]) hx hcd dX4_carries_17 rfl hl (by decide) rfl (fun ls hl => ?_)
  refine lv_aload_n hx hcd dX4_carries_18 rfl (lv_at hl 2 rfl) ?_
  refine r_mA G hC h 8 (by decide) mw_1489 dX4_carries_19 ?_
  refine lv_iload_n hx hcd dX4_carries_22 rfl (lv_at hl 3 rfl) ?_
  refine r_mL G hC h 8 (p) (by decide) (by decide) rfl (show p < 124 by omega) (x := nI 6) hk dX4_carries_23 ?_
  have t_3 : (nI 6 : Int32).toInt = (6 : Int) := (tN (n := 6) (by decide))
  refine lv_tableIn (off := 98) (tgt := 122) hx hcd dX4_carries_24 (by rw [t_3]; decide) (by rw [t_3]; decide) (by rw [t_3]; decide) (by decide) ?_
  refine lv_aload_n hx hcd dX4_carries_122 rfl (lv_at hl 2 rfl) ?_
  refine lv_iload_n hx hcd dX4_carries_123 rfl (lv_at hl 1 rfl) ?_
  refine k_Vi (As := [.int (nI (a))]) (rest := []) (b := eX V 500) G hC hB h (met_X4_startSprint l V M B hg hI0 1 c0 hw (by decide) hc0 hc8 (nI (a))) mw_1901 kv_X4_startSprint ⟨rfl, rfl⟩ ⟨Nat.le_of_ble_eq_true rfl, Nat.le_of_ble_eq_true rfl⟩ (r_mV hC h) rfl rfl hl.1 (Nat.le_of_ble_eq_true rfl) dX4_carries_124 ⟨Nat.le_of_ble_eq_true rfl, Nat.le_of_ble_eq_true rfl⟩ (fun r u H locs hp h => ?_)
  have hq := car_6 (a := a) (b := b) hA ha9 hp
  · skip
    exact k_reti hQ G hret hlocks h (hq) (Nat.le_of_ble_eq_true rfl) (Nat.le_of_ble_eq_true rfl) dX4_carries_127
set_option maxHeartbeats 4000000 in
set_option maxRecDepth 100000 in
/-- carries(p), command 7 -/
theorem met_X4_carries_7 (l : Launch) (V : kEnv) (M : kMs) (B : kBd) (hg : M.2 0 = gOf B) (hA : bA B) (hw : M.1 2 = nI 1) (c0 : Nat) (hc0 : M.1 1 = nI c0) (hc8 : c0 ≤ 8) (p : Nat) (hp9 : p + 2 < 124) (a b : Nat) (hk : M.2 8 p = nI 7) (ha9 : a < 100) (h1 : M.2 8 (p + 1) = nI a) (hb9 : b < 100) (h2 : M.2 8 (p + 2) = nI b) : kI l yX4_carries cX4_carries 4 (some .int) { frames := 5, cells := 0, slots := 0, locals := 112 } V (mWs V) [.ref (eX V 500), .int (nI (p))] (M) (fun r u => carP M B 7 a b u) 0 0 := by
  refine kI_of (by decide +kernel) (Nat.le_of_ble_eq_true rfl) ?_
  intro pg e s m args below meth c G hret hlocks hC hB h ls hl Q hQ
  have hl : lv_has ls 4 [(0, .ref (eX V 500)), (1, .int (nI (p)))] := hl
  have hx := G.1
  have hcd := G.2.1
  have hI := hA.1
  have hI0 := hI
  have hu := hA.2.1
  have hv := hA.2.2.1
  have hw9 := hA.2.2.2.1
  have hR := bA_R hA
  obtain ⟨hz, hbn, hn, hm, h3, h54, h4, h7, hr, he, ha, hact, h5⟩ := hI
  refine lv_aload_n hx hcd dX4_carries_0 rfl (lv_at hl 0 rfl) ?_
  refine r_mA G hC h 8 (by decide) mw_1489 dX4_carries_1 ?_
  refine lv_iload_n hx hcd dX4_carries_4 rfl (lv_at hl 1 rfl) ?_
  refine lv_iconst (v := nI 1) hx hcd dX4_carries_5 (by decide) ?_
  refine w_iadd (v := nI (p + 1)) hx hcd dX4_carries_6 (nI_add _ _) ?_
  refine r_mL G hC h 8 (p + 1) (by decide) (by decide) rfl (show p + 1 < 124 by omega) (x := nI (a)) h1 dX4_carries_7 ?_
  refine lv_istore_n (lv' := [(2, .int (nI (a))), (0, .ref (eX V 500)), (1, .int (nI (p)))]) hx hcd dX4_carries_8 rfl hl (by decide) rfl (fun ls hl => ?_)
  refine lv_aload_n hx hcd dX4_carries_9 rfl (lv_at hl 1 rfl) ?_
  refine r_mA G hC h 8 (by decide) mw_1489 dX4_carries_10 ?_
  refine lv_iload_n hx hcd dX4_carries_13 rfl (lv_at hl 2 rfl) ?_
  refine lv_iconst (v := nI 2) hx hcd dX4_carries_14 (by decide) ?_
  refine w_iadd (v := nI (p + 2)) hx hcd dX4_carries_15 (nI_add _ _) ?_
  refine r_mL G hC h 8 (p + 2) (by decide) (by decide) rfl (show p + 2 < 124 by omega) (x := nI (b)) h2 dX4_carries_16 ?_
  refine lv_istore_n (lv' := [(3, .int (nI (b))), (2, .int (nI (a))), (0, .ref (eX V 500)), (1, .int (nI (p)))]) hx hcd dX4_carries_17 rfl hl (by decide) rfl (fun ls hl => ?_)
  refine lv_aload_n hx hcd dX4_carries_18 rfl (lv_at hl 2 rfl) ?_
  refine r_mA G hC h 8 (by decide) mw_1489 dX4_carries_19 ?_
  refine lv_iload_n hx hcd dX4_carries_22 rfl (lv_at hl 3 rfl) ?_
  refine r_mL G hC h 8 (p) (by decide) (by decide) rfl (show p < 124 by omega) (x := nI 7) hk dX4_carries_23 ?_
  have t_3 : (nI 7 : Int32).toInt = (7 : Int) := (tN (n := 7) (by decide))
  refine lv_tableIn (off := 104) (tgt := 128) hx hcd dX4_carries_24 (by rw [t_3]; decide) (by rw [t_3]; decide) (by rw [t_3]; decide) (by decide) ?_
  refine lv_aload_n hx hcd dX4_carries_128 rfl (lv_at hl 2 rfl) ?_
  refine lv_iload_n hx hcd dX4_carries_129 rfl (lv_at hl 1 rfl) ?_
  refine lv_iload_n hx hcd dX4_carries_130 rfl (lv_at hl 0 rfl) ?_
  refine k_Vi (As := [.int (nI (a)), .int (nI (b))]) (rest := []) (b := eX V 500) G hC hB h (met_X4_assign l V M B hg hI0 1 c0 hw (by decide) hc0 hc8 (nI (a)) (nI (b))) mw_1902 kv_X4_assign ⟨rfl, rfl⟩ ⟨Nat.le_of_ble_eq_true rfl, Nat.le_of_ble_eq_true rfl⟩ (r_mV hC h) rfl rfl hl.1 (Nat.le_of_ble_eq_true rfl) dX4_carries_131 ⟨Nat.le_of_ble_eq_true rfl, Nat.le_of_ble_eq_true rfl⟩ (fun r u H locs hp h => ?_)
  have hq := car_7 (a := a) (b := b) hA ha9 hb9 hp
  · skip
    refine lv_if_eq (tgt := 141) hx hcd dX4_carries_134 (by decide) (fun c_4 => ?_) (fun c_4 => ?_)
    · have c_4 := cEq (rfl : (r : Int32).toInt = (r : Int32).toInt) t0 c_4
      refine lv_iconst (v := nI 0) hx hcd dX4_carries_141 (by decide) ?_
      exact k_reti hQ G hret hlocks h (hq) (Nat.le_of_ble_eq_true rfl) (Nat.le_of_ble_eq_true rfl) dX4_carries_142
    · have c_4 := cNe (rfl : (r : Int32).toInt = (r : Int32).toInt) t0 c_4
      refine lv_iconst (v := nI 1) hx hcd dX4_carries_137 (by decide) ?_
      refine lv_goto (tgt := 142) hx hcd dX4_carries_138 (by decide) ?_
      exact k_reti hQ G hret hlocks h (hq) (Nat.le_of_ble_eq_true rfl) (Nat.le_of_ble_eq_true rfl) dX4_carries_142
set_option maxHeartbeats 4000000 in
set_option maxRecDepth 100000 in
/-- carries(p), command 8 -/
theorem met_X4_carries_8 (l : Launch) (V : kEnv) (M : kMs) (B : kBd) (hg : M.2 0 = gOf B) (hA : bA B) (hw : M.1 2 = nI 1) (c0 : Nat) (hc0 : M.1 1 = nI c0) (hc8 : c0 ≤ 8) (p : Nat) (hp9 : p + 2 < 124) (a b : Nat) (hk : M.2 8 p = nI 8) (ha9 : a < 100) (h1 : M.2 8 (p + 1) = nI a) : kI l yX4_carries cX4_carries 4 (some .int) { frames := 5, cells := 0, slots := 0, locals := 112 } V (mWs V) [.ref (eX V 500), .int (nI (p))] (M) (fun r u => carP M B 8 a b u) 0 0 := by
  refine kI_of (by decide +kernel) (Nat.le_of_ble_eq_true rfl) ?_
  intro pg e s m args below meth c G hret hlocks hC hB h ls hl Q hQ
  have hl : lv_has ls 4 [(0, .ref (eX V 500)), (1, .int (nI (p)))] := hl
  have hx := G.1
  have hcd := G.2.1
  have hI := hA.1
  have hI0 := hI
  have hu := hA.2.1
  have hv := hA.2.2.1
  have hw9 := hA.2.2.2.1
  have hR := bA_R hA
  obtain ⟨hz, hbn, hn, hm, h3, h54, h4, h7, hr, he, ha, hact, h5⟩ := hI
  refine lv_aload_n hx hcd dX4_carries_0 rfl (lv_at hl 0 rfl) ?_
  refine r_mA G hC h 8 (by decide) mw_1489 dX4_carries_1 ?_
  refine lv_iload_n hx hcd dX4_carries_4 rfl (lv_at hl 1 rfl) ?_
  refine lv_iconst (v := nI 1) hx hcd dX4_carries_5 (by decide) ?_
  refine w_iadd (v := nI (p + 1)) hx hcd dX4_carries_6 (nI_add _ _) ?_
  refine r_mL G hC h 8 (p + 1) (by decide) (by decide) rfl (show p + 1 < 124 by omega) (x := nI (a)) h1 dX4_carries_7 ?_
  refine lv_istore_n (lv' := [(2, .int (nI (a))), (0, .ref (eX V 500)), (1, .int (nI (p)))]) hx hcd dX4_carries_8 rfl hl (by decide) rfl (fun ls hl => ?_)
  refine lv_aload_n hx hcd dX4_carries_9 rfl (lv_at hl 1 rfl) ?_
  refine r_mA G hC h 8 (by decide) mw_1489 dX4_carries_10 ?_
  refine lv_iload_n hx hcd dX4_carries_13 rfl (lv_at hl 2 rfl) ?_
  refine lv_iconst (v := nI 2) hx hcd dX4_carries_14 (by decide) ?_
  refine w_iadd (v := nI (p + 2)) hx hcd dX4_carries_15 (nI_add _ _) ?_
  refine r_mL G hC h 8 (p + 2) (by decide) (by decide) rfl (show p + 2 < 124 by omega) (x := M.2 8 (p + 2)) rfl dX4_carries_16 ?_
  refine lv_istore_n (lv' := [(3, .int (M.2 8 (p + 2))), (2, .int (nI (a))), (0, .ref (eX V 500)), (1, .int (nI (p)))]) hx hcd dX4_carries_17 rfl hl (by decide) rfl (fun ls hl => ?_)
  refine lv_aload_n hx hcd dX4_carries_18 rfl (lv_at hl 2 rfl) ?_
  refine r_mA G hC h 8 (by decide) mw_1489 dX4_carries_19 ?_
  refine lv_iload_n hx hcd dX4_carries_22 rfl (lv_at hl 3 rfl) ?_
  refine r_mL G hC h 8 (p) (by decide) (by decide) rfl (show p < 124 by omega) (x := nI 8) hk dX4_carries_23 ?_
  have t_3 : (nI 8 : Int32).toInt = (8 : Int) := (tN (n := 8) (by decide))
  refine lv_tableIn (off := 119) (tgt := 143) hx hcd dX4_carries_24 (by rw [t_3]; decide) (by rw [t_3]; decide) (by rw [t_3]; decide) (by decide) ?_
  refine lv_aload_n hx hcd dX4_carries_143 rfl (lv_at hl 2 rfl) ?_
  refine lv_iload_n hx hcd dX4_carries_144 rfl (lv_at hl 1 rfl) ?_
  refine k_Vi (As := [.int (nI (a))]) (rest := []) (b := eX V 500) G hC hB h (met_X4_unassign l V M B hg hI0 1 c0 hw (by decide) hc0 hc8 hu (nI (a))) mw_1903 kv_X4_unassign ⟨rfl, rfl⟩ ⟨Nat.le_of_ble_eq_true rfl, Nat.le_of_ble_eq_true rfl⟩ (r_mV hC h) rfl rfl hl.1 (Nat.le_of_ble_eq_true rfl) dX4_carries_145 ⟨Nat.le_of_ble_eq_true rfl, Nat.le_of_ble_eq_true rfl⟩ (fun r u H locs hp h => ?_)
  have hq := car_8 (a := a) (b := b) hA ha9 hp
  · skip
    exact k_reti hQ G hret hlocks h (hq) (Nat.le_of_ble_eq_true rfl) (Nat.le_of_ble_eq_true rfl) dX4_carries_148
set_option maxHeartbeats 4000000 in
set_option maxRecDepth 100000 in
/-- carries(p), command 9 -/
theorem met_X4_carries_9 (l : Launch) (V : kEnv) (M : kMs) (B : kBd) (hg : M.2 0 = gOf B) (hA : bA B) (hw : M.1 2 = nI 1) (c0 : Nat) (hc0 : M.1 1 = nI c0) (hc8 : c0 ≤ 8) (p : Nat) (hp9 : p + 2 < 124) (a b : Nat) (hk : M.2 8 p = nI 9) (ha9 : a < 100) (h1 : M.2 8 (p + 1) = nI a) (hb9 : b < 100) (h2 : M.2 8 (p + 2) = nI b) : kI l yX4_carries cX4_carries 4 (some .int) { frames := 5, cells := 0, slots := 0, locals := 112 } V (mWs V) [.ref (eX V 500), .int (nI (p))] (M) (fun r u => carP M B 9 a b u) 0 0 := by
  refine kI_of (by decide +kernel) (Nat.le_of_ble_eq_true rfl) ?_
  intro pg e s m args below meth c G hret hlocks hC hB h ls hl Q hQ
  have hl : lv_has ls 4 [(0, .ref (eX V 500)), (1, .int (nI (p)))] := hl
  have hx := G.1
  have hcd := G.2.1
  have hI := hA.1
  have hI0 := hI
  have hu := hA.2.1
  have hv := hA.2.2.1
  have hw9 := hA.2.2.2.1
  have hR := bA_R hA
  obtain ⟨hz, hbn, hn, hm, h3, h54, h4, h7, hr, he, ha, hact, h5⟩ := hI
  refine lv_aload_n hx hcd dX4_carries_0 rfl (lv_at hl 0 rfl) ?_
  refine r_mA G hC h 8 (by decide) mw_1489 dX4_carries_1 ?_
  refine lv_iload_n hx hcd dX4_carries_4 rfl (lv_at hl 1 rfl) ?_
  refine lv_iconst (v := nI 1) hx hcd dX4_carries_5 (by decide) ?_
  refine w_iadd (v := nI (p + 1)) hx hcd dX4_carries_6 (nI_add _ _) ?_
  refine r_mL G hC h 8 (p + 1) (by decide) (by decide) rfl (show p + 1 < 124 by omega) (x := nI (a)) h1 dX4_carries_7 ?_
  refine lv_istore_n (lv' := [(2, .int (nI (a))), (0, .ref (eX V 500)), (1, .int (nI (p)))]) hx hcd dX4_carries_8 rfl hl (by decide) rfl (fun ls hl => ?_)
  refine lv_aload_n hx hcd dX4_carries_9 rfl (lv_at hl 1 rfl) ?_
  refine r_mA G hC h 8 (by decide) mw_1489 dX4_carries_10 ?_
  refine lv_iload_n hx hcd dX4_carries_13 rfl (lv_at hl 2 rfl) ?_
  refine lv_iconst (v := nI 2) hx hcd dX4_carries_14 (by decide) ?_
  refine w_iadd (v := nI (p + 2)) hx hcd dX4_carries_15 (nI_add _ _) ?_
  refine r_mL G hC h 8 (p + 2) (by decide) (by decide) rfl (show p + 2 < 124 by omega) (x := nI (b)) h2 dX4_carries_16 ?_
  refine lv_istore_n (lv' := [(3, .int (nI (b))), (2, .int (nI (a))), (0, .ref (eX V 500)), (1, .int (nI (p)))]) hx hcd dX4_carries_17 rfl hl (by decide) rfl (fun ls hl => ?_)
  refine lv_aload_n hx hcd dX4_carries_18 rfl (lv_at hl 2 rfl) ?_
  refine r_mA G hC h 8 (by decide) mw_1489 dX4_carries_19 ?_
  refine lv_iload_n hx hcd dX4_carries_22 rfl (lv_at hl 3 rfl) ?_
  refine r_mL G hC h 8 (p) (by decide) (by decide) rfl (show p < 124 by omega) (x := nI 9) hk dX4_carries_23 ?_
  have t_3 : (nI 9 : Int32).toInt = (9 : Int) := (tN (n := 9) (by decide))
  refine lv_tableIn (off := 125) (tgt := 149) hx hcd dX4_carries_24 (by rw [t_3]; decide) (by rw [t_3]; decide) (by rw [t_3]; decide) (by decide) ?_
  refine lv_aload_n hx hcd dX4_carries_149 rfl (lv_at hl 2 rfl) ?_
  refine lv_iload_n hx hcd dX4_carries_150 rfl (lv_at hl 1 rfl) ?_
  refine lv_iload_n hx hcd dX4_carries_151 rfl (lv_at hl 0 rfl) ?_
  refine k_Vi (As := [.int (nI (a)), .int (nI (b))]) (rest := []) (b := eX V 500) G hC hB h (met_X4_reestimate l V M B hg hI0 1 c0 hw (by decide) hc0 hc8 hu hv (nI (a)) (nI (b))) mw_1904 kv_X4_reestimate ⟨rfl, rfl⟩ ⟨Nat.le_of_ble_eq_true rfl, Nat.le_of_ble_eq_true rfl⟩ (r_mV hC h) rfl rfl hl.1 (Nat.le_of_ble_eq_true rfl) dX4_carries_152 ⟨Nat.le_of_ble_eq_true rfl, Nat.le_of_ble_eq_true rfl⟩ (fun r u H locs hp h => ?_)
  have hq := car_9 (a := a) (b := b) hA ha9 hb9 hp
  · skip
    exact k_reti hQ G hret hlocks h (hq) (Nat.le_of_ble_eq_true rfl) (Nat.le_of_ble_eq_true rfl) dX4_carries_155
set_option maxHeartbeats 4000000 in
set_option maxRecDepth 100000 in
/-- carries(p), command 10 -/
theorem met_X4_carries_10 (l : Launch) (V : kEnv) (M : kMs) (B : kBd) (hg : M.2 0 = gOf B) (hA : bA B) (hw : M.1 2 = nI 1) (c0 : Nat) (hc0 : M.1 1 = nI c0) (hc8 : c0 ≤ 8) (p : Nat) (hp9 : p + 2 < 124) (a b : Nat) (hk : M.2 8 p = nI 10) : kI l yX4_carries cX4_carries 4 (some .int) { frames := 5, cells := 0, slots := 0, locals := 112 } V (mWs V) [.ref (eX V 500), .int (nI (p))] (M) (fun r u => carP M B 10 a b u) 0 0 := by
  refine kI_of (by decide +kernel) (Nat.le_of_ble_eq_true rfl) ?_
  intro pg e s m args below meth c G hret hlocks hC hB h ls hl Q hQ
  have hl : lv_has ls 4 [(0, .ref (eX V 500)), (1, .int (nI (p)))] := hl
  have hx := G.1
  have hcd := G.2.1
  have hI := hA.1
  have hI0 := hI
  have hu := hA.2.1
  have hv := hA.2.2.1
  have hw9 := hA.2.2.2.1
  have hR := bA_R hA
  obtain ⟨hz, hbn, hn, hm, h3, h54, h4, h7, hr, he, ha, hact, h5⟩ := hI
  refine lv_aload_n hx hcd dX4_carries_0 rfl (lv_at hl 0 rfl) ?_
  refine r_mA G hC h 8 (by decide) mw_1489 dX4_carries_1 ?_
  refine lv_iload_n hx hcd dX4_carries_4 rfl (lv_at hl 1 rfl) ?_
  refine lv_iconst (v := nI 1) hx hcd dX4_carries_5 (by decide) ?_
  refine w_iadd (v := nI (p + 1)) hx hcd dX4_carries_6 (nI_add _ _) ?_
  refine r_mL G hC h 8 (p + 1) (by decide) (by decide) rfl (show p + 1 < 124 by omega) (x := M.2 8 (p + 1)) rfl dX4_carries_7 ?_
  refine lv_istore_n (lv' := [(2, .int (M.2 8 (p + 1))), (0, .ref (eX V 500)), (1, .int (nI (p)))]) hx hcd dX4_carries_8 rfl hl (by decide) rfl (fun ls hl => ?_)
  refine lv_aload_n hx hcd dX4_carries_9 rfl (lv_at hl 1 rfl) ?_
  refine r_mA G hC h 8 (by decide) mw_1489 dX4_carries_10 ?_
  refine lv_iload_n hx hcd dX4_carries_13 rfl (lv_at hl 2 rfl) ?_
  refine lv_iconst (v := nI 2) hx hcd dX4_carries_14 (by decide) ?_
  refine w_iadd (v := nI (p + 2)) hx hcd dX4_carries_15 (nI_add _ _) ?_
  refine r_mL G hC h 8 (p + 2) (by decide) (by decide) rfl (show p + 2 < 124 by omega) (x := M.2 8 (p + 2)) rfl dX4_carries_16 ?_
  refine lv_istore_n (lv' := [(3, .int (M.2 8 (p + 2))), (2, .int (M.2 8 (p + 1))), (0, .ref (eX V 500)), (1, .int (nI (p)))]) hx hcd dX4_carries_17 rfl hl (by decide) rfl (fun ls hl => ?_)
  refine lv_aload_n hx hcd dX4_carries_18 rfl (lv_at hl 2 rfl) ?_
  refine r_mA G hC h 8 (by decide) mw_1489 dX4_carries_19 ?_
  refine lv_iload_n hx hcd dX4_carries_22 rfl (lv_at hl 3 rfl) ?_
  refine r_mL G hC h 8 (p) (by decide) (by decide) rfl (show p < 124 by omega) (x := nI 10) hk dX4_carries_23 ?_
  have t_3 : (nI 10 : Int32).toInt = (10 : Int) := (tN (n := 10) (by decide))
  refine lv_tableIn (off := 132) (tgt := 156) hx hcd dX4_carries_24 (by rw [t_3]; decide) (by rw [t_3]; decide) (by rw [t_3]; decide) (by decide) ?_
  refine lv_aload_n hx hcd dX4_carries_156 rfl (lv_at hl 2 rfl) ?_
  refine k_Vi (As := []) (rest := []) (b := eX V 500) G hC hB h (met_X4_passDay l V M B hg hI0 1 c0 hw (by decide) hc0 hc8 hu) mw_1905 kv_X4_passDay ⟨rfl, rfl⟩ ⟨Nat.le_of_ble_eq_true rfl, Nat.le_of_ble_eq_true rfl⟩ (r_mV hC h) rfl rfl hl.1 (Nat.le_of_ble_eq_true rfl) dX4_carries_157 ⟨Nat.le_of_ble_eq_true rfl, Nat.le_of_ble_eq_true rfl⟩ (fun r u H locs hp h => ?_)
  have hq := car_10 (a := a) (b := b) hA hp
  · skip
    exact k_reti hQ G hret hlocks h (hq) (Nat.le_of_ble_eq_true rfl) (Nat.le_of_ble_eq_true rfl) dX4_carries_160
set_option maxHeartbeats 4000000 in
set_option maxRecDepth 100000 in
/-- carries(p), command 11 -/
theorem met_X4_carries_11 (l : Launch) (V : kEnv) (M : kMs) (B : kBd) (hg : M.2 0 = gOf B) (hA : bA B) (hw : M.1 2 = nI 1) (c0 : Nat) (hc0 : M.1 1 = nI c0) (hc8 : c0 ≤ 8) (p : Nat) (hp9 : p + 2 < 124) (a b : Nat) (hk : M.2 8 p = nI 11) : kI l yX4_carries cX4_carries 4 (some .int) { frames := 5, cells := 0, slots := 0, locals := 112 } V (mWs V) [.ref (eX V 500), .int (nI (p))] (M) (fun r u => carP M B 11 a b u) 0 0 := by
  refine kI_of (by decide +kernel) (Nat.le_of_ble_eq_true rfl) ?_
  intro pg e s m args below meth c G hret hlocks hC hB h ls hl Q hQ
  have hl : lv_has ls 4 [(0, .ref (eX V 500)), (1, .int (nI (p)))] := hl
  have hx := G.1
  have hcd := G.2.1
  have hI := hA.1
  have hI0 := hI
  have hu := hA.2.1
  have hv := hA.2.2.1
  have hw9 := hA.2.2.2.1
  have hR := bA_R hA
  obtain ⟨hz, hbn, hn, hm, h3, h54, h4, h7, hr, he, ha, hact, h5⟩ := hI
  refine lv_aload_n hx hcd dX4_carries_0 rfl (lv_at hl 0 rfl) ?_
  refine r_mA G hC h 8 (by decide) mw_1489 dX4_carries_1 ?_
  refine lv_iload_n hx hcd dX4_carries_4 rfl (lv_at hl 1 rfl) ?_
  refine lv_iconst (v := nI 1) hx hcd dX4_carries_5 (by decide) ?_
  refine w_iadd (v := nI (p + 1)) hx hcd dX4_carries_6 (nI_add _ _) ?_
  refine r_mL G hC h 8 (p + 1) (by decide) (by decide) rfl (show p + 1 < 124 by omega) (x := M.2 8 (p + 1)) rfl dX4_carries_7 ?_
  refine lv_istore_n (lv' := [(2, .int (M.2 8 (p + 1))), (0, .ref (eX V 500)), (1, .int (nI (p)))]) hx hcd dX4_carries_8 rfl hl (by decide) rfl (fun ls hl => ?_)
  refine lv_aload_n hx hcd dX4_carries_9 rfl (lv_at hl 1 rfl) ?_
  refine r_mA G hC h 8 (by decide) mw_1489 dX4_carries_10 ?_
  refine lv_iload_n hx hcd dX4_carries_13 rfl (lv_at hl 2 rfl) ?_
  refine lv_iconst (v := nI 2) hx hcd dX4_carries_14 (by decide) ?_
  refine w_iadd (v := nI (p + 2)) hx hcd dX4_carries_15 (nI_add _ _) ?_
  refine r_mL G hC h 8 (p + 2) (by decide) (by decide) rfl (show p + 2 < 124 by omega) (x := M.2 8 (p + 2)) rfl dX4_carries_16 ?_
  refine lv_istore_n (lv' := [(3, .int (M.2 8 (p + 2))), (2, .int (M.2 8 (p + 1))), (0, .ref (eX V 500)), (1, .int (nI (p)))]) hx hcd dX4_carries_17 rfl hl (by decide) rfl (fun ls hl => ?_)
  refine lv_aload_n hx hcd dX4_carries_18 rfl (lv_at hl 2 rfl) ?_
  refine r_mA G hC h 8 (by decide) mw_1489 dX4_carries_19 ?_
  refine lv_iload_n hx hcd dX4_carries_22 rfl (lv_at hl 3 rfl) ?_
  refine r_mL G hC h 8 (p) (by decide) (by decide) rfl (show p < 124 by omega) (x := nI 11) hk dX4_carries_23 ?_
  have t_3 : (nI 11 : Int32).toInt = (11 : Int) := (tN (n := 11) (by decide))
  refine lv_tableOut (tgt := 161) hx hcd dX4_carries_24 (by rw [t_3]; decide) (by decide) ?_
  refine lv_aload_n hx hcd dX4_carries_161 rfl (lv_at hl 2 rfl) ?_
  refine k_Vi (As := []) (rest := []) (b := eX V 500) G hC hB h (met_X4_endSprint l V M B hg hI0 1 c0 hw (by decide) hc0 hc8 hu) mw_1906 kv_X4_endSprint ⟨rfl, rfl⟩ ⟨Nat.le_of_ble_eq_true rfl, Nat.le_of_ble_eq_true rfl⟩ (r_mV hC h) rfl rfl hl.1 (Nat.le_of_ble_eq_true rfl) dX4_carries_162 ⟨Nat.le_of_ble_eq_true rfl, Nat.le_of_ble_eq_true rfl⟩ (fun r u H locs hp h => ?_)
  have hq := car_11 (a := a) (b := b) hA hp
  · skip
    exact k_reti hQ G hret hlocks h (hq) (Nat.le_of_ble_eq_true rfl) (Nat.le_of_ble_eq_true rfl) dX4_carries_165
theorem met_X4_carries (l : Launch) (V : kEnv) (M : kMs) (B : kBd) (hg : M.2 0 = gOf B) (hA : bA B) (hw : M.1 2 = nI 1) (c0 : Nat) (hc0 : M.1 1 = nI c0) (hc8 : c0 ≤ 8) (p : Nat) (hp9 : p + 2 < 124) (a b : Nat) (k : Nat) (hk12 : k < 12) (hk : M.2 8 p = nI k) (h1 : 1 ≤ arK k → a < 100 ∧ M.2 8 (p + 1) = nI a) (h2 : 2 ≤ arK k → b < 100 ∧ M.2 8 (p + 2) = nI b) : kI l yX4_carries cX4_carries 4 (some .int) { frames := 5, cells := 0, slots := 0, locals := 112 } V (mWs V) [.ref (eX V 500), .int (nI (p))] M (fun r u => carP M B k a b u) 0 0 := by
  match k, hk12 with
  | 0, _ => exact met_X4_carries_0 l V M B hg hA hw c0 hc0 hc8 p hp9 a b hk (h1 (by decide)).1 (h1 (by decide)).2
  | 1, _ => exact met_X4_carries_1 l V M B hg hA hw c0 hc0 hc8 p hp9 a b hk (h1 (by decide)).1 (h1 (by decide)).2
  | 2, _ => exact met_X4_carries_2 l V M B hg hA hw c0 hc0 hc8 p hp9 a b hk (h1 (by decide)).1 (h1 (by decide)).2 (h2 (by decide)).1 (h2 (by decide)).2
  | 3, _ => exact met_X4_carries_3 l V M B hg hA hw c0 hc0 hc8 p hp9 a b hk (h1 (by decide)).1 (h1 (by decide)).2 (h2 (by decide)).1 (h2 (by decide)).2
  | 4, _ => exact met_X4_carries_4 l V M B hg hA hw c0 hc0 hc8 p hp9 a b hk (h1 (by decide)).1 (h1 (by decide)).2
  | 5, _ => exact met_X4_carries_5 l V M B hg hA hw c0 hc0 hc8 p hp9 a b hk (h1 (by decide)).1 (h1 (by decide)).2
  | 6, _ => exact met_X4_carries_6 l V M B hg hA hw c0 hc0 hc8 p hp9 a b hk (h1 (by decide)).1 (h1 (by decide)).2
  | 7, _ => exact met_X4_carries_7 l V M B hg hA hw c0 hc0 hc8 p hp9 a b hk (h1 (by decide)).1 (h1 (by decide)).2 (h2 (by decide)).1 (h2 (by decide)).2
  | 8, _ => exact met_X4_carries_8 l V M B hg hA hw c0 hc0 hc8 p hp9 a b hk (h1 (by decide)).1 (h1 (by decide)).2
  | 9, _ => exact met_X4_carries_9 l V M B hg hA hw c0 hc0 hc8 p hp9 a b hk (h1 (by decide)).1 (h1 (by decide)).2 (h2 (by decide)).1 (h2 (by decide)).2
  | 10, _ => exact met_X4_carries_10 l V M B hg hA hw c0 hc0 hc8 p hp9 a b hk
  | 11, _ => exact met_X4_carries_11 l V M B hg hA hw c0 hc0 hc8 p hp9 a b hk
