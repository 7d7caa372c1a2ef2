/-! THE REFERENCE'S COMMANDS. -/
/-- what keeps leaves behind, alone (w = 0) or within a text (w = 1) -/
def kpW (M : kMs) (q w c : Nat) : kMs := if w = 1 then nPut M 3 (nI 0) else kpG M q c
theorem kpW_g (M : kMs) (q w c : Nat) : (kpW M q w c).2 0 = M.2 0 := by
  unfold kpW
  split
  · rfl
  · exact kpG_g M q c
theorem met_X4_keeps (l : Launch) (V : kEnv) (M : kMs) (q : Nat) (hq : q = 0 ∨ q = 3) (w : Nat) (hw : M.1 2 = nI w) (hw2 : w < 2) (c0 : Nat) (hc0 : M.1 1 = nI c0) (hc8 : c0 ≤ 8) : kU l yX4_keeps cX4_keeps 3 { frames := 1, cells := 0, slots := 0, locals := 24 } V (mWs V) [.ref (eX V 500), .ref (eX V (501 + q))] M (fun u => u = kpW M q w c0) 0 0 := by
  match w, hw2 with
  | 0, _ => exact met_X4_keeps0 l V M q hq hw c0 hc0 hc8
  | 1, _ => exact met_X4_keeps1 l V M q hq hw
theorem bI_bars {B : kBd} (h : bI B) {k v : Nat} (hk : k < 16) (hv : v < 65536) : bI (bSet B 2 k v) := bI_row h (Or.inl rfl) (show k < kLen 2 from hk) hv
theorem kv_X4_barsOf : kV yX4_barsOf cX4_barsOf 4 (some .int) 1 := ⟨mw_1605, mw_31, mw_64, mw_1606, by decide, by decide, by decide +kernel⟩
theorem kv_X4_keeps : kV yX4_keeps cX4_keeps 3 none 1 := ⟨mw_1551, mw_21, mw_64, mw_1552, by decide, by decide, by decide +kernel⟩
theorem kv_X4_lays : kV yX4_lays cX4_lays 4 none 3 := ⟨mw_1558, mw_22, mw_64, mw_1559, by decide, by decide, by decide +kernel⟩
set_option maxHeartbeats 4000000 in
set_option maxRecDepth 100000 in
/-- plan(x) -/
theorem met_X4_plan (l : Launch) (V : kEnv) (M : kMs) (B : kBd) (hg : M.2 0 = gOf B) (hI : bI B) (w c0 : Nat) (hw : M.1 2 = nI w) (hw2 : w < 2) (hc0 : M.1 1 = nI c0) (hc8 : c0 ≤ 8) (x : Int32) : kI l yX4_plan cX4_plan 2 (some .int) { frames := 2, cells := 0, slots := 0, locals := 46 } V (mWs V) [.ref (eX V 500), .int (x)] (M) (fun r u => (∃ k, k < B.2 0 ∧ x = nI k ∧ ((B.2 2).testBit k = false ∧ B.1 1 k ≠ 0) ∧ r = nI (plS (bPut B 2 (B.2 2 ||| 2 ^ k)) 0) ∧ u = setG (kpW (nPut M 3 (nI 0)) 0 w c0) (bPut B 2 (B.2 2 ||| 2 ^ k))) ∨ (inS (B.2 0) x = false ∧ r = nI 0 ∧ u = nPut M 3 (nI 1)) ∨ (∃ k, k < B.2 0 ∧ x = nI k ∧ ¬ ((B.2 2).testBit k = false ∧ B.1 1 k ≠ 0) ∧ r = nI 0 ∧ u = nPut M 3 (nI 2))) 0 0 := by
  refine kI_of (by decide +kernel) (Nat.le_of_ble_eq_true rfl) ?_
  intro pg e s m args below meth c G hret hlocks hC hB h ls hl Q hQ
  have hl : lv_has ls 2 [(0, .ref (eX V 500)), (1, .int (x))] := hl
  have hx := G.1
  have hcd := G.2.1
  have hI0 := hI
  obtain ⟨hz, hbn, hn, hm, h3, h54, h4, h7, hr, he, ha, hact, h5⟩ := hI
  refine lv_aload_n hx hcd dX4_plan_0 rfl (lv_at hl 0 rfl) ?_
  refine lv_aload_n hx hcd dX4_plan_1 rfl (lv_at hl 0 rfl) ?_
  refine lv_iload_n hx hcd dX4_plan_2 rfl (lv_at hl 1 rfl) ?_
  refine k_Vi (As := [.int (x)]) (rest := [.ref (eX V 500)]) (b := eX V 500) G hC hB h (met_X4_isStory l V M B hg hI0 x) mw_1564 kv_X4_isStory ⟨rfl, rfl⟩ ⟨Nat.le_of_ble_eq_true rfl, Nat.le_of_ble_eq_true rfl⟩ (r_mV hC h) rfl rfl hl.1 (Nat.le_of_ble_eq_true rfl) dX4_plan_3 ⟨Nat.le_of_ble_eq_true rfl, Nat.le_of_ble_eq_true rfl⟩ (fun r u H locs hp h => ?_)
  obtain ⟨hr9, hu9⟩ := hp
  rw [hu9] at h
  rcases bsp (inS (B.2 0) x) with c9 | c9
  · skip
    obtain rfl : r = nI 1 := (hr9.trans ((congrArg bz c9).trans (by decide)))
    obtain ⟨k, hk, rfl⟩ := inS_ex (by omega) c9
    refine lv_if_ne (tgt := 13) hx hcd dX4_plan_6 (by decide) (fun _ => ?_) (fun c_1 => absurd c_1 (by decide))
    refine lv_aload_n hx hcd dX4_plan_13 rfl (lv_at hl 0 rfl) ?_
    refine lv_iload_n hx hcd dX4_plan_14 rfl (lv_at hl 1 rfl) ?_
    refine lv_iconst (v := nI 2) hx hcd dX4_plan_15 (by decide) ?_
    refine k_Vi (As := [.int (nI (k)), .int (nI 2)]) (rest := [.ref (eX V 500)]) (b := eX V 500) G hC hB h (met_X4_of l V M k 2 (by omega) (by decide)) mw_1572 kv_X4_of ⟨rfl, rfl⟩ ⟨Nat.le_of_ble_eq_true rfl, Nat.le_of_ble_eq_true rfl⟩ (r_mV hC h) rfl rfl hl.1 (Nat.le_of_ble_eq_true rfl) dX4_plan_16 ⟨Nat.le_of_ble_eq_true rfl, Nat.le_of_ble_eq_true rfl⟩ (fun r u H locs hp h => ?_)
    obtain ⟨hr9, hu9⟩ := hp
    obtain rfl : r = nI (pln B k) := (hr9.trans (gOf_s hg hn (k := k) (w := 2) (by omega) (by decide)))
    rw [hu9] at h
    have q_2 := pln_le B k
    refine lv_iconst (v := nI 1) hx hcd dX4_plan_19 (by decide) ?_
    refine lv_icmp_eq (tgt := 31) hx hcd dX4_plan_20 (by decide) (fun c_3 => ?_) (fun c_3 => ?_)
    · have c_3 := cEq (tN (n := pln B k) (by omega)) (tN (n := 1) (by decide)) c_3
      refine lv_iconst (v := nI 2) hx hcd dX4_plan_31 (by decide) ?_
      refine lv_goto (tgt := 36) hx hcd dX4_plan_32 (by decide) ?_
      refine k_Vi (As := [.int (nI 2)]) (rest := []) (b := eX V 500) G hC hB h (met_X4_fails l V M (nI 2)) mw_1545 kv_X4_fails ⟨rfl, rfl⟩ ⟨Nat.le_of_ble_eq_true rfl, Nat.le_of_ble_eq_true rfl⟩ (r_mV hC h) rfl rfl hl.1 (Nat.le_of_ble_eq_true rfl) dX4_plan_36 ⟨Nat.le_of_ble_eq_true rfl, Nat.le_of_ble_eq_true rfl⟩ (fun r u H locs hp h => ?_)
      obtain ⟨hr9, hu9⟩ := hp
      obtain rfl : r = nI 1 := (hr9.trans (by decide))
      rw [hu9] at h
      refine lv_if_eq (tgt := 44) hx hcd dX4_plan_39 (by decide) (fun c_4 => absurd c_4 (by decide)) (fun _ => ?_)
      refine lv_iconst (v := nI 0) hx hcd dX4_plan_42 (by decide) ?_
      exact k_reti hQ G hret hlocks h (Or.inr (Or.inr ⟨k, hk, rfl, (fun z => by first | exact Bool.noConfusion (z.1.symm.trans (pln_t (by omega))) | exact absurd z.2 (by omega)), rfl, rfl⟩)) (Nat.le_of_ble_eq_true rfl) (Nat.le_of_ble_eq_true rfl) dX4_plan_43
    · have c_3 := cNe (tN (n := pln B k) (by omega)) (tN (n := 1) (by decide)) c_3
      refine lv_aload_n hx hcd dX4_plan_23 rfl (lv_at hl 0 rfl) ?_
      refine lv_iload_n hx hcd dX4_plan_24 rfl (lv_at hl 1 rfl) ?_
      refine k_Vi (As := [.int (nI (k))]) (rest := [.ref (eX V 500)]) (b := eX V 500) G hC hB h (met_X4_isOver l V M B hg hI0 k (by omega)) mw_1568 kv_X4_isOver ⟨rfl, rfl⟩ ⟨Nat.le_of_ble_eq_true rfl, Nat.le_of_ble_eq_true rfl⟩ (r_mV hC h) rfl rfl hl.1 (Nat.le_of_ble_eq_true rfl) dX4_plan_25 ⟨Nat.le_of_ble_eq_true rfl, Nat.le_of_ble_eq_true rfl⟩ (fun r u H locs hp h => ?_)
      obtain ⟨hr9, hu9⟩ := hp
      obtain rfl : r = bz (decide (B.1 1 k = 0)) := hr9
      rw [hu9] at h
      refine lv_if_eq (tgt := 35) hx hcd dX4_plan_28 (by decide) (fun c_5 => ?_) (fun c_5 => ?_)
      · have c_5 := bz0 c_5
        have f_7 := of_decide_eq_false c_5
        refine lv_iconst (v := nI 0) hx hcd dX4_plan_35 (by decide) ?_
        refine k_Vi (As := [.int (nI 0)]) (rest := []) (b := eX V 500) G hC hB h (met_X4_fails l V M (nI 0)) mw_1545 kv_X4_fails ⟨rfl, rfl⟩ ⟨Nat.le_of_ble_eq_true rfl, Nat.le_of_ble_eq_true rfl⟩ (r_mV hC h) rfl rfl hl.1 (Nat.le_of_ble_eq_true rfl) dX4_plan_36 ⟨Nat.le_of_ble_eq_true rfl, Nat.le_of_ble_eq_true rfl⟩ (fun r u H locs hp h => ?_)
        obtain ⟨hr9, hu9⟩ := hp
        obtain rfl : r = nI 0 := (hr9.trans (by decide))
        rw [hu9] at h
        refine lv_if_eq (tgt := 44) hx hcd dX4_plan_39 (by decide) (fun _ => ?_) (fun c_8 => absurd c_8 (by decide))
        refine lv_aload_n hx hcd dX4_plan_44 rfl (lv_at hl 0 rfl) ?_
        refine lv_aload_n hx hcd dX4_plan_45 rfl (lv_at hl 0 rfl) ?_
        refine r_mA G hC h 0 (by decide) mw_1472 dX4_plan_46 ?_
        refine k_Vv (As := [.ref (eX V (501 + 0))]) (rest := []) (b := eX V 500) G hC hB h (met_X4_keeps l V (nPut M 3 (nI 0)) 0 (Or.inl rfl) w hw hw2 c0 hc0 hc8) mw_1549 kv_X4_keeps ⟨rfl, rfl⟩ ⟨Nat.le_of_ble_eq_true rfl, Nat.le_of_ble_eq_true rfl⟩ (r_mV hC h) rfl rfl hl.1 (Nat.le_of_ble_eq_true rfl) dX4_plan_49 ⟨Nat.le_of_ble_eq_true rfl, Nat.le_of_ble_eq_true rfl⟩ (fun u H locs hp h => ?_)
        have hu9 := hp
        rw [hu9] at h
        have hg9 : (kpW (nPut M 3 (nI 0)) 0 w c0).2 0 = gOf B := (kpW_g _ _ _ _).trans hg
        refine lv_aload_n hx hcd dX4_plan_52 rfl (lv_at hl 0 rfl) ?_
        refine lv_iload_n hx hcd dX4_plan_53 rfl (lv_at hl 1 rfl) ?_
        refine lv_iconst (v := nI 2) hx hcd dX4_plan_54 (by decide) ?_
        refine lv_iconst (v := nI 1) hx hcd dX4_plan_55 (by decide) ?_
        refine k_Vv (As := [.int (nI (k)), .int (nI 2), .int (nI 1)]) (rest := []) (b := eX V 500) G hC hB h (met_X4_lays l V (kpW (nPut M 3 (nI 0)) 0 w c0) k 2 (nI 1) (by omega) (by decide)) mw_1556 kv_X4_lays ⟨rfl, rfl⟩ ⟨Nat.le_of_ble_eq_true rfl, Nat.le_of_ble_eq_true rfl⟩ (r_mV hC h) rfl rfl hl.1 (Nat.le_of_ble_eq_true rfl) dX4_plan_56 ⟨Nat.le_of_ble_eq_true rfl, Nat.le_of_ble_eq_true rfl⟩ (fun u H locs hp h => ?_)
        have hu9 := hp
        rw [hu9] at h
        rw [setG_of hg9 (upd_plan hk hn)] at h
        obtain ⟨B2, hB2⟩ : ∃ z, z = bPut B 2 (B.2 2 ||| 2 ^ k) := ⟨_, rfl⟩
        rw [← hB2] at h
        have hIB2 : bI B2 := by rw [hB2]; exact bI_pl hI0 (or16 (hz.2 2) (p16 (by omega)))
        have hgB2 : (setG (kpW (nPut M 3 (nI 0)) 0 w c0) B2).2 0 = gOf B2 := setG_g _ _
        have hk2 : k < B2.2 0 := by rw [hB2]; exact hk
        have hJB2 := hIB2
        obtain ⟨hz, hbn, hn, hm, h3, h54, h4, h7, hr, he, ha, hact, h5⟩ := hJB2
        refine lv_aload_n hx hcd dX4_plan_59 rfl (lv_at hl 0 rfl) ?_
        refine lv_iconst (v := nI 0) hx hcd dX4_plan_60 (by decide) ?_
        refine k_Vi (As := [.int (nI 0)]) (rest := []) (b := eX V 500) G hC hB h (met_X4_planned0 l V (setG (kpW (nPut M 3 (nI 0)) 0 w c0) B2) B2 hgB2 hIB2) mw_1718 kv_X4_planned ⟨rfl, rfl⟩ ⟨Nat.le_of_ble_eq_true rfl, Nat.le_of_ble_eq_true rfl⟩ (r_mV hC h) rfl rfl hl.1 (Nat.le_of_ble_eq_true rfl) dX4_plan_61 ⟨Nat.le_of_ble_eq_true rfl, Nat.le_of_ble_eq_true rfl⟩ (fun r u H locs hp h => ?_)
        obtain ⟨hr9, hu9⟩ := hp
        rw [hu9] at h
        · skip
          obtain rfl : r = nI (plS B2 0) := hr9
          have q_9 := plS_le hIB2 (c := 0) (by decide)
          exact k_reti hQ G hret hlocks h (Or.inl ⟨k, hk, rfl, ⟨pln_f (by omega), by omega⟩, by rw [hB2], by rw [hB2]⟩) (Nat.le_of_ble_eq_true rfl) (Nat.le_of_ble_eq_true rfl) dX4_plan_64
      · have c_5 := bz1 c_5
        have f_6 := of_decide_eq_true c_5
        refine lv_iconst (v := nI 2) hx hcd dX4_plan_31 (by decide) ?_
        refine lv_goto (tgt := 36) hx hcd dX4_plan_32 (by decide) ?_
        refine k_Vi (As := [.int (nI 2)]) (rest := []) (b := eX V 500) G hC hB h (met_X4_fails l V M (nI 2)) mw_1545 kv_X4_fails ⟨rfl, rfl⟩ ⟨Nat.le_of_ble_eq_true rfl, Nat.le_of_ble_eq_true rfl⟩ (r_mV hC h) rfl rfl hl.1 (Nat.le_of_ble_eq_true rfl) dX4_plan_36 ⟨Nat.le_of_ble_eq_true rfl, Nat.le_of_ble_eq_true rfl⟩ (fun r u H locs hp h => ?_)
        obtain ⟨hr9, hu9⟩ := hp
        obtain rfl : r = nI 1 := (hr9.trans (by decide))
        rw [hu9] at h
        refine lv_if_eq (tgt := 44) hx hcd dX4_plan_39 (by decide) (fun c_10 => absurd c_10 (by decide)) (fun _ => ?_)
        refine lv_iconst (v := nI 0) hx hcd dX4_plan_42 (by decide) ?_
        exact k_reti hQ G hret hlocks h (Or.inr (Or.inr ⟨k, hk, rfl, (fun z => by first | exact Bool.noConfusion (z.1.symm.trans (pln_t (by omega))) | exact absurd z.2 (by omega)), rfl, rfl⟩)) (Nat.le_of_ble_eq_true rfl) (Nat.le_of_ble_eq_true rfl) dX4_plan_43
  · skip
    obtain rfl : r = nI 0 := (hr9.trans ((congrArg bz c9).trans (by decide)))
    refine lv_if_ne (tgt := 13) hx hcd dX4_plan_6 (by decide) (fun c_11 => absurd c_11 (by decide)) (fun _ => ?_)
    refine lv_iconst (v := nI 1) hx hcd dX4_plan_9 (by decide) ?_
    refine lv_goto (tgt := 36) hx hcd dX4_plan_10 (by decide) ?_
    refine k_Vi (As := [.int (nI 1)]) (rest := []) (b := eX V 500) G hC hB h (met_X4_fails l V M (nI 1)) mw_1545 kv_X4_fails ⟨rfl, rfl⟩ ⟨Nat.le_of_ble_eq_true rfl, Nat.le_of_ble_eq_true rfl⟩ (r_mV hC h) rfl rfl hl.1 (Nat.le_of_ble_eq_true rfl) dX4_plan_36 ⟨Nat.le_of_ble_eq_true rfl, Nat.le_of_ble_eq_true rfl⟩ (fun r u H locs hp h => ?_)
    obtain ⟨hr9, hu9⟩ := hp
    obtain rfl : r = nI 1 := (hr9.trans (by decide))
    rw [hu9] at h
    refine lv_if_eq (tgt := 44) hx hcd dX4_plan_39 (by decide) (fun c_12 => absurd c_12 (by decide)) (fun _ => ?_)
    refine lv_iconst (v := nI 0) hx hcd dX4_plan_42 (by decide) ?_
    exact k_reti hQ G hret hlocks h (Or.inr (Or.inl ⟨c9, rfl, rfl⟩)) (Nat.le_of_ble_eq_true rfl) (Nat.le_of_ble_eq_true rfl) dX4_plan_43
set_option maxHeartbeats 4000000 in
set_option maxRecDepth 100000 in
/-- unplan(x) -/
theorem met_X4_unplan (l : Launch) (V : kEnv) (M : kMs) (B : kBd) (hg : M.2 0 = gOf B) (hI : bI B) (w c0 : Nat) (hw : M.1 2 = nI w) (hw2 : w < 2) (hc0 : M.1 1 = nI c0) (hc8 : c0 ≤ 8) (x : Int32) : kI l yX4_unplan cX4_unplan 2 (some .int) { frames := 2, cells := 0, slots := 0, locals := 46 } V (mWs V) [.ref (eX V 500), .int (x)] (M) (fun r u => (∃ k, k < B.2 0 ∧ x = nI k ∧ ((B.2 2).testBit k = true ∧ asgOf B k = 0) ∧ r = nI (plS (bPut B 2 (andn (B.2 2) (2 ^ k))) 0) ∧ u = setG (kpW (nPut M 3 (nI 0)) 0 w c0) (bPut B 2 (andn (B.2 2) (2 ^ k)))) ∨ (inS (B.2 0) x = false ∧ r = nI 0 ∧ u = nPut M 3 (nI 1)) ∨ (∃ k, k < B.2 0 ∧ x = nI k ∧ ¬ ((B.2 2).testBit k = true ∧ asgOf B k = 0) ∧ r = nI 0 ∧ u = nPut M 3 (nI 2))) 0 0 := by
  refine kI_of (by decide +kernel) (Nat.le_of_ble_eq_true rfl) ?_
  intro pg e s m args below meth c G hret hlocks hC hB h ls hl Q hQ
  have hl : lv_has ls 2 [(0, .ref (eX V 500)), (1, .int (x))] := hl
  have hx := G.1
  have hcd := G.2.1
  have hI0 := hI
  obtain ⟨hz, hbn, hn, hm, h3, h54, h4, h7, hr, he, ha, hact, h5⟩ := hI
  refine lv_aload_n hx hcd dX4_unplan_0 rfl (lv_at hl 0 rfl) ?_
  refine lv_aload_n hx hcd dX4_unplan_1 rfl (lv_at hl 0 rfl) ?_
  refine lv_iload_n hx hcd dX4_unplan_2 rfl (lv_at hl 1 rfl) ?_
  refine k_Vi (As := [.int (x)]) (rest := [.ref (eX V 500)]) (b := eX V 500) G hC hB h (met_X4_isStory l V M B hg hI0 x) mw_1564 kv_X4_isStory ⟨rfl, rfl⟩ ⟨Nat.le_of_ble_eq_true rfl, Nat.le_of_ble_eq_true rfl⟩ (r_mV hC h) rfl rfl hl.1 (Nat.le_of_ble_eq_true rfl) dX4_unplan_3 ⟨Nat.le_of_ble_eq_true rfl, Nat.le_of_ble_eq_true rfl⟩ (fun r u H locs hp h => ?_)
  obtain ⟨hr9, hu9⟩ := hp
  rw [hu9] at h
  rcases bsp (inS (B.2 0) x) with c9 | c9
  · skip
    obtain rfl : r = nI 1 := (hr9.trans ((congrArg bz c9).trans (by decide)))
    obtain ⟨k, hk, rfl⟩ := inS_ex (by omega) c9
    refine lv_if_ne (tgt := 13) hx hcd dX4_unplan_6 (by decide) (fun _ => ?_) (fun c_1 => absurd c_1 (by decide))
    refine lv_aload_n hx hcd dX4_unplan_13 rfl (lv_at hl 0 rfl) ?_
    refine lv_iload_n hx hcd dX4_unplan_14 rfl (lv_at hl 1 rfl) ?_
    refine lv_iconst (v := nI 2) hx hcd dX4_unplan_15 (by decide) ?_
    refine k_Vi (As := [.int (nI (k)), .int (nI 2)]) (rest := [.ref (eX V 500)]) (b := eX V 500) G hC hB h (met_X4_of l V M k 2 (by omega) (by decide)) mw_1572 kv_X4_of ⟨rfl, rfl⟩ ⟨Nat.le_of_ble_eq_true rfl, Nat.le_of_ble_eq_true rfl⟩ (r_mV hC h) rfl rfl hl.1 (Nat.le_of_ble_eq_true rfl) dX4_unplan_16 ⟨Nat.le_of_ble_eq_true rfl, Nat.le_of_ble_eq_true rfl⟩ (fun r u H locs hp h => ?_)
    obtain ⟨hr9, hu9⟩ := hp
    obtain rfl : r = nI (pln B k) := (hr9.trans (gOf_s hg hn (k := k) (w := 2) (by omega) (by decide)))
    rw [hu9] at h
    have q_2 := pln_le B k
    refine lv_if_eq (tgt := 31) hx hcd dX4_unplan_19 (by decide) (fun c_3 => ?_) (fun c_3 => ?_)
    · have c_3 := cEq (tN (n := pln B k) (by omega)) t0 c_3
      refine lv_iconst (v := nI 2) hx hcd dX4_unplan_31 (by decide) ?_
      refine lv_goto (tgt := 36) hx hcd dX4_unplan_32 (by decide) ?_
      refine k_Vi (As := [.int (nI 2)]) (rest := []) (b := eX V 500) G hC hB h (met_X4_fails l V M (nI 2)) mw_1545 kv_X4_fails ⟨rfl, rfl⟩ ⟨Nat.le_of_ble_eq_true rfl, Nat.le_of_ble_eq_true rfl⟩ (r_mV hC h) rfl rfl hl.1 (Nat.le_of_ble_eq_true rfl) dX4_unplan_36 ⟨Nat.le_of_ble_eq_true rfl, Nat.le_of_ble_eq_true rfl⟩ (fun r u H locs hp h => ?_)
      obtain ⟨hr9, hu9⟩ := hp
      obtain rfl : r = nI 1 := (hr9.trans (by decide))
      rw [hu9] at h
      refine lv_if_eq (tgt := 44) hx hcd dX4_unplan_39 (by decide) (fun c_4 => absurd c_4 (by decide)) (fun _ => ?_)
      refine lv_iconst (v := nI 0) hx hcd dX4_unplan_42 (by decide) ?_
      exact k_reti hQ G hret hlocks h (Or.inr (Or.inr ⟨k, hk, rfl, (fun z => by first | exact Bool.noConfusion (z.1.symm.trans (pln_f (by omega))) | exact absurd z.2 (by omega)), rfl, rfl⟩)) (Nat.le_of_ble_eq_true rfl) (Nat.le_of_ble_eq_true rfl) dX4_unplan_43
    · have c_3 := cNe (tN (n := pln B k) (by omega)) t0 c_3
      refine lv_aload_n hx hcd dX4_unplan_22 rfl (lv_at hl 0 rfl) ?_
      refine lv_iload_n hx hcd dX4_unplan_23 rfl (lv_at hl 1 rfl) ?_
      refine lv_iconst (v := nI 3) hx hcd dX4_unplan_24 (by decide) ?_
      refine k_Vi (As := [.int (nI (k)), .int (nI 3)]) (rest := [.ref (eX V 500)]) (b := eX V 500) G hC hB h (met_X4_of l V M k 3 (by omega) (by decide)) mw_1572 kv_X4_of ⟨rfl, rfl⟩ ⟨Nat.le_of_ble_eq_true rfl, Nat.le_of_ble_eq_true rfl⟩ (r_mV hC h) rfl rfl hl.1 (Nat.le_of_ble_eq_true rfl) dX4_unplan_25 ⟨Nat.le_of_ble_eq_true rfl, Nat.le_of_ble_eq_true rfl⟩ (fun r u H locs hp h => ?_)
      obtain ⟨hr9, hu9⟩ := hp
      obtain rfl : r = nI (asgOf B k) - 1 := (hr9.trans (gOf_s hg hn (k := k) (w := 3) (by omega) (by decide)))
      rw [hu9] at h
      have q_5 := asgOf_le B k
      refine lv_if_lt (tgt := 35) hx hcd dX4_unplan_28 (by decide) (fun c_6 => ?_) (fun c_6 => ?_)
      · have c_6 := cLt (tA (n := asgOf B k) (by omega)) t0 c_6
        refine lv_iconst (v := nI 0) hx hcd dX4_unplan_35 (by decide) ?_
        refine k_Vi (As := [.int (nI 0)]) (rest := []) (b := eX V 500) G hC hB h (met_X4_fails l V M (nI 0)) mw_1545 kv_X4_fails ⟨rfl, rfl⟩ ⟨Nat.le_of_ble_eq_true rfl, Nat.le_of_ble_eq_true rfl⟩ (r_mV hC h) rfl rfl hl.1 (Nat.le_of_ble_eq_true rfl) dX4_unplan_36 ⟨Nat.le_of_ble_eq_true rfl, Nat.le_of_ble_eq_true rfl⟩ (fun r u H locs hp h => ?_)
        obtain ⟨hr9, hu9⟩ := hp
        obtain rfl : r = nI 0 := (hr9.trans (by decide))
        rw [hu9] at h
        refine lv_if_eq (tgt := 44) hx hcd dX4_unplan_39 (by decide) (fun _ => ?_) (fun c_7 => absurd c_7 (by decide))
        refine lv_aload_n hx hcd dX4_unplan_44 rfl (lv_at hl 0 rfl) ?_
        refine lv_aload_n hx hcd dX4_unplan_45 rfl (lv_at hl 0 rfl) ?_
        refine r_mA G hC h 0 (by decide) mw_1472 dX4_unplan_46 ?_
        refine k_Vv (As := [.ref (eX V (501 + 0))]) (rest := []) (b := eX V 500) G hC hB h (met_X4_keeps l V (nPut M 3 (nI 0)) 0 (Or.inl rfl) w hw hw2 c0 hc0 hc8) mw_1549 kv_X4_keeps ⟨rfl, rfl⟩ ⟨Nat.le_of_ble_eq_true rfl, Nat.le_of_ble_eq_true rfl⟩ (r_mV hC h) rfl rfl hl.1 (Nat.le_of_ble_eq_true rfl) dX4_unplan_49 ⟨Nat.le_of_ble_eq_true rfl, Nat.le_of_ble_eq_true rfl⟩ (fun u H locs hp h => ?_)
        have hu9 := hp
        rw [hu9] at h
        have hg9 : (kpW (nPut M 3 (nI 0)) 0 w c0).2 0 = gOf B := (kpW_g _ _ _ _).trans hg
        refine lv_aload_n hx hcd dX4_unplan_52 rfl (lv_at hl 0 rfl) ?_
        refine lv_iload_n hx hcd dX4_unplan_53 rfl (lv_at hl 1 rfl) ?_
        refine lv_iconst (v := nI 2) hx hcd dX4_unplan_54 (by decide) ?_
        refine lv_iconst (v := nI 0) hx hcd dX4_unplan_55 (by decide) ?_
        refine k_Vv (As := [.int (nI (k)), .int (nI 2), .int (nI 0)]) (rest := []) (b := eX V 500) G hC hB h (met_X4_lays l V (kpW (nPut M 3 (nI 0)) 0 w c0) k 2 (nI 0) (by omega) (by decide)) mw_1556 kv_X4_lays ⟨rfl, rfl⟩ ⟨Nat.le_of_ble_eq_true rfl, Nat.le_of_ble_eq_true rfl⟩ (r_mV hC h) rfl rfl hl.1 (Nat.le_of_ble_eq_true rfl) dX4_unplan_56 ⟨Nat.le_of_ble_eq_true rfl, Nat.le_of_ble_eq_true rfl⟩ (fun u H locs hp h => ?_)
        have hu9 := hp
        rw [hu9] at h
        rw [setG_of hg9 (upd_unpl hk hn)] at h
        obtain ⟨B2, hB2⟩ : ∃ z, z = bPut B 2 (andn (B.2 2) (2 ^ k)) := ⟨_, rfl⟩
        rw [← hB2] at h
        have hIB2 : bI B2 := by rw [hB2]; exact bI_pl hI0 (andn_lt (hz.2 2))
        have hgB2 : (setG (kpW (nPut M 3 (nI 0)) 0 w c0) B2).2 0 = gOf B2 := setG_g _ _
        have hk2 : k < B2.2 0 := by rw [hB2]; exact hk
        have hJB2 := hIB2
        obtain ⟨hz, hbn, hn, hm, h3, h54, h4, h7, hr, he, ha, hact, h5⟩ := hJB2
        refine lv_aload_n hx hcd dX4_unplan_59 rfl (lv_at hl 0 rfl) ?_
        refine lv_iconst (v := nI 0) hx hcd dX4_unplan_60 (by decide) ?_
        refine k_Vi (As := [.int (nI 0)]) (rest := []) (b := eX V 500) G hC hB h (met_X4_planned0 l V (setG (kpW (nPut M 3 (nI 0)) 0 w c0) B2) B2 hgB2 hIB2) mw_1718 kv_X4_planned ⟨rfl, rfl⟩ ⟨Nat.le_of_ble_eq_true rfl, Nat.le_of_ble_eq_true rfl⟩ (r_mV hC h) rfl rfl hl.1 (Nat.le_of_ble_eq_true rfl) dX4_unplan_61 ⟨Nat.le_of_ble_eq_true rfl, Nat.le_of_ble_eq_true rfl⟩ (fun r u H locs hp h => ?_)
        obtain ⟨hr9, hu9⟩ := hp
        rw [hu9] at h
        · skip
          obtain rfl : r = nI (plS B2 0) := hr9
          have q_8 := plS_le hIB2 (c := 0) (by decide)
          exact k_reti hQ G hret hlocks h (Or.inl ⟨k, hk, rfl, ⟨pln_t (by have := pln_le B k; omega), by omega⟩, by rw [hB2], by rw [hB2]⟩) (Nat.le_of_ble_eq_true rfl) (Nat.le_of_ble_eq_true rfl) dX4_unplan_64
      · have c_6 := cNlt (tA (n := asgOf B k) (by omega)) t0 c_6
        refine lv_iconst (v := nI 2) hx hcd dX4_unplan_31 (by decide) ?_
        refine lv_goto (tgt := 36) hx hcd dX4_unplan_32 (by decide) ?_
        refine k_Vi (As := [.int (nI 2)]) (rest := []) (b := eX V 500) G hC hB h (met_X4_fails l V M (nI 2)) mw_1545 kv_X4_fails ⟨rfl, rfl⟩ ⟨Nat.le_of_ble_eq_true rfl, Nat.le_of_ble_eq_true rfl⟩ (r_mV hC h) rfl rfl hl.1 (Nat.le_of_ble_eq_true rfl) dX4_unplan_36 ⟨Nat.le_of_ble_eq_true rfl, Nat.le_of_ble_eq_true rfl⟩ (fun r u H locs hp h => ?_)
        obtain ⟨hr9, hu9⟩ := hp
        obtain rfl : r = nI 1 := (hr9.trans (by decide))
        rw [hu9] at h
        refine lv_if_eq (tgt := 44) hx hcd dX4_unplan_39 (by decide) (fun c_9 => absurd c_9 (by decide)) (fun _ => ?_)
        refine lv_iconst (v := nI 0) hx hcd dX4_unplan_42 (by decide) ?_
        exact k_reti hQ G hret hlocks h (Or.inr (Or.inr ⟨k, hk, rfl, (fun z => by first | exact Bool.noConfusion (z.1.symm.trans (pln_f (by omega))) | exact absurd z.2 (by omega)), rfl, rfl⟩)) (Nat.le_of_ble_eq_true rfl) (Nat.le_of_ble_eq_true rfl) dX4_unplan_43
  · skip
    obtain rfl : r = nI 0 := (hr9.trans ((congrArg bz c9).trans (by decide)))
    refine lv_if_ne (tgt := 13) hx hcd dX4_unplan_6 (by decide) (fun c_10 => absurd c_10 (by decide)) (fun _ => ?_)
    refine lv_iconst (v := nI 1) hx hcd dX4_unplan_9 (by decide) ?_
    refine lv_goto (tgt := 36) hx hcd dX4_unplan_10 (by decide) ?_
    refine k_Vi (As := [.int (nI 1)]) (rest := []) (b := eX V 500) G hC hB h (met_X4_fails l V M (nI 1)) mw_1545 kv_X4_fails ⟨rfl, rfl⟩ ⟨Nat.le_of_ble_eq_true rfl, Nat.le_of_ble_eq_true rfl⟩ (r_mV hC h) rfl rfl hl.1 (Nat.le_of_ble_eq_true rfl) dX4_unplan_36 ⟨Nat.le_of_ble_eq_true rfl, Nat.le_of_ble_eq_true rfl⟩ (fun r u H locs hp h => ?_)
    obtain ⟨hr9, hu9⟩ := hp
    obtain rfl : r = nI 1 := (hr9.trans (by decide))
    rw [hu9] at h
    refine lv_if_eq (tgt := 44) hx hcd dX4_unplan_39 (by decide) (fun c_11 => absurd c_11 (by decide)) (fun _ => ?_)
    refine lv_iconst (v := nI 0) hx hcd dX4_unplan_42 (by decide) ?_
    exact k_reti hQ G hret hlocks h (Or.inr (Or.inl ⟨c9, rfl, rfl⟩)) (Nat.le_of_ble_eq_true rfl) (Nat.le_of_ble_eq_true rfl) dX4_unplan_43
set_option maxHeartbeats 4000000 in
set_option maxRecDepth 100000 in
/-- unblock(x, y) -/
theorem met_X4_unblock (l : Launch) (V : kEnv) (M : kMs) (B : kBd) (hg : M.2 0 = gOf B) (hI : bI B) (w c0 : Nat) (hw : M.1 2 = nI w) (hw2 : w < 2) (hc0 : M.1 1 = nI c0) (hc8 : c0 ≤ 8) (x y : Int32) : kI l yX4_unblock cX4_unblock 3 (some .int) { frames := 3, cells := 0, slots := 0, locals := 67 } V (mWs V) [.ref (eX V 500), .int (x), .int (y)] (M) (fun r u => (∃ j k, j < B.2 0 ∧ k < B.2 0 ∧ x = nI j ∧ y = nI k ∧ (B.1 2 j).testBit k = true ∧ r = nI (brS (bSet B 2 j (andn (B.1 2 j) (2 ^ k))) j) ∧ u = setG (kpW (nPut M 3 (nI 0)) 0 w c0) (bSet B 2 j (andn (B.1 2 j) (2 ^ k)))) ∨ ((inS (B.2 0) x && inS (B.2 0) y) = false ∧ r = nI 0 ∧ u = nPut M 3 (nI 1)) ∨ (∃ j k, j < B.2 0 ∧ k < B.2 0 ∧ x = nI j ∧ y = nI k ∧ (B.1 2 j).testBit k = false ∧ r = nI 0 ∧ u = nPut M 3 (nI 2))) 0 0 := by
  refine kI_of (by decide +kernel) (Nat.le_of_ble_eq_true rfl) ?_
  intro pg e s m args below meth c G hret hlocks hC hB h ls hl Q hQ
  have hl : lv_has ls 3 [(0, .ref (eX V 500)), (1, .int (x)), (2, .int (y))] := hl
  have hx := G.1
  have hcd := G.2.1
  have hI0 := hI
  obtain ⟨hz, hbn, hn, hm, h3, h54, h4, h7, hr, he, ha, hact, h5⟩ := hI
  refine lv_aload_n hx hcd dX4_unblock_0 rfl (lv_at hl 0 rfl) ?_
  refine lv_aload_n hx hcd dX4_unblock_1 rfl (lv_at hl 0 rfl) ?_
  refine lv_iload_n hx hcd dX4_unblock_2 rfl (lv_at hl 1 rfl) ?_
  refine lv_iload_n hx hcd dX4_unblock_3 rfl (lv_at hl 2 rfl) ?_
  refine k_Vi (As := [.int (x), .int (y)]) (rest := [.ref (eX V 500)]) (b := eX V 500) G hC hB h (met_X4_areStories l V M B hg hI0 x y) mw_1587 kv_X4_areStories ⟨rfl, rfl⟩ ⟨Nat.le_of_ble_eq_true rfl, Nat.le_of_ble_eq_true rfl⟩ (r_mV hC h) rfl rfl hl.1 (Nat.le_of_ble_eq_true rfl) dX4_unblock_4 ⟨Nat.le_of_ble_eq_true rfl, Nat.le_of_ble_eq_true rfl⟩ (fun r u H locs hp h => ?_)
  obtain ⟨hr9, hu9⟩ := hp
  rw [hu9] at h
  rcases bsp (inS (B.2 0) x && inS (B.2 0) y) with c9 | c9
  · skip
    obtain rfl : r = nI 1 := (hr9.trans ((congrArg bz c9).trans (by decide)))
    obtain ⟨j, hj, rfl⟩ := inS_ex (by omega) (band_l c9)
    obtain ⟨k, hk, rfl⟩ := inS_ex (by omega) (band_r c9)
    refine lv_if_ne (tgt := 14) hx hcd dX4_unblock_7 (by decide) (fun _ => ?_) (fun c_1 => absurd c_1 (by decide))
    refine lv_aload_n hx hcd dX4_unblock_14 rfl (lv_at hl 0 rfl) ?_
    refine lv_iload_n hx hcd dX4_unblock_15 rfl (lv_at hl 1 rfl) ?_
    refine lv_iload_n hx hcd dX4_unblock_16 rfl (lv_at hl 2 rfl) ?_
    refine k_Vi (As := [.int (nI (j)), .int (nI (k))]) (rest := [.ref (eX V 500)]) (b := eX V 500) G hC hB h (met_X4_bars l V M B hg hI0 j (by omega) k (by omega)) mw_1591 kv_X4_bars ⟨rfl, rfl⟩ ⟨Nat.le_of_ble_eq_true rfl, Nat.le_of_ble_eq_true rfl⟩ (r_mV hC h) rfl rfl hl.1 (Nat.le_of_ble_eq_true rfl) dX4_unblock_17 ⟨Nat.le_of_ble_eq_true rfl, Nat.le_of_ble_eq_true rfl⟩ (fun r u H locs hp h => ?_)
    obtain ⟨hr9, hu9⟩ := hp
    obtain rfl : r = bz ((B.1 2 j).testBit k) := hr9
    rw [hu9] at h
    refine lv_if_ne (tgt := 27) hx hcd dX4_unblock_20 (by decide) (fun c_2 => ?_) (fun c_2 => ?_)
    · have c_2 := bz1 c_2
      refine lv_iconst (v := nI 0) hx hcd dX4_unblock_27 (by decide) ?_
      refine k_Vi (As := [.int (nI 0)]) (rest := []) (b := eX V 500) G hC hB h (met_X4_fails l V M (nI 0)) mw_1545 kv_X4_fails ⟨rfl, rfl⟩ ⟨Nat.le_of_ble_eq_true rfl, Nat.le_of_ble_eq_true rfl⟩ (r_mV hC h) rfl rfl hl.1 (Nat.le_of_ble_eq_true rfl) dX4_unblock_28 ⟨Nat.le_of_ble_eq_true rfl, Nat.le_of_ble_eq_true rfl⟩ (fun r u H locs hp h => ?_)
      obtain ⟨hr9, hu9⟩ := hp
      obtain rfl : r = nI 0 := (hr9.trans (by decide))
      rw [hu9] at h
      refine lv_if_eq (tgt := 36) hx hcd dX4_unblock_31 (by decide) (fun _ => ?_) (fun c_3 => absurd c_3 (by decide))
      refine lv_aload_n hx hcd dX4_unblock_36 rfl (lv_at hl 0 rfl) ?_
      refine lv_aload_n hx hcd dX4_unblock_37 rfl (lv_at hl 0 rfl) ?_
      refine r_mA G hC h 0 (by decide) mw_1472 dX4_unblock_38 ?_
      refine k_Vv (As := [.ref (eX V (501 + 0))]) (rest := []) (b := eX V 500) G hC hB h (met_X4_keeps l V (nPut M 3 (nI 0)) 0 (Or.inl rfl) w hw hw2 c0 hc0 hc8) mw_1549 kv_X4_keeps ⟨rfl, rfl⟩ ⟨Nat.le_of_ble_eq_true rfl, Nat.le_of_ble_eq_true rfl⟩ (r_mV hC h) rfl rfl hl.1 (Nat.le_of_ble_eq_true rfl) dX4_unblock_41 ⟨Nat.le_of_ble_eq_true rfl, Nat.le_of_ble_eq_true rfl⟩ (fun u H locs hp h => ?_)
      have hu9 := hp
      rw [hu9] at h
      have hg9 : (kpW (nPut M 3 (nI 0)) 0 w c0).2 0 = gOf B := (kpW_g _ _ _ _).trans hg
      refine lv_aload_n hx hcd dX4_unblock_44 rfl (lv_at hl 0 rfl) ?_
      refine lv_iload_n hx hcd dX4_unblock_45 rfl (lv_at hl 1 rfl) ?_
      refine lv_iconst (v := nI 4) hx hcd dX4_unblock_46 (by decide) ?_
      refine lv_aload_n hx hcd dX4_unblock_47 rfl (lv_at hl 0 rfl) ?_
      refine lv_iload_n hx hcd dX4_unblock_48 rfl (lv_at hl 1 rfl) ?_
      refine lv_iconst (v := nI 4) hx hcd dX4_unblock_49 (by decide) ?_
      refine k_Vi (As := [.int (nI (j)), .int (nI 4)]) (rest := [.int (nI 4), .int (nI (j)), .ref (eX V 500)]) (b := eX V 500) G hC hB h (met_X4_of l V (kpW (nPut M 3 (nI 0)) 0 w c0) j 4 (by omega) (by decide)) mw_1572 kv_X4_of ⟨rfl, rfl⟩ ⟨Nat.le_of_ble_eq_true rfl, Nat.le_of_ble_eq_true rfl⟩ (r_mV hC h) rfl rfl hl.1 (Nat.le_of_ble_eq_true rfl) dX4_unblock_50 ⟨Nat.le_of_ble_eq_true rfl, Nat.le_of_ble_eq_true rfl⟩ (fun r u H locs hp h => ?_)
      obtain ⟨hr9, hu9⟩ := hp
      obtain rfl : r = nI (B.1 2 j) := (hr9.trans (gOf_s hg9 hn (k := j) (w := 4) (by omega) (by decide)))
      rw [hu9] at h
      have q_4 := hz.1 2 j
      refine lv_iconst (v := nI 1) hx hcd dX4_unblock_53 (by decide) ?_
      refine lv_iload_n hx hcd dX4_unblock_54 rfl (lv_at hl 2 rfl) ?_
      refine w_ishl (v := nI (2 ^ k)) hx hcd dX4_unblock_55 (n_shl1 (by omega)) ?_
      refine lv_iconst (v := -1) hx hcd dX4_unblock_56 (by decide) ?_
      refine w_ixor (v := nI (2 ^ k) ^^^ (-1)) hx hcd dX4_unblock_57 rfl ?_
      refine w_iand (v := nI (andn (B.1 2 j) (2 ^ k))) hx hcd dX4_unblock_58 (n_andn (by first | omega | exact p16 (by omega) | assumption) (by first | omega | exact p16 (by omega) | assumption)) ?_
      have q_6 : andn (B.1 2 j) (2 ^ k) < 65536 := andn_lt (by first | omega | exact p16 (by omega) | assumption)
      refine k_Vv (As := [.int (nI (j)), .int (nI 4), .int (nI (andn (B.1 2 j) (2 ^ k)))]) (rest := []) (b := eX V 500) G hC hB h (met_X4_lays l V (kpW (nPut M 3 (nI 0)) 0 w c0) j 4 (nI (andn (B.1 2 j) (2 ^ k))) (by omega) (by decide)) mw_1556 kv_X4_lays ⟨rfl, rfl⟩ ⟨Nat.le_of_ble_eq_true rfl, Nat.le_of_ble_eq_true rfl⟩ (r_mV hC h) rfl rfl hl.1 (Nat.le_of_ble_eq_true rfl) dX4_unblock_59 ⟨Nat.le_of_ble_eq_true rfl, Nat.le_of_ble_eq_true rfl⟩ (fun u H locs hp h => ?_)
      have hu9 := hp
      rw [hu9] at h
      rw [setG_of hg9 (upd_bars _ hj hn)] at h
      obtain ⟨B2, hB2⟩ : ∃ z, z = bSet B 2 j (andn (B.1 2 j) (2 ^ k)) := ⟨_, rfl⟩
      rw [← hB2] at h
      have hIB2 : bI B2 := by rw [hB2]; exact bI_bars hI0 (by omega) (andn_lt (hz.1 2 j))
      have hgB2 : (setG (kpW (nPut M 3 (nI 0)) 0 w c0) B2).2 0 = gOf B2 := setG_g _ _
      have hj2 : j < B2.2 0 := by rw [hB2]; exact hj
      have hJB2 := hIB2
      obtain ⟨hz, hbn, hn, hm, h3, h54, h4, h7, hr, he, ha, hact, h5⟩ := hJB2
      refine lv_aload_n hx hcd dX4_unblock_62 rfl (lv_at hl 0 rfl) ?_
      refine lv_iload_n hx hcd dX4_unblock_63 rfl (lv_at hl 1 rfl) ?_
      refine k_Vi (As := [.int (nI (j))]) (rest := []) (b := eX V 500) G hC hB h (met_X4_barsOf l V (setG (kpW (nPut M 3 (nI 0)) 0 w c0) B2) B2 hgB2 hIB2 j (by omega)) mw_1603 kv_X4_barsOf ⟨rfl, rfl⟩ ⟨Nat.le_of_ble_eq_true rfl, Nat.le_of_ble_eq_true rfl⟩ (r_mV hC h) rfl rfl hl.1 (Nat.le_of_ble_eq_true rfl) dX4_unblock_64 ⟨Nat.le_of_ble_eq_true rfl, Nat.le_of_ble_eq_true rfl⟩ (fun r u H locs hp h => ?_)
      obtain ⟨hr9, hu9⟩ := hp
      obtain rfl : r = nI (brS B2 j) := hr9
      rw [hu9] at h
      have q_7 := brS_le hn j
      exact k_reti hQ G hret hlocks h (Or.inl ⟨j, k, hj, hk, rfl, rfl, by assumption, by rw [hB2], by rw [hB2]⟩) (Nat.le_of_ble_eq_true rfl) (Nat.le_of_ble_eq_true rfl) dX4_unblock_67
    · have c_2 := bz0 c_2
      refine lv_iconst (v := nI 2) hx hcd dX4_unblock_23 (by decide) ?_
      refine lv_goto (tgt := 28) hx hcd dX4_unblock_24 (by decide) ?_
      refine k_Vi (As := [.int (nI 2)]) (rest := []) (b := eX V 500) G hC hB h (met_X4_fails l V M (nI 2)) mw_1545 kv_X4_fails ⟨rfl, rfl⟩ ⟨Nat.le_of_ble_eq_true rfl, Nat.le_of_ble_eq_true rfl⟩ (r_mV hC h) rfl rfl hl.1 (Nat.le_of_ble_eq_true rfl) dX4_unblock_28 ⟨Nat.le_of_ble_eq_true rfl, Nat.le_of_ble_eq_true rfl⟩ (fun r u H locs hp h => ?_)
      obtain ⟨hr9, hu9⟩ := hp
      obtain rfl : r = nI 1 := (hr9.trans (by decide))
      rw [hu9] at h
      refine lv_if_eq (tgt := 36) hx hcd dX4_unblock_31 (by decide) (fun c_8 => absurd c_8 (by decide)) (fun _ => ?_)
      refine lv_iconst (v := nI 0) hx hcd dX4_unblock_34 (by decide) ?_
      exact k_reti hQ G hret hlocks h (Or.inr (Or.inr ⟨j, k, hj, hk, rfl, rfl, by first | assumption | (rw [Bool.not_eq_true] at *; assumption), rfl, rfl⟩)) (Nat.le_of_ble_eq_true rfl) (Nat.le_of_ble_eq_true rfl) dX4_unblock_35
  · skip
    obtain rfl : r = nI 0 := (hr9.trans ((congrArg bz c9).trans (by decide)))
    refine lv_if_ne (tgt := 14) hx hcd dX4_unblock_7 (by decide) (fun c_9 => absurd c_9 (by decide)) (fun _ => ?_)
    refine lv_iconst (v := nI 1) hx hcd dX4_unblock_10 (by decide) ?_
    refine lv_goto (tgt := 28) hx hcd dX4_unblock_11 (by decide) ?_
    refine k_Vi (As := [.int (nI 1)]) (rest := []) (b := eX V 500) G hC hB h (met_X4_fails l V M (nI 1)) mw_1545 kv_X4_fails ⟨rfl, rfl⟩ ⟨Nat.le_of_ble_eq_true rfl, Nat.le_of_ble_eq_true rfl⟩ (r_mV hC h) rfl rfl hl.1 (Nat.le_of_ble_eq_true rfl) dX4_unblock_28 ⟨Nat.le_of_ble_eq_true rfl, Nat.le_of_ble_eq_true rfl⟩ (fun r u H locs hp h => ?_)
    obtain ⟨hr9, hu9⟩ := hp
    obtain rfl : r = nI 1 := (hr9.trans (by decide))
    rw [hu9] at h
    refine lv_if_eq (tgt := 36) hx hcd dX4_unblock_31 (by decide) (fun c_10 => absurd c_10 (by decide)) (fun _ => ?_)
    refine lv_iconst (v := nI 0) hx hcd dX4_unblock_34 (by decide) ?_
    exact k_reti hQ G hret hlocks h (Or.inr (Or.inl ⟨c9, rfl, rfl⟩)) (Nat.le_of_ble_eq_true rfl) (Nat.le_of_ble_eq_true rfl) dX4_unblock_35
