/-! THE REFERENCE: a day passed. -/
theorem wsM_num (bar : Nat) (x : kBd × Nat) (d : Nat) : (wsM bar x d).1.2 = x.1.2 := by
  unfold wsM
  split
  · split <;> rfl
  · rfl
theorem wkM_num (B : kBd) : ∀ k, (wkM B k).1.2 = B.2
  | 0 => rfl
  | k + 1 => (wsM_num _ _ k).trans (wkM_num B k)
theorem bI_wsM {bar : Nat} {x : kBd × Nat} (h : bI x.1) {d : Nat} (hd : d < 4) : bI (wsM bar x d).1 := by
  have hr := h.2.2.2.2.2.2.2.2.1
  have hn := h.2.2.1
  have ha := h.2.2.2.2.2.2.2.2.2.2.1 d
  unfold wsM
  by_cases c : 0 < x.1.1 4 d ∧ bar.testBit (x.1.1 4 d - 1) = false
  · rw [if_pos c]
    have h1 := bI_left h (j := x.1.1 4 d - 1) (v := x.1.1 1 (x.1.1 4 d - 1) - x.1.1 3 d) (by omega) (by have := hr (x.1.1 4 d - 1); omega)
    split
    · exact bI_asg h1 hd (Nat.zero_le _)
    · exact h1
  · rw [if_neg c]; exact h
theorem bI_wkM {B : kBd} (h : bI B) : ∀ k, k ≤ 4 → bI (wkM B k).1
  | 0, _ => h
  | k + 1, hk => bI_wsM (bI_wkM h k (by omega)) (by omega)
theorem bI_pass {B : kBd} (h : bI B) (h9 : B.2 5 < B.2 4) : bI (bPut B 5 (B.2 5 + 1)) := by
  obtain ⟨hz, hbn, hn, hm, h3, g54, h4, h7, hr, he, ha, hact, h5⟩ := h
  exact ⟨kSm_put hz 5 (by omega), bN_put hbn (by decide) _, hn, hm, h3, h9, h4, h7, hr, he, ha, hact, h5⟩
theorem cpG_at (M : kMs) {q1 q2 i j : Nat} (h : j < i) : (cpG M q1 0 q2 0 i).2 q2 j = M.2 q1 j := by
  show (if q2 = q2 then (fun j => if 0 ≤ j ∧ j < 0 + i then M.2 q1 (0 + (j - 0)) else M.2 q2 j) else M.2 q2) j = _
  rw [if_pos rfl]
  show (if 0 ≤ j ∧ j < 0 + i then M.2 q1 (0 + (j - 0)) else M.2 q2 j) = _
  rw [if_pos (by omega), show 0 + (j - 0) = j by omega]
/-- the day passed, as the reference goes -/
def dayS (B : kBd) : kBd := bSet (bPut (wkM B (B.2 1)).1 5 ((wkM B (B.2 1)).1.2 5 + 1)) 5 ((bPut (wkM B (B.2 1)).1 5 ((wkM B (B.2 1)).1.2 5 + 1)).2 5) (plS (bPut (wkM B (B.2 1)).1 5 ((wkM B (B.2 1)).1.2 5 + 1)) 1)
theorem kv_X4_works : kV yX4_works cX4_works 5 (some .int) 0 := ⟨mw_1736, mw_39, mw_64, mw_1737, by decide, by decide, by decide +kernel⟩
set_option maxHeartbeats 4000000 in
set_option maxRecDepth 100000 in
/-- passDay() -/
theorem met_X4_passDay (l : Launch) (V : kEnv) (M : kMs) (B : kBd) (hg : M.2 0 = gOf B) (hI : bI B) (w c0 : Nat) (hw : M.1 2 = nI w) (hw2 : w < 2) (hc0 : M.1 1 = nI c0) (hc8 : c0 ≤ 8) (hu : bU B) : kI l yX4_passDay cX4_passDay 2 (some .int) { frames := 4, cells := 0, slots := 0, locals := 91 } V (mWs V) [.ref (eX V 500)] (M) (fun r u => (B.2 3 ≠ 0 ∧ B.2 5 ≠ B.2 4 ∧ r = nI (wkM B (B.2 1)).2 ∧ u = setG (kpW (nPut M 3 (nI 0)) 0 w c0) (dayS B)) ∨ ((B.2 3 = 0 ∨ B.2 5 = B.2 4) ∧ r = nI 0 ∧ u = nPut M 3 (nI 1))) 0 0 := by
  refine kI_of (by decide +kernel) (Nat.le_of_ble_eq_true rfl) ?_
  intro pg e s m args below meth c G hret hlocks hC hB h ls hl Q hQ
  have hl : lv_has ls 2 [(0, .ref (eX V 500))] := hl
  have hx := G.1
  have hcd := G.2.1
  have hI0 := hI
  obtain ⟨hz, hbn, hn, hm, h3, h54, h4, h7, hr, he, ha, hact, h5⟩ := hI
  refine lv_aload_n hx hcd dX4_passDay_0 rfl (lv_at hl 0 rfl) ?_
  refine lv_aload_n hx hcd dX4_passDay_1 rfl (lv_at hl 0 rfl) ?_
  refine r_mA G hC h 0 (by decide) mw_1472 dX4_passDay_2 ?_
  refine lv_iconst (v := nI 2) hx hcd dX4_passDay_5 (by decide) ?_
  refine r_mL G hC h 0 (2) (by decide) (by decide) rfl (show 2 < 115 by omega) (x := nI (B.2 3)) (gOf_n hg (f := 2) (by decide)) dX4_passDay_6 ?_
  have q_1 := hz.2 3
  refine lv_if_eq (tgt := 25) hx hcd dX4_passDay_7 (by decide) (fun c_2 => ?_) (fun c_2 => ?_)
  · have c_2 := cEq (tN (n := B.2 3) (by omega)) t0 c_2
    refine lv_iconst (v := nI 1) hx hcd dX4_passDay_25 (by decide) ?_
    refine lv_goto (tgt := 30) hx hcd dX4_passDay_26 (by decide) ?_
    refine k_Vi (As := [.int (nI 1)]) (rest := []) (b := eX V 500) G hC hB h (met_X4_fails l V M (nI 1)) mw_1545 kv_X4_fails ⟨rfl, rfl⟩ ⟨Nat.le_of_ble_eq_true rfl, Nat.le_of_ble_eq_true rfl⟩ (r_mV hC h) rfl rfl hl.1 (Nat.le_of_ble_eq_true rfl) dX4_passDay_30 ⟨Nat.le_of_ble_eq_true rfl, Nat.le_of_ble_eq_true rfl⟩ (fun r u H locs hp h => ?_)
    obtain ⟨hr9, hu9⟩ := hp
    obtain rfl : r = nI 1 := (hr9.trans (by decide))
    rw [hu9] at h
    refine lv_if_eq (tgt := 38) hx hcd dX4_passDay_33 (by decide) (fun c_3 => absurd c_3 (by decide)) (fun _ => ?_)
    refine lv_iconst (v := nI 0) hx hcd dX4_passDay_36 (by decide) ?_
    exact k_reti hQ G hret hlocks h (Or.inr ⟨by omega, rfl, rfl⟩) (Nat.le_of_ble_eq_true rfl) (Nat.le_of_ble_eq_true rfl) dX4_passDay_37
  · have c_2 := cNe (tN (n := B.2 3) (by omega)) t0 c_2
    refine lv_aload_n hx hcd dX4_passDay_10 rfl (lv_at hl 0 rfl) ?_
    refine r_mA G hC h 0 (by decide) mw_1472 dX4_passDay_11 ?_
    refine lv_iconst (v := nI 4) hx hcd dX4_passDay_14 (by decide) ?_
    refine r_mL G hC h 0 (4) (by decide) (by decide) rfl (show 4 < 115 by omega) (x := nI (B.2 5)) (gOf_n hg (f := 4) (by decide)) dX4_passDay_15 ?_
    have q_4 := hz.2 5
    refine lv_aload_n hx hcd dX4_passDay_16 rfl (lv_at hl 0 rfl) ?_
    refine r_mA G hC h 0 (by decide) mw_1472 dX4_passDay_17 ?_
    refine lv_iconst (v := nI 3) hx hcd dX4_passDay_20 (by decide) ?_
    refine r_mL G hC h 0 (3) (by decide) (by decide) rfl (show 3 < 115 by omega) (x := nI (B.2 4)) (gOf_n hg (f := 3) (by decide)) dX4_passDay_21 ?_
    have q_5 := hz.2 4
    refine lv_icmp_ne (tgt := 29) hx hcd dX4_passDay_22 (by decide) (fun c_6 => ?_) (fun c_6 => ?_)
    · have c_6 := cNe (tN (n := B.2 5) (by omega)) (tN (n := B.2 4) (by omega)) c_6
      refine lv_iconst (v := nI 0) hx hcd dX4_passDay_29 (by decide) ?_
      refine k_Vi (As := [.int (nI 0)]) (rest := []) (b := eX V 500) G hC hB h (met_X4_fails l V M (nI 0)) mw_1545 kv_X4_fails ⟨rfl, rfl⟩ ⟨Nat.le_of_ble_eq_true rfl, Nat.le_of_ble_eq_true rfl⟩ (r_mV hC h) rfl rfl hl.1 (Nat.le_of_ble_eq_true rfl) dX4_passDay_30 ⟨Nat.le_of_ble_eq_true rfl, Nat.le_of_ble_eq_true rfl⟩ (fun r u H locs hp h => ?_)
      obtain ⟨hr9, hu9⟩ := hp
      obtain rfl : r = nI 0 := (hr9.trans (by decide))
      rw [hu9] at h
      refine lv_if_eq (tgt := 38) hx hcd dX4_passDay_33 (by decide) (fun _ => ?_) (fun c_7 => absurd c_7 (by decide))
      have hlt : B.2 5 < B.2 4 := by omega
      have hne3 : B.2 3 ≠ 0 := by omega
      have hne5 : B.2 5 ≠ B.2 4 := by omega
      refine lv_aload_n hx hcd dX4_passDay_38 rfl (lv_at hl 0 rfl) ?_
      refine lv_aload_n hx hcd dX4_passDay_39 rfl (lv_at hl 0 rfl) ?_
      refine r_mA G hC h 0 (by decide) mw_1472 dX4_passDay_40 ?_
      refine k_Vv (As := [.ref (eX V (501 + 0))]) (rest := []) (b := eX V 500) G hC hB h (met_X4_keeps l V (nPut M 3 (nI 0)) 0 (Or.inl rfl) w hw hw2 c0 hc0 hc8) mw_1549 kv_X4_keeps ⟨rfl, rfl⟩ ⟨Nat.le_of_ble_eq_true rfl, Nat.le_of_ble_eq_true rfl⟩ (r_mV hC h) rfl rfl hl.1 (Nat.le_of_ble_eq_true rfl) dX4_passDay_43 ⟨Nat.le_of_ble_eq_true rfl, Nat.le_of_ble_eq_true rfl⟩ (fun u H locs hp h => ?_)
      have hu9 := hp
      rw [hu9] at h
      have hg9 : (kpW (nPut M 3 (nI 0)) 0 w c0).2 0 = gOf B := (kpW_g _ _ _ _).trans hg
      refine lv_aload_n hx hcd dX4_passDay_46 rfl (lv_at hl 0 rfl) ?_
      refine k_Vi (As := []) (rest := []) (b := eX V 500) G hC hB h (met_X4_works l V (kpW (nPut M 3 (nI 0)) 0 w c0) B hg9 hI0 hu) mw_1734 kv_X4_works ⟨rfl, rfl⟩ ⟨Nat.le_of_ble_eq_true rfl, Nat.le_of_ble_eq_true rfl⟩ (r_mV hC h) rfl rfl hl.1 (Nat.le_of_ble_eq_true rfl) dX4_passDay_47 ⟨Nat.le_of_ble_eq_true rfl, Nat.le_of_ble_eq_true rfl⟩ (fun r u H locs hp h => ?_)
      obtain ⟨hr9, hu9⟩ := hp
      obtain rfl : r = nI ((wkM B (B.2 1)).2) := hr9
      rw [hu9] at h
      obtain ⟨B2, hB2⟩ : ∃ z, z = (wkM B (B.2 1)).1 := ⟨_, rfl⟩
      rw [← hB2] at h
      have hIB2 : bI B2 := by rw [hB2]; exact bI_wkM hI0 _ hm
      have hgB2 : (setG (kpW (nPut M 3 (nI 0)) 0 w c0) B2).2 0 = gOf B2 := setG_g _ _
      have hN2 : B2.2 = B.2 := by rw [hB2]; exact wkM_num B _
      have hlt2 : B2.2 5 < B2.2 4 := by rw [hN2]; exact hlt
      have hJB2 := hIB2
      obtain ⟨hz, hbn, hn, hm, h3, h54, h4, h7, hr, he, ha, hact, h5⟩ := hJB2
      refine lv_istore_n (lv' := [(1, .int (nI ((wkM B (B.2 1)).2))), (0, .ref (eX V 500))]) hx hcd dX4_passDay_50 rfl hl (by decide) rfl (fun ls hl => ?_)
      refine lv_aload_n hx hcd dX4_passDay_51 rfl (lv_at hl 1 rfl) ?_
      refine r_mA G hC h 0 (by decide) mw_1472 dX4_passDay_52 ?_
      refine lv_iconst (v := nI 4) hx hcd dX4_passDay_55 (by decide) ?_
      refine lv_dup2_11 hx hcd dX4_passDay_56 rfl rfl ?_
      refine r_mL G hC h 0 (4) (by decide) (by decide) rfl (show 4 < 115 by omega) (x := nI (B2.2 5)) (gOf_n hgB2 (f := 4) (by decide)) dX4_passDay_57 ?_
      have q_8 := hz.2 5
      refine lv_iconst (v := nI 1) hx hcd dX4_passDay_58 (by decide) ?_
      refine w_iadd (v := nI ((B2.2 5) + 1)) hx hcd dX4_passDay_59 (nI_add _ _) ?_
      refine r_mT G hC h 0 (4) (by decide) (by decide) rfl (show 4 < 115 by omega) rfl dX4_passDay_60 (fun H locs h => ?_)
      rw [setG_up (show upd (gOf B2) 4 (nI (B2.2 5 + 1)) = gOf (bPut B2 5 (B2.2 5 + 1)) from upd_num (f := 4) _ (by decide) (by decide))] at h
      obtain ⟨B3, hB3⟩ : ∃ z, z = bPut B2 5 (B2.2 5 + 1) := ⟨_, rfl⟩
      rw [← hB3] at h
      have hIB3 : bI B3 := by rw [hB3]; exact bI_pass hIB2 hlt2
      have hgB3 : (setG (kpW (nPut M 3 (nI 0)) 0 w c0) B3).2 0 = gOf B3 := setG_g _ _
      have hJB3 := hIB3
      obtain ⟨hz, hbn, hn, hm, h3, h54, h4, h7, hr, he, ha, hact, h5⟩ := hJB3
      refine lv_aload_n hx hcd dX4_passDay_61 rfl (lv_at hl 1 rfl) ?_
      refine r_mA G hC h 0 (by decide) mw_1472 dX4_passDay_62 ?_
      refine lv_bipush (v := nI 104) hx hcd dX4_passDay_65 (by decide) ?_
      refine lv_aload_n hx hcd dX4_passDay_67 rfl (lv_at hl 1 rfl) ?_
      refine r_mA G hC h 0 (by decide) mw_1472 dX4_passDay_68 ?_
      refine lv_iconst (v := nI 4) hx hcd dX4_passDay_71 (by decide) ?_
      refine r_mL G hC h 0 (4) (by decide) (by decide) rfl (show 4 < 115 by omega) (x := nI (B3.2 5)) (gOf_n hgB3 (f := 4) (by decide)) dX4_passDay_72 ?_
      have q_10 := hz.2 5
      refine w_iadd (v := nI (104 + (B3.2 5))) hx hcd dX4_passDay_73 (nI_add _ _) ?_
      refine lv_aload_n hx hcd dX4_passDay_74 rfl (lv_at hl 1 rfl) ?_
      refine lv_iconst (v := nI 1) hx hcd dX4_passDay_75 (by decide) ?_
      refine k_Vi (As := [.int (nI 1)]) (rest := [.int (nI (104 + (B3.2 5))), .ref (eX V (501 + 0))]) (b := eX V 500) G hC hB h (met_X4_planned1 l V (setG (kpW (nPut M 3 (nI 0)) 0 w c0) B3) B3 hgB3 hIB3) mw_1718 kv_X4_planned ⟨rfl, rfl⟩ ⟨Nat.le_of_ble_eq_true rfl, Nat.le_of_ble_eq_true rfl⟩ (r_mV hC h) rfl rfl hl.1 (Nat.le_of_ble_eq_true rfl) dX4_passDay_76 ⟨Nat.le_of_ble_eq_true rfl, Nat.le_of_ble_eq_true rfl⟩ (fun r u H locs hp h => ?_)
      obtain ⟨hr9, hu9⟩ := hp
      rw [hu9] at h
      · skip
        obtain rfl : r = nI (plS B3 1) := hr9
        have q_12 := plS_le hIB3 (c := 1) (by decide)
        refine r_mT G hC h 0 (104 + (B3.2 5)) (by decide) (by decide) rfl (show 104 + (B3.2 5) < 115 by omega) rfl dX4_passDay_79 (fun H locs h => ?_)
        rw [setG_up (upd_burn _ (by omega))] at h
        obtain ⟨B4, hB4⟩ : ∃ z, z = bSet B3 5 (B3.2 5) (plS B3 1) := ⟨_, rfl⟩
        rw [← hB4] at h
        have hIB4 : bI B4 := by rw [hB4]; exact bI_burn hIB3 (by omega) (plS_le hIB3 (by decide))
        have hgB4 : (setG (kpW (nPut M 3 (nI 0)) 0 w c0) B4).2 0 = gOf B4 := setG_g _ _
        have hJB4 := hIB4
        obtain ⟨hz, hbn, hn, hm, h3, h54, h4, h7, hr, he, ha, hact, h5⟩ := hJB4
        refine lv_iload_n hx hcd dX4_passDay_80 rfl (lv_at hl 0 rfl) ?_
        exact k_reti hQ G hret hlocks h (Or.inl ⟨hne3, hne5, rfl, by subst hB4; subst hB3; subst hB2; rfl⟩) (Nat.le_of_ble_eq_true rfl) (Nat.le_of_ble_eq_true rfl) dX4_passDay_81
    · have c_6 := cEq (tN (n := B.2 5) (by omega)) (tN (n := B.2 4) (by omega)) c_6
      refine lv_iconst (v := nI 1) hx hcd dX4_passDay_25 (by decide) ?_
      refine lv_goto (tgt := 30) hx hcd dX4_passDay_26 (by decide) ?_
      refine k_Vi (As := [.int (nI 1)]) (rest := []) (b := eX V 500) G hC hB h (met_X4_fails l V M (nI 1)) mw_1545 kv_X4_fails ⟨rfl, rfl⟩ ⟨Nat.le_of_ble_eq_true rfl, Nat.le_of_ble_eq_true rfl⟩ (r_mV hC h) rfl rfl hl.1 (Nat.le_of_ble_eq_true rfl) dX4_passDay_30 ⟨Nat.le_of_ble_eq_true rfl, Nat.le_of_ble_eq_true rfl⟩ (fun r u H locs hp h => ?_)
      obtain ⟨hr9, hu9⟩ := hp
      obtain rfl : r = nI 1 := (hr9.trans (by decide))
      rw [hu9] at h
      refine lv_if_eq (tgt := 38) hx hcd dX4_passDay_33 (by decide) (fun c_13 => absurd c_13 (by decide)) (fun _ => ?_)
      refine lv_iconst (v := nI 0) hx hcd dX4_passDay_36 (by decide) ?_
      exact k_reti hQ G hret hlocks h (Or.inr ⟨by omega, rfl, rfl⟩) (Nat.le_of_ble_eq_true rfl) (Nat.le_of_ble_eq_true rfl) dX4_passDay_37
set_option maxHeartbeats 4000000 in
set_option maxRecDepth 100000 in
/-- isConsistent() -/
theorem met_X4_isConsistent (l : Launch) (V : kEnv) (M : kMs) (B : kBd) (hg : M.2 0 = gOf B) (hI : bI B) : kI l yX4_isConsistent cX4_isConsistent 2 (some .boolean) { frames := 3, cells := 0, slots := 0, locals := 68 } V (mWs V) [.ref (eX V 500)] (M) (fun r u => ((r = nI 1 ∧ ∀ k, k < B.2 0 → (und B k).testBit k = false) ∨ (r = nI 0 ∧ ∃ k, k < B.2 0 ∧ (und B k).testBit k = true)) ∧ u = nPut M 3 (nI 0)) 0 0 := by
  refine kI_of (by decide +kernel) (Nat.le_of_ble_eq_true rfl) ?_
  intro pg e s m args below meth c G hret hlocks hC hB h ls hl Q hQ
  have hl : lv_has ls 2 [(0, .ref (eX V 500))] := hl
  have hx := G.1
  have hcd := G.2.1
  have hI0 := hI
  obtain ⟨hz, hbn, hn, hm, h3, h54, h4, h7, hr, he, ha, hact, h5⟩ := hI
  refine lv_aload_n hx hcd dX4_isConsistent_0 rfl (lv_at hl 0 rfl) ?_
  refine lv_iconst (v := nI 0) hx hcd dX4_isConsistent_1 (by decide) ?_
  refine r_mP G hC h 3 (by decide) mw_1479 (fun z => absurd z (by decide)) rfl dX4_isConsistent_2 (fun H locs h => ?_)
  refine lv_iconst (v := nI 0) hx hcd dX4_isConsistent_5 (by decide) ?_
  refine lv_istore_n (lv' := [(1, .int (nI 0)), (0, .ref (eX V 500))]) hx hcd dX4_isConsistent_6 rfl hl (by decide) rfl (fun ls hl => ?_)
  have L_1 : ∀ (fu_3 : Nat) (i : Nat) (hi : i ≤ B.2 0) (hA : ∀ k, k < i → (und B k).testBit k = false), B.2 0 - i < fu_3 → ∀ (H : Heap) (locs : List Loc), cH V s H locs (mWs V (nPut M 3 (nI 0))) → ∀ ls : Array Slot, lv_has ls 2 [(1, .int (nI (i))), (0, .ref (eX V 500))] → W pg l e { frames := 3, cells := 0, slots := 0, locals := 68 } s m args below meth c H locs 0 0 Q (F0 m 7 ls []) := by
    intro fu_3
    induction fu_3 with
    | zero => intro i hi hA hm; exact absurd hm (Nat.not_lt_zero _)
    | succ fu_3 ih_2 =>
      intro i hi hA hm H locs h ls hl
      refine lv_iload_n hx hcd dX4_isConsistent_7 rfl (lv_at hl 0 rfl) ?_
      refine lv_aload_n hx hcd dX4_isConsistent_8 rfl (lv_at hl 1 rfl) ?_
      refine r_mA G hC h 0 (by decide) mw_1472 dX4_isConsistent_9 ?_
      refine lv_iconst (v := nI 0) hx hcd dX4_isConsistent_12 (by decide) ?_
      refine r_mL G hC h 0 (0) (by decide) (by decide) rfl (show 0 < 115 by omega) (x := nI (B.2 0)) (gOf_n hg (f := 0) (by decide)) dX4_isConsistent_13 ?_
      have q_4 := hz.2 0
      refine lv_icmp_ge (tgt := 34) hx hcd dX4_isConsistent_14 (by decide) (fun c_5 => ?_) (fun c_5 => ?_)
      · have c_5 := cLe (tN (n := B.2 0) (by omega)) (tN (n := i) (by omega)) c_5
        refine lv_iconst (v := nI 1) hx hcd dX4_isConsistent_34 (by decide) ?_
        exact k_retz hQ G hret hlocks h (Or.inr rfl) (⟨Or.inl ⟨rfl, fun k z => hA k (by omega)⟩, rfl⟩) (Nat.le_of_ble_eq_true rfl) (Nat.le_of_ble_eq_true rfl) dX4_isConsistent_35
      · have c_5 := cNle (tN (n := B.2 0) (by omega)) (tN (n := i) (by omega)) c_5
        refine lv_aload_n hx hcd dX4_isConsistent_17 rfl (lv_at hl 1 rfl) ?_
        refine lv_iload_n hx hcd dX4_isConsistent_18 rfl (lv_at hl 0 rfl) ?_
        refine lv_iload_n hx hcd dX4_isConsistent_19 rfl (lv_at hl 0 rfl) ?_
        refine k_Vi (As := [.int (nI (i)), .int (nI (i))]) (rest := []) (b := eX V 500) G hC hB h (met_X4_depends l V (nPut M 3 (nI 0)) B hg hI0 i (by omega) i (by omega)) mw_1595 kv_X4_depends ⟨rfl, rfl⟩ ⟨Nat.le_of_ble_eq_true rfl, Nat.le_of_ble_eq_true rfl⟩ (r_mV hC h) rfl rfl hl.1 (Nat.le_of_ble_eq_true rfl) dX4_isConsistent_20 ⟨Nat.le_of_ble_eq_true rfl, Nat.le_of_ble_eq_true rfl⟩ (fun r u H locs hp h => ?_)
        obtain ⟨hr9, hu9⟩ := hp
        obtain rfl : r = bz ((und B i).testBit i) := hr9
        rw [hu9] at h
        refine lv_if_eq (tgt := 28) hx hcd dX4_isConsistent_23 (by decide) (fun c_6 => ?_) (fun c_6 => ?_)
        · have c_6 := bz0 c_6
          refine lv_iinc (v := nI (i + 1)) (lv' := [(1, .int (nI (i + 1))), (0, .ref (eX V 500))]) hx hcd dX4_isConsistent_28 hl (k := 0) rfl (by exact nI_add (i) 1) (by decide) rfl (fun ls hl => ?_)
          refine lv_goto (tgt := 7) hx hcd dX4_isConsistent_31 (by decide) ?_
          exact ih_2 (i + 1) (by omega) (fun k z => by rcases Nat.lt_or_ge k i with y | y; exact hA k y; rw [show k = i by omega]; first | assumption | (rw [Bool.not_eq_true] at *; assumption)) (by omega) _ _ h _ (lv_sub hl [0, 1] rfl)
        · have c_6 := bz1 c_6
          refine lv_iconst (v := nI 0) hx hcd dX4_isConsistent_26 (by decide) ?_
          exact k_retz hQ G hret hlocks h (Or.inl rfl) (⟨Or.inr ⟨rfl, i, by omega, by assumption⟩, rfl⟩) (Nat.le_of_ble_eq_true rfl) (Nat.le_of_ble_eq_true rfl) dX4_isConsistent_27
  exact L_1 (B.2 0 + 1) 0 (Nat.zero_le _) (fun k z => absurd z (Nat.not_lt_zero k)) (by omega) _ _ h _ (lv_sub hl [0, 1] rfl)
set_option maxHeartbeats 4000000 in
set_option maxRecDepth 100000 in
/-- restore() -/
theorem met_X4_restore (l : Launch) (V : kEnv) (M : kMs) (B : kBd) (hs : M.2 2 = gOf B) (hI : bI B) (s0 : Nat) (h0 : M.1 0 = nI s0) (hs2 : s0 < 2) : kI l yX4_restore cX4_restore 1 (some .int) { frames := 1, cells := 0, slots := 0, locals := 24 } V (mWs V) [.ref (eX V 500)] (M) (fun r u => (s0 ≠ 0 ∧ r = nI (B.2 0) ∧ u = nPut (cpG (nPut M 3 (nI 0)) 2 0 0 0 115) 1 (nI 0)) ∨ (s0 = 0 ∧ r = nI 0 ∧ u = nPut M 3 (nI 1))) 0 0 := by
  refine kI_of (by decide +kernel) (Nat.le_of_ble_eq_true rfl) ?_
  intro pg e s m args below meth c G hret hlocks hC hB h ls hl Q hQ
  have hl : lv_has ls 1 [(0, .ref (eX V 500))] := hl
  have hx := G.1
  have hcd := G.2.1
  refine lv_aload_n hx hcd dX4_restore_0 rfl (lv_at hl 0 rfl) ?_
  refine lv_aload_n hx hcd dX4_restore_1 rfl (lv_at hl 0 rfl) ?_
  refine r_mN G hC h 0 (by decide) mw_1476 (x := nI (s0)) h0 dX4_restore_2 ?_
  refine lv_if_eq (tgt := 12) hx hcd dX4_restore_5 (by decide) (fun c_1 => ?_) (fun c_1 => ?_)
  · have c_1 := cEq (tN (n := s0) (by omega)) t0 c_1
    refine lv_iconst (v := nI 1) hx hcd dX4_restore_12 (by decide) ?_
    refine k_Vi (As := [.int (nI 1)]) (rest := []) (b := eX V 500) G hC hB h (met_X4_fails l V M (nI 1)) mw_1545 kv_X4_fails ⟨rfl, rfl⟩ ⟨Nat.le_of_ble_eq_true rfl, Nat.le_of_ble_eq_true rfl⟩ (r_mV hC h) rfl rfl hl.1 (Nat.le_of_ble_eq_true rfl) dX4_restore_13 ⟨Nat.le_of_ble_eq_true rfl, Nat.le_of_ble_eq_true rfl⟩ (fun r u H locs hp h => ?_)
    obtain ⟨hr9, hu9⟩ := hp
    obtain rfl : r = nI 1 := (hr9.trans (by decide))
    rw [hu9] at h
    refine lv_if_eq (tgt := 21) hx hcd dX4_restore_16 (by decide) (fun c_2 => absurd c_2 (by decide)) (fun _ => ?_)
    refine lv_iconst (v := nI 0) hx hcd dX4_restore_19 (by decide) ?_
    exact k_reti hQ G hret hlocks h (Or.inr ⟨by omega, rfl, rfl⟩) (Nat.le_of_ble_eq_true rfl) (Nat.le_of_ble_eq_true rfl) dX4_restore_20
  · have c_1 := cNe (tN (n := s0) (by omega)) t0 c_1
    refine lv_iconst (v := nI 0) hx hcd dX4_restore_8 (by decide) ?_
    refine lv_goto (tgt := 13) hx hcd dX4_restore_9 (by decide) ?_
    refine k_Vi (As := [.int (nI 0)]) (rest := []) (b := eX V 500) G hC hB h (met_X4_fails l V M (nI 0)) mw_1545 kv_X4_fails ⟨rfl, rfl⟩ ⟨Nat.le_of_ble_eq_true rfl, Nat.le_of_ble_eq_true rfl⟩ (r_mV hC h) rfl rfl hl.1 (Nat.le_of_ble_eq_true rfl) dX4_restore_13 ⟨Nat.le_of_ble_eq_true rfl, Nat.le_of_ble_eq_true rfl⟩ (fun r u H locs hp h => ?_)
    obtain ⟨hr9, hu9⟩ := hp
    obtain rfl : r = nI 0 := (hr9.trans (by decide))
    rw [hu9] at h
    refine lv_if_eq (tgt := 21) hx hcd dX4_restore_16 (by decide) (fun _ => ?_) (fun c_3 => absurd c_3 (by decide))
    refine lv_aload_n hx hcd dX4_restore_21 rfl (lv_at hl 0 rfl) ?_
    refine r_mA G hC h 2 (by decide) mw_1474 dX4_restore_22 ?_
    refine lv_iconst (v := nI 0) hx hcd dX4_restore_25 (by decide) ?_
    refine lv_aload_n hx hcd dX4_restore_26 rfl (lv_at hl 0 rfl) ?_
    refine r_mA G hC h 0 (by decide) mw_1472 dX4_restore_27 ?_
    refine lv_iconst (v := nI 0) hx hcd dX4_restore_30 (by decide) ?_
    refine k_Sv (As := [.ref (eX V (501 + 2)), .int (nI 0), .ref (eX V (501 + 0)), .int (nI 0)]) (rest := []) G hC hB h (met_X4_copies l V (nPut M 3 (nI 0)) 2 0 0 0 (by decide) (by decide) (by decide) (by decide) (by decide) (by decide) (by decide)) mw_1553 ks_X4_copies ⟨rfl, rfl⟩ ⟨Nat.le_of_ble_eq_true rfl, Nat.le_of_ble_eq_true rfl⟩ rfl rfl hl.1 (Nat.le_of_ble_eq_true rfl) dX4_restore_31 ⟨Nat.le_of_ble_eq_true rfl, Nat.le_of_ble_eq_true rfl⟩ (fun u H locs hp h => ?_)
    have hu9 := hp
    rw [hu9] at h
    refine lv_aload_n hx hcd dX4_restore_34 rfl (lv_at hl 0 rfl) ?_
    refine lv_iconst (v := nI 0) hx hcd dX4_restore_35 (by decide) ?_
    refine r_mP G hC h 1 (by decide) mw_1477 (fun z => absurd z (by decide)) rfl dX4_restore_36 (fun H locs h => ?_)
    refine lv_aload_n hx hcd dX4_restore_39 rfl (lv_at hl 0 rfl) ?_
    refine r_mA G hC h 0 (by decide) mw_1472 dX4_restore_40 ?_
    refine lv_iconst (v := nI 0) hx hcd dX4_restore_43 (by decide) ?_
    refine r_mL G hC h 0 (0) (by decide) (by decide) rfl (show 0 < 115 by omega) (x := nI (B.2 0)) ((cpG_at (nPut M 3 (nI 0)) (q1 := 2) (q2 := 0) (i := 115) (j := 0) (by decide)).trans (gOf_n hs (f := 0) (by decide))) dX4_restore_44 ?_
    exact k_reti hQ G hret hlocks h (Or.inl ⟨by omega, rfl, rfl⟩) (Nat.le_of_ble_eq_true rfl) (Nat.le_of_ble_eq_true rfl) dX4_restore_45
