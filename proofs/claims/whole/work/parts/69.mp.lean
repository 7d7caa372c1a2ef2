/-! THE REFERENCE: days of a story. -/
theorem neN_le {B : kBd} (hA : bA B) (g0 : Nat → Nat) {k : Nat} (hk : k < B.2 0) : neN B g0 (B.2 0) k ≤ 53 := by rw [neN_nd hA g0 hk]; exact ndT_le hA hk
theorem kv_X4_finishes : kV yX4_finishes cX4_finishes 2 (some .int) 1 := ⟨mw_1800, mw_41, mw_64, mw_1801, by decide, by decide, by decide +kernel⟩
theorem kv_X4_needs : kV yX4_needs cX4_needs 6 none 0 := ⟨mw_1804, mw_42, mw_64, mw_1805, by decide, by decide, by decide +kernel⟩
set_option maxHeartbeats 4000000 in
set_option maxRecDepth 100000 in
/-- finishes(x) -/
theorem met_X4_finishes (l : Launch) (V : kEnv) (M : kMs) (B : kBd) (hg : M.2 0 = gOf B) (hA : bA B) (x : Int32) (g0 : Nat → Nat) (hg0 : M.2 7 = fun k => nI (g0 k) - 1) : kI l yX4_finishes cX4_finishes 2 (some .int) { frames := 3, cells := 0, slots := 0, locals := 69 } V (mWs V) [.ref (eX V 500), .int (x)] (M) (fun r u => (∃ k, k < B.2 0 ∧ x = nI k ∧ neN B g0 (B.2 0) k ≠ 0 ∧ r = nI (neN B g0 (B.2 0) k) - 1 ∧ u = nPut (ndW (nPut M 3 (nI 0)) (neN B g0 (B.2 0))) 3 (nI 0)) ∨ (inS (B.2 0) x = false ∧ r = nI 0 ∧ u = nPut M 3 (nI 1)) ∨ (∃ k, k < B.2 0 ∧ x = nI k ∧ neN B g0 (B.2 0) k = 0 ∧ r = nI 0 ∧ u = nPut (ndW (nPut M 3 (nI 0)) (neN B g0 (B.2 0))) 3 (nI 2))) 0 0 := by
  refine kI_of (by decide +kernel) (Nat.le_of_ble_eq_true rfl) ?_
  intro pg e s m args below meth c G hret hlocks hC hB h ls hl Q hQ
  have hl : lv_has ls 2 [(0, .ref (eX V 500)), (1, .int (x))] := hl
  have hx := G.1
  have hcd := G.2.1
  have hI := hA.1
  have hI0 := hI
  have hu := hA.2.1
  have hv := hA.2.2.1
  have hw9 := hA.2.2.2.1
  have hR := bA_R hA
  obtain ⟨hz, hbn, hn, hm, h3, h54, h4, h7, hr, he, ha, hact, h5⟩ := hI
  refine lv_aload_n hx hcd dX4_finishes_0 rfl (lv_at hl 0 rfl) ?_
  refine lv_iload_n hx hcd dX4_finishes_1 rfl (lv_at hl 1 rfl) ?_
  refine k_Vi (As := [.int (x)]) (rest := []) (b := eX V 500) G hC hB h (met_X4_isNone l V M B hg hI0 x) mw_1619 kv_X4_isNone ⟨rfl, rfl⟩ ⟨Nat.le_of_ble_eq_true rfl, Nat.le_of_ble_eq_true rfl⟩ (r_mV hC h) rfl rfl hl.1 (Nat.le_of_ble_eq_true rfl) dX4_finishes_2 ⟨Nat.le_of_ble_eq_true rfl, Nat.le_of_ble_eq_true rfl⟩ (fun r u H locs hp h => ?_)
  rcases hp with ⟨k_1, hk_2, rfl, rfl, hu9⟩ | ⟨c9, rfl, hu9⟩
  · skip
    rw [hu9] at h
    refine lv_if_eq (tgt := 10) hx hcd dX4_finishes_5 (by decide) (fun _ => ?_) (fun c_3 => absurd c_3 (by decide))
    refine lv_aload_n hx hcd dX4_finishes_10 rfl (lv_at hl 0 rfl) ?_
    refine k_Vv (As := []) (rest := []) (b := eX V 500) G hC hB h (met_X4_needs l V (nPut M 3 (nI 0)) B hg hI0 g0 hg0 hR hv hw9) mw_1802 kv_X4_needs ⟨rfl, rfl⟩ ⟨Nat.le_of_ble_eq_true rfl, Nat.le_of_ble_eq_true rfl⟩ (r_mV hC h) rfl rfl hl.1 (Nat.le_of_ble_eq_true rfl) dX4_finishes_11 ⟨Nat.le_of_ble_eq_true rfl, Nat.le_of_ble_eq_true rfl⟩ (fun u H locs hp h => ?_)
    have hu9 := hp
    rw [hu9] at h
    refine lv_aload_n hx hcd dX4_finishes_14 rfl (lv_at hl 0 rfl) ?_
    refine lv_aload_n hx hcd dX4_finishes_15 rfl (lv_at hl 0 rfl) ?_
    refine r_mA G hC h 7 (by decide) mw_1487 dX4_finishes_16 ?_
    refine lv_iload_n hx hcd dX4_finishes_19 rfl (lv_at hl 1 rfl) ?_
    refine r_mL G hC h 7 (k_1) (by decide) (by decide) rfl (show k_1 < 16 by omega) (x := nI (neN B g0 (B.2 0) k_1) - 1) rfl dX4_finishes_20 ?_
    have q_4 := neN_le hA g0 (k := k_1) (by omega)
    refine lv_if_ge (tgt := 28) hx hcd dX4_finishes_21 (by decide) (fun c_5 => ?_) (fun c_5 => ?_)
    · have c_5 := cLe t0 (tA (n := neN B g0 (B.2 0) k_1) (by omega)) c_5
      refine lv_iconst (v := nI 0) hx hcd dX4_finishes_28 (by decide) ?_
      refine k_Vi (As := [.int (nI 0)]) (rest := []) (b := eX V 500) G hC hB h (met_X4_fails l V (ndW (nPut M 3 (nI 0)) (neN B g0 (B.2 0))) (nI 0)) mw_1545 kv_X4_fails ⟨rfl, rfl⟩ ⟨Nat.le_of_ble_eq_true rfl, Nat.le_of_ble_eq_true rfl⟩ (r_mV hC h) rfl rfl hl.1 (Nat.le_of_ble_eq_true rfl) dX4_finishes_29 ⟨Nat.le_of_ble_eq_true rfl, Nat.le_of_ble_eq_true rfl⟩ (fun r u H locs hp h => ?_)
      obtain ⟨hr9, hu9⟩ := hp
      obtain rfl : r = nI 0 := (hr9.trans (by decide))
      rw [hu9] at h
      refine lv_if_eq (tgt := 39) hx hcd dX4_finishes_32 (by decide) (fun _ => ?_) (fun c_6 => absurd c_6 (by decide))
      refine lv_aload_n hx hcd dX4_finishes_39 rfl (lv_at hl 0 rfl) ?_
      refine r_mA G hC h 7 (by decide) mw_1487 dX4_finishes_40 ?_
      refine lv_iload_n hx hcd dX4_finishes_43 rfl (lv_at hl 1 rfl) ?_
      refine r_mL G hC h 7 (k_1) (by decide) (by decide) rfl (show k_1 < 16 by omega) (x := nI (neN B g0 (B.2 0) k_1) - 1) rfl dX4_finishes_44 ?_
      have q_7 := neN_le hA g0 (k := k_1) (by omega)
      exact k_reti hQ G hret hlocks h (Or.inl ⟨_, by assumption, rfl, by omega, rfl, rfl⟩) (Nat.le_of_ble_eq_true rfl) (Nat.le_of_ble_eq_true rfl) dX4_finishes_45
    · have c_5 := cNle t0 (tA (n := neN B g0 (B.2 0) k_1) (by omega)) c_5
      refine lv_iconst (v := nI 2) hx hcd dX4_finishes_24 (by decide) ?_
      refine lv_goto (tgt := 29) hx hcd dX4_finishes_25 (by decide) ?_
      refine k_Vi (As := [.int (nI 2)]) (rest := []) (b := eX V 500) G hC hB h (met_X4_fails l V (ndW (nPut M 3 (nI 0)) (neN B g0 (B.2 0))) (nI 2)) mw_1545 kv_X4_fails ⟨rfl, rfl⟩ ⟨Nat.le_of_ble_eq_true rfl, Nat.le_of_ble_eq_true rfl⟩ (r_mV hC h) rfl rfl hl.1 (Nat.le_of_ble_eq_true rfl) dX4_finishes_29 ⟨Nat.le_of_ble_eq_true rfl, Nat.le_of_ble_eq_true rfl⟩ (fun r u H locs hp h => ?_)
      obtain ⟨hr9, hu9⟩ := hp
      obtain rfl : r = nI 1 := (hr9.trans (by decide))
      rw [hu9] at h
      refine lv_if_eq (tgt := 39) hx hcd dX4_finishes_32 (by decide) (fun c_8 => absurd c_8 (by decide)) (fun _ => ?_)
      refine lv_iconst (v := nI 0) hx hcd dX4_finishes_35 (by decide) ?_
      refine lv_goto (tgt := 45) hx hcd dX4_finishes_36 (by decide) ?_
      exact k_reti hQ G hret hlocks h (Or.inr (Or.inr ⟨_, by assumption, rfl, by omega, rfl, rfl⟩)) (Nat.le_of_ble_eq_true rfl) (Nat.le_of_ble_eq_true rfl) dX4_finishes_45
  · skip
    rw [hu9] at h
    refine lv_if_eq (tgt := 10) hx hcd dX4_finishes_5 (by decide) (fun c_9 => absurd c_9 (by decide)) (fun _ => ?_)
    refine lv_iconst (v := nI 0) hx hcd dX4_finishes_8 (by decide) ?_
    exact k_reti hQ G hret hlocks h (Or.inr (Or.inl ⟨c9, rfl, rfl⟩)) (Nat.le_of_ble_eq_true rfl) (Nat.le_of_ble_eq_true rfl) dX4_finishes_9
set_option maxHeartbeats 4000000 in
set_option maxRecDepth 100000 in
/-- finishDay(x) -/
theorem met_X4_finishDay (l : Launch) (V : kEnv) (M : kMs) (B : kBd) (hg : M.2 0 = gOf B) (hA : bA B) (x : Int32) (g0 : Nat → Nat) (hg0 : M.2 7 = fun k => nI (g0 k) - 1) : kI l yX4_finishDay cX4_finishDay 2 (some .int) { frames := 4, cells := 0, slots := 0, locals := 90 } V (mWs V) [.ref (eX V 500), .int (x)] (M) (fun r u => (∃ k, k < B.2 0 ∧ x = nI k ∧ neN B g0 (B.2 0) k ≠ 0 ∧ r = nI (neN B g0 (B.2 0) k) - 1 ∧ u = nPut (ndW (nPut M 3 (nI 0)) (neN B g0 (B.2 0))) 3 (nI 0)) ∨ (inS (B.2 0) x = false ∧ r = nI 0 ∧ u = nPut M 3 (nI 1)) ∨ (∃ k, k < B.2 0 ∧ x = nI k ∧ neN B g0 (B.2 0) k = 0 ∧ r = nI 0 ∧ u = nPut (ndW (nPut M 3 (nI 0)) (neN B g0 (B.2 0))) 3 (nI 2))) 0 0 := by
  refine kI_of (by decide +kernel) (Nat.le_of_ble_eq_true rfl) ?_
  intro pg e s m args below meth c G hret hlocks hC hB h ls hl Q hQ
  have hl : lv_has ls 2 [(0, .ref (eX V 500)), (1, .int (x))] := hl
  have hx := G.1
  have hcd := G.2.1
  have hI := hA.1
  have hI0 := hI
  have hu := hA.2.1
  have hv := hA.2.2.1
  have hw9 := hA.2.2.2.1
  have hR := bA_R hA
  obtain ⟨hz, hbn, hn, hm, h3, h54, h4, h7, hr, he, ha, hact, h5⟩ := hI
  refine lv_aload_n hx hcd dX4_finishDay_0 rfl (lv_at hl 0 rfl) ?_
  refine lv_iload_n hx hcd dX4_finishDay_1 rfl (lv_at hl 1 rfl) ?_
  refine k_Vi (As := [.int (x)]) (rest := []) (b := eX V 500) G hC hB h (met_X4_finishes l V M B hg hA x g0 hg0) mw_1798 kv_X4_finishes ⟨rfl, rfl⟩ ⟨Nat.le_of_ble_eq_true rfl, Nat.le_of_ble_eq_true rfl⟩ (r_mV hC h) rfl rfl hl.1 (Nat.le_of_ble_eq_true rfl) dX4_finishDay_2 ⟨Nat.le_of_ble_eq_true rfl, Nat.le_of_ble_eq_true rfl⟩ (fun r u H locs hp h => ?_)
  skip
  · skip
    exact k_reti hQ G hret hlocks h (hp) (Nat.le_of_ble_eq_true rfl) (Nat.le_of_ble_eq_true rfl) dX4_finishDay_5
set_option maxHeartbeats 4000000 in
set_option maxRecDepth 100000 in
/-- finishDayByRecursion(x) -/
theorem met_X4_finishDayByRecursion (l : Launch) (V : kEnv) (M : kMs) (B : kBd) (hg : M.2 0 = gOf B) (hA : bA B) (x : Int32) (g0 : Nat → Nat) (hg0 : M.2 7 = fun k => nI (g0 k) - 1) : kI l yX4_finishDayByRecursion cX4_finishDayByRecursion 2 (some .int) { frames := 4, cells := 0, slots := 0, locals := 90 } V (mWs V) [.ref (eX V 500), .int (x)] (M) (fun r u => (∃ k, k < B.2 0 ∧ x = nI k ∧ neN B g0 (B.2 0) k ≠ 0 ∧ r = nI (neN B g0 (B.2 0) k) - 1 ∧ u = nPut (ndW (nPut M 3 (nI 0)) (neN B g0 (B.2 0))) 3 (nI 0)) ∨ (inS (B.2 0) x = false ∧ r = nI 0 ∧ u = nPut M 3 (nI 1)) ∨ (∃ k, k < B.2 0 ∧ x = nI k ∧ neN B g0 (B.2 0) k = 0 ∧ r = nI 0 ∧ u = nPut (ndW (nPut M 3 (nI 0)) (neN B g0 (B.2 0))) 3 (nI 2))) 0 0 := by
  refine kI_of (by decide +kernel) (Nat.le_of_ble_eq_true rfl) ?_
  intro pg e s m args below meth c G hret hlocks hC hB h ls hl Q hQ
  have hl : lv_has ls 2 [(0, .ref (eX V 500)), (1, .int (x))] := hl
  have hx := G.1
  have hcd := G.2.1
  have hI := hA.1
  have hI0 := hI
  have hu := hA.2.1
  have hv := hA.2.2.1
  have hw9 := hA.2.2.2.1
  have hR := bA_R hA
  obtain ⟨hz, hbn, hn, hm, h3, h54, h4, h7, hr, he, ha, hact, h5⟩ := hI
  refine lv_aload_n hx hcd dX4_finishDayByRecursion_0 rfl (lv_at hl 0 rfl) ?_
  refine lv_iload_n hx hcd dX4_finishDayByRecursion_1 rfl (lv_at hl 1 rfl) ?_
  refine k_Vi (As := [.int (x)]) (rest := []) (b := eX V 500) G hC hB h (met_X4_finishes l V M B hg hA x g0 hg0) mw_1798 kv_X4_finishes ⟨rfl, rfl⟩ ⟨Nat.le_of_ble_eq_true rfl, Nat.le_of_ble_eq_true rfl⟩ (r_mV hC h) rfl rfl hl.1 (Nat.le_of_ble_eq_true rfl) dX4_finishDayByRecursion_2 ⟨Nat.le_of_ble_eq_true rfl, Nat.le_of_ble_eq_true rfl⟩ (fun r u H locs hp h => ?_)
  skip
  · skip
    exact k_reti hQ G hret hlocks h (hp) (Nat.le_of_ble_eq_true rfl) (Nat.le_of_ble_eq_true rfl) dX4_finishDayByRecursion_5
