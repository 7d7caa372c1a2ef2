set_option maxHeartbeats 4000000 in
set_option maxRecDepth 100000 in
/-- type(x) -/
theorem met_X4_type (l : Launch) (V : kEnv) (M : kMs) (n9 : Nat) (h4 : M.1 4 = nI n9) (hn9 : n9 ≤ 60) (x : Int32) : kI l yX4_type cX4_type 2 (some .int) { frames := 1, cells := 0, slots := 0, locals := 22 } V (mWs V) [.ref (eX V 500), .int (x)] (M) (fun r u => (∃ q, 32 ≤ q ∧ q ≤ 126 ∧ x = nI q ∧ n9 < 60 ∧ r = nI (n9 + 1) ∧ u = nPut (gPut (nPut M 3 (nI 0)) 4 n9 (nI q)) 4 (nI (n9 + 1))) ∨ (¬ (32 ≤ x.toInt ∧ x.toInt ≤ 126) ∧ r = nI 0 ∧ u = nPut M 3 (nI 1)) ∨ (∃ q, 32 ≤ q ∧ q ≤ 126 ∧ x = nI q ∧ n9 = 60 ∧ r = nI 0 ∧ u = nPut M 3 (nI 2))) 0 0 := by
  refine kI_of (by decide +kernel) (Nat.le_of_ble_eq_true rfl) ?_
  intro pg e s m args below meth c G hret hlocks hC hB h ls hl Q hQ
  have hl : lv_has ls 2 [(0, .ref (eX V 500)), (1, .int (x))] := hl
  have hx := G.1
  have hcd := G.2.1
  refine lv_aload_n hx hcd dX4_type_0 rfl (lv_at hl 0 rfl) ?_
  refine lv_iload_n hx hcd dX4_type_1 rfl (lv_at hl 1 rfl) ?_
  refine lv_bipush (v := nI 32) hx hcd dX4_type_2 (by decide) ?_
  refine lv_bipush (v := nI 126) hx hcd dX4_type_4 (by decide) ?_
  refine k_Si (As := [.int (x), .int (nI 32), .int (nI 126)]) (rest := [.ref (eX V 500)]) G hC hB h (met_X4_in l V M x (nI 32) (nI 126) (32) (126) (tN (n := 32) (by decide)) (tN (n := 126) (by decide))) mw_1542 ks_X4_in ⟨rfl, rfl⟩ ⟨Nat.le_of_ble_eq_true rfl, Nat.le_of_ble_eq_true rfl⟩ rfl rfl hl.1 (Nat.le_of_ble_eq_true rfl) dX4_type_6 ⟨Nat.le_of_ble_eq_true rfl, Nat.le_of_ble_eq_true rfl⟩ (fun r u H locs hp h => ?_)
  obtain ⟨hr9, hu9⟩ := hp
  rw [hu9] at h
  rcases bsp (decide (32 ≤ (x : Int32).toInt ∧ (x : Int32).toInt ≤ 126)) with c9 | c9
  · skip
    obtain rfl : r = nI 1 := (hr9.trans ((congrArg bz c9).trans (by decide)))
    obtain ⟨q, rfl, hq1, hq2⟩ := rng_ex (a := 32) (b := 126) (by decide) (of_decide_eq_true c9)
    refine lv_if_ne (tgt := 16) hx hcd dX4_type_9 (by decide) (fun _ => ?_) (fun c_1 => absurd c_1 (by decide))
    refine lv_aload_n hx hcd dX4_type_16 rfl (lv_at hl 0 rfl) ?_
    refine r_mN G hC h 4 (by decide) mw_1481 (x := nI (n9)) h4 dX4_type_17 ?_
    refine lv_bipush (v := nI 60) hx hcd dX4_type_20 (by decide) ?_
    refine lv_icmp_ne (tgt := 29) hx hcd dX4_type_22 (by decide) (fun c_2 => ?_) (fun c_2 => ?_)
    · have c_2 := cNe (tN (n := n9) (by omega)) (tN (n := 60) (by decide)) c_2
      refine lv_iconst (v := nI 0) hx hcd dX4_type_29 (by decide) ?_
      refine k_Vi (As := [.int (nI 0)]) (rest := []) (b := eX V 500) G hC hB h (met_X4_fails l V M (nI 0)) mw_1545 kv_X4_fails ⟨rfl, rfl⟩ ⟨Nat.le_of_ble_eq_true rfl, Nat.le_of_ble_eq_true rfl⟩ (r_mV hC h) rfl rfl hl.1 (Nat.le_of_ble_eq_true rfl) dX4_type_30 ⟨Nat.le_of_ble_eq_true rfl, Nat.le_of_ble_eq_true rfl⟩ (fun r u H locs hp h => ?_)
      obtain ⟨hr9, hu9⟩ := hp
      obtain rfl : r = nI 0 := (hr9.trans (by decide))
      rw [hu9] at h
      refine lv_if_eq (tgt := 38) hx hcd dX4_type_33 (by decide) (fun _ => ?_) (fun c_3 => absurd c_3 (by decide))
      refine lv_aload_n hx hcd dX4_type_38 rfl (lv_at hl 0 rfl) ?_
      refine r_mA G hC h 4 (by decide) mw_1480 dX4_type_39 ?_
      refine lv_aload_n hx hcd dX4_type_42 rfl (lv_at hl 0 rfl) ?_
      refine r_mN G hC h 4 (by decide) mw_1481 (x := nI (n9)) h4 dX4_type_43 ?_
      refine lv_iload_n hx hcd dX4_type_46 rfl (lv_at hl 1 rfl) ?_
      refine r_mT G hC h 4 (n9) (by decide) (by decide) rfl (show n9 < 60 by omega) rfl dX4_type_47 (fun H locs h => ?_)
      refine lv_aload_n hx hcd dX4_type_48 rfl (lv_at hl 0 rfl) ?_
      refine lv_dup hx hcd dX4_type_49 rfl ?_
      refine r_mN G hC h 4 (by decide) mw_1481 (x := nI (n9)) h4 dX4_type_50 ?_
      refine lv_iconst (v := nI 1) hx hcd dX4_type_53 (by decide) ?_
      refine w_iadd (v := nI (n9 + 1)) hx hcd dX4_type_54 (nI_add _ _) ?_
      refine r_mP G hC h 4 (by decide) mw_1481 (fun z => absurd z (by decide)) rfl dX4_type_55 (fun H locs h => ?_)
      refine lv_aload_n hx hcd dX4_type_58 rfl (lv_at hl 0 rfl) ?_
      refine r_mN G hC h 4 (by decide) mw_1481 (x := nI (n9 + 1)) rfl dX4_type_59 ?_
      exact k_reti hQ G hret hlocks h (Or.inl ⟨q, hq1, hq2, rfl, by omega, rfl, rfl⟩) (Nat.le_of_ble_eq_true rfl) (Nat.le_of_ble_eq_true rfl) dX4_type_62
    · have c_2 := cEq (tN (n := n9) (by omega)) (tN (n := 60) (by decide)) c_2
      refine lv_iconst (v := nI 2) hx hcd dX4_type_25 (by decide) ?_
      refine lv_goto (tgt := 30) hx hcd dX4_type_26 (by decide) ?_
      refine k_Vi (As := [.int (nI 2)]) (rest := []) (b := eX V 500) G hC hB h (met_X4_fails l V M (nI 2)) mw_1545 kv_X4_fails ⟨rfl, rfl⟩ ⟨Nat.le_of_ble_eq_true rfl, Nat.le_of_ble_eq_true rfl⟩ (r_mV hC h) rfl rfl hl.1 (Nat.le_of_ble_eq_true rfl) dX4_type_30 ⟨Nat.le_of_ble_eq_true rfl, Nat.le_of_ble_eq_true rfl⟩ (fun r u H locs hp h => ?_)
      obtain ⟨hr9, hu9⟩ := hp
      obtain rfl : r = nI 1 := (hr9.trans (by decide))
      rw [hu9] at h
      refine lv_if_eq (tgt := 38) hx hcd dX4_type_33 (by decide) (fun c_5 => absurd c_5 (by decide)) (fun _ => ?_)
      refine lv_iconst (v := nI 0) hx hcd dX4_type_36 (by decide) ?_
      exact k_reti hQ G hret hlocks h (Or.inr (Or.inr ⟨q, hq1, hq2, rfl, by omega, rfl, rfl⟩)) (Nat.le_of_ble_eq_true rfl) (Nat.le_of_ble_eq_true rfl) dX4_type_37
  · skip
    obtain rfl : r = nI 0 := (hr9.trans ((congrArg bz c9).trans (by decide)))
    have c8 := of_decide_eq_false c9
    refine lv_if_ne (tgt := 16) hx hcd dX4_type_9 (by decide) (fun c_6 => absurd c_6 (by decide)) (fun _ => ?_)
    refine lv_iconst (v := nI 1) hx hcd dX4_type_12 (by decide) ?_
    refine lv_goto (tgt := 30) hx hcd dX4_type_13 (by decide) ?_
    refine k_Vi (As := [.int (nI 1)]) (rest := []) (b := eX V 500) G hC hB h (met_X4_fails l V M (nI 1)) mw_1545 kv_X4_fails ⟨rfl, rfl⟩ ⟨Nat.le_of_ble_eq_true rfl, Nat.le_of_ble_eq_true rfl⟩ (r_mV hC h) rfl rfl hl.1 (Nat.le_of_ble_eq_true rfl) dX4_type_30 ⟨Nat.le_of_ble_eq_true rfl, Nat.le_of_ble_eq_true rfl⟩ (fun r u H locs hp h => ?_)
    obtain ⟨hr9, hu9⟩ := hp
    obtain rfl : r = nI 1 := (hr9.trans (by decide))
    rw [hu9] at h
    refine lv_if_eq (tgt := 38) hx hcd dX4_type_33 (by decide) (fun c_7 => absurd c_7 (by decide)) (fun _ => ?_)
    refine lv_iconst (v := nI 0) hx hcd dX4_type_36 (by decide) ?_
    exact k_reti hQ G hret hlocks h (Or.inr (Or.inl ⟨c8, rfl, rfl⟩)) (Nat.le_of_ble_eq_true rfl) (Nat.le_of_ble_eq_true rfl) dX4_type_37
