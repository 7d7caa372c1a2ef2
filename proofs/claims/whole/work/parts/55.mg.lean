set_option maxHeartbeats 4000000 in
set_option maxRecDepth 100000 in
/-- lineAt(x) -/
theorem met_X4_lineAt (l : Launch) (V : kEnv) (M : kMs) (sg : Nat → Nat) (hS : ∀ j, M.2 5 j = nI (sg j) ∧ sg j < 128) (n9 : Nat) (h7n : M.1 7 = nI n9) (hn9 : n9 ≤ 60) (x : Int32) : kI l yX4_lineAt cX4_lineAt 2 (some .char) { frames := 1, cells := 0, slots := 0, locals := 22 } V (mWs V) [.ref (eX V 500), .int (x)] (M) (fun r u => (∃ k : Nat, k < n9 ∧ x = nI k ∧ r = nI (sg k) ∧ u = nPut M 3 (nI 0)) ∨ (¬ (0 ≤ x.toInt ∧ x.toInt < (n9 : Nat)) ∧ r = nI 32 ∧ u = nPut M 3 (nI 1))) 0 0 := by
  refine kI_of (by decide +kernel) (Nat.le_of_ble_eq_true rfl) ?_
  intro pg e s m args below meth c G hret hlocks hC hB h ls hl Q hQ
  have hl : lv_has ls 2 [(0, .ref (eX V 500)), (1, .int (x))] := hl
  have hx := G.1
  have hcd := G.2.1
  refine lv_aload_n hx hcd dX4_lineAt_0 rfl (lv_at hl 0 rfl) ?_
  refine lv_iload_n hx hcd dX4_lineAt_1 rfl (lv_at hl 1 rfl) ?_
  refine lv_iconst (v := nI 0) hx hcd dX4_lineAt_2 (by decide) ?_
  refine lv_aload_n hx hcd dX4_lineAt_3 rfl (lv_at hl 0 rfl) ?_
  refine r_mN G hC h 7 (by decide) mw_1485 (x := nI (n9)) h7n dX4_lineAt_4 ?_
  refine lv_iconst (v := nI 1) hx hcd dX4_lineAt_7 (by decide) ?_
  refine w_isub (v := nI (n9) - 1) hx hcd dX4_lineAt_8 rfl ?_
  refine k_Si (As := [.int (x), .int (nI 0), .int (nI (n9) - 1)]) (rest := [.ref (eX V 500)]) G hC hB h (met_X4_in l V M x (nI 0) (nI (n9) - 1) (0) (((n9 : Nat) : Int) - 1) (tN (n := 0) (by decide)) (tA (n := n9) (by omega))) mw_1542 ks_X4_in ⟨rfl, rfl⟩ ⟨Nat.le_of_ble_eq_true rfl, Nat.le_of_ble_eq_true rfl⟩ rfl rfl hl.1 (Nat.le_of_ble_eq_true rfl) dX4_lineAt_9 ⟨Nat.le_of_ble_eq_true rfl, Nat.le_of_ble_eq_true rfl⟩ (fun r u H locs hp h => ?_)
  obtain ⟨hr9, hu9⟩ := hp
  rw [hu9] at h
  rcases bsp (decide (0 ≤ (x : Int32).toInt ∧ (x : Int32).toInt ≤ ((n9 : Nat) : Int) - 1)) with c9 | c9
  · skip
    obtain rfl : r = nI 1 := (hr9.trans ((congrArg bz c9).trans (by decide)))
    obtain ⟨k_1, rfl, hk_2⟩ := rngm_ex (n := n9) (by omega) (of_decide_eq_true c9)
    refine lv_if_eq (tgt := 19) hx hcd dX4_lineAt_12 (by decide) (fun c_3 => absurd c_3 (by decide)) (fun _ => ?_)
    refine lv_iconst (v := nI 0) hx hcd dX4_lineAt_15 (by decide) ?_
    refine lv_goto (tgt := 20) hx hcd dX4_lineAt_16 (by decide) ?_
    refine k_Vi (As := [.int (nI 0)]) (rest := []) (b := eX V 500) G hC hB h (met_X4_fails l V M (nI 0)) mw_1545 kv_X4_fails ⟨rfl, rfl⟩ ⟨Nat.le_of_ble_eq_true rfl, Nat.le_of_ble_eq_true rfl⟩ (r_mV hC h) rfl rfl hl.1 (Nat.le_of_ble_eq_true rfl) dX4_lineAt_20 ⟨Nat.le_of_ble_eq_true rfl, Nat.le_of_ble_eq_true rfl⟩ (fun r u H locs hp h => ?_)
    obtain ⟨hr9, hu9⟩ := hp
    obtain rfl : r = nI 0 := (hr9.trans (by decide))
    rw [hu9] at h
    refine lv_if_eq (tgt := 31) hx hcd dX4_lineAt_23 (by decide) (fun _ => ?_) (fun c_4 => absurd c_4 (by decide))
    refine lv_aload_n hx hcd dX4_lineAt_31 rfl (lv_at hl 0 rfl) ?_
    refine r_mA G hC h 5 (by decide) mw_1484 dX4_lineAt_32 ?_
    refine lv_iload_n hx hcd dX4_lineAt_35 rfl (lv_at hl 1 rfl) ?_
    refine r_mCL G hC h (k_1) rfl (show k_1 < 60 by omega) (x := nI (sg k_1)) (hS k_1).1 dX4_lineAt_36 ?_
    have q_5 := (hS k_1).2
    exact k_retc hQ G hret hlocks h (ch_nc (by first | assumption | omega)) (Or.inl ⟨_, by assumption, rfl, rfl, rfl⟩) (Nat.le_of_ble_eq_true rfl) (Nat.le_of_ble_eq_true rfl) dX4_lineAt_37
  · skip
    obtain rfl : r = nI 0 := (hr9.trans ((congrArg bz c9).trans (by decide)))
    have c8 := of_decide_eq_false c9
    refine lv_if_eq (tgt := 19) hx hcd dX4_lineAt_12 (by decide) (fun _ => ?_) (fun c_6 => absurd c_6 (by decide))
    refine lv_iconst (v := nI 1) hx hcd dX4_lineAt_19 (by decide) ?_
    refine k_Vi (As := [.int (nI 1)]) (rest := []) (b := eX V 500) G hC hB h (met_X4_fails l V M (nI 1)) mw_1545 kv_X4_fails ⟨rfl, rfl⟩ ⟨Nat.le_of_ble_eq_true rfl, Nat.le_of_ble_eq_true rfl⟩ (r_mV hC h) rfl rfl hl.1 (Nat.le_of_ble_eq_true rfl) dX4_lineAt_20 ⟨Nat.le_of_ble_eq_true rfl, Nat.le_of_ble_eq_true rfl⟩ (fun r u H locs hp h => ?_)
    obtain ⟨hr9, hu9⟩ := hp
    obtain rfl : r = nI 1 := (hr9.trans (by decide))
    rw [hu9] at h
    refine lv_if_eq (tgt := 31) hx hcd dX4_lineAt_23 (by decide) (fun c_7 => absurd c_7 (by decide)) (fun _ => ?_)
    refine lv_bipush (v := nI 32) hx hcd dX4_lineAt_26 (by decide) ?_
    refine lv_goto (tgt := 37) hx hcd dX4_lineAt_28 (by decide) ?_
    exact k_retc hQ G hret hlocks h (ch_nc (by first | assumption | omega)) (Or.inr ⟨by omega, rfl, rfl⟩) (Nat.le_of_ble_eq_true rfl) (Nat.le_of_ble_eq_true rfl) dX4_lineAt_37
