/-! THE REFERENCE: a sign written. -/
theorem nar_f : ∀ q : Fin 128, vp_nar .char (nI q.val) = nI q.val := by decide +kernel
theorem nar_c {q : Nat} (h : q < 128) : vp_nar .char (nI q) = nI q := nar_f ⟨q, h⟩
set_option maxHeartbeats 4000000 in
set_option maxRecDepth 100000 in
/-- writes(c) -/
theorem met_X4_writes (l : Launch) (V : kEnv) (M : kMs) (n9 : Nat) (h7n : M.1 7 = nI n9) (hn9 : n9 < 60) (q : Nat) (hq : q < 128) : kU l yX4_writes cX4_writes 2 { frames := 0, cells := 0, slots := 0, locals := 0 } V (mWs V) [.ref (eX V 500), .int (nI (q))] (M) (fun u => u = nPut (gPut M 5 n9 (nI q)) 7 (nI (n9 + 1))) 0 0 := by
  refine kU_of (by decide +kernel) (Nat.le_of_ble_eq_true rfl) ?_
  intro pg e s m args below meth c G hret hlocks hC hB h ls hl Q hQ
  have hl : lv_has ls 2 [(0, .ref (eX V 500)), (1, .int (nI (q)))] := hl
  have hx := G.1
  have hcd := G.2.1
  refine lv_aload_n hx hcd dX4_writes_0 rfl (lv_at hl 0 rfl) ?_
  refine r_mA G hC h 5 (by decide) mw_1484 dX4_writes_1 ?_
  refine lv_aload_n hx hcd dX4_writes_4 rfl (lv_at hl 0 rfl) ?_
  refine r_mN G hC h 7 (by decide) mw_1485 (x := nI (n9)) h7n dX4_writes_5 ?_
  refine lv_iload_n hx hcd dX4_writes_8 rfl (lv_at hl 1 rfl) ?_
  refine lv_i2c (v := nI (q)) hx hcd dX4_writes_9 (ch_i2c (by first | assumption | omega)) ?_
  refine r_mCT G hC h (n9) rfl (show n9 < 60 by omega) (nI (q)) (nar_c hq) rfl dX4_writes_10 (fun H locs h => ?_)
  refine lv_aload_n hx hcd dX4_writes_11 rfl (lv_at hl 0 rfl) ?_
  refine lv_dup hx hcd dX4_writes_12 rfl ?_
  refine r_mN G hC h 7 (by decide) mw_1485 (x := nI (n9)) h7n dX4_writes_13 ?_
  refine lv_iconst (v := nI 1) hx hcd dX4_writes_16 (by decide) ?_
  refine w_iadd (v := nI (n9 + 1)) hx hcd dX4_writes_17 (nI_add _ _) ?_
  refine r_mP G hC h 7 (by decide) mw_1485 (fun z => absurd z (by decide)) rfl dX4_writes_18 (fun H locs h => ?_)
  exact k_retv hQ G hret hlocks h (rfl) (Nat.le_of_ble_eq_true rfl) (Nat.le_of_ble_eq_true rfl) dX4_writes_21
