theorem kv_X4_here : kV yX4_here cX4_here 1 (some .int) 0 := ⟨mw_1856, mw_48, mw_64, mw_1857, by decide, by decide, by decide +kernel⟩
set_option maxHeartbeats 4000000 in
set_option maxRecDepth 100000 in
/-- here() -/
theorem met_X4_here (l : Launch) (V : kEnv) (M : kMs) (L : List Nat) (hn4 : M.1 4 = nI L.length) (hL60 : L.length ≤ 60) (hL : ∀ j, j < L.length → M.2 4 j = nI (L.getD j 0) ∧ L.getD j 0 < 128) (a9 : Nat) (ha9 : M.1 8 = nI a9) (hal : a9 ≤ L.length) : kI l yX4_here cX4_here 1 (some .int) { frames := 0, cells := 0, slots := 0, locals := 0 } V (mWs V) [.ref (eX V 500)] (M) (fun r u => ((a9 < L.length ∧ r = nI (L.getD a9 0)) ∨ (a9 = L.length ∧ r = -1)) ∧ u = M) 0 0 := by
  refine kI_of (by decide +kernel) (Nat.le_of_ble_eq_true rfl) ?_
  intro pg e s m args below meth c G hret hlocks hC hB h ls hl Q hQ
  have hl : lv_has ls 1 [(0, .ref (eX V 500))] := hl
  have hx := G.1
  have hcd := G.2.1
  refine lv_aload_n hx hcd dX4_here_0 rfl (lv_at hl 0 rfl) ?_
  refine r_mN G hC h 8 (by decide) mw_1488 (x := nI (a9)) ha9 dX4_here_1 ?_
  refine lv_aload_n hx hcd dX4_here_4 rfl (lv_at hl 0 rfl) ?_
  refine r_mN G hC h 4 (by decide) mw_1481 (x := nI (L.length)) hn4 dX4_here_5 ?_
  refine lv_icmp_ge (tgt := 23) hx hcd dX4_here_8 (by decide) (fun c_1 => ?_) (fun c_1 => ?_)
  · have c_1 := cLe (tN (n := L.length) (by omega)) (tN (n := a9) (by omega)) c_1
    refine lv_iconst (v := -1) hx hcd dX4_here_23 (by decide) ?_
    exact k_reti hQ G hret hlocks h (⟨Or.inr ⟨by omega, rfl⟩, rfl⟩) (Nat.le_of_ble_eq_true rfl) (Nat.le_of_ble_eq_true rfl) dX4_here_24
  · have c_1 := cNle (tN (n := L.length) (by omega)) (tN (n := a9) (by omega)) c_1
    refine lv_aload_n hx hcd dX4_here_11 rfl (lv_at hl 0 rfl) ?_
    refine r_mA G hC h 4 (by decide) mw_1480 dX4_here_12 ?_
    refine lv_aload_n hx hcd dX4_here_15 rfl (lv_at hl 0 rfl) ?_
    refine r_mN G hC h 8 (by decide) mw_1488 (x := nI (a9)) ha9 dX4_here_16 ?_
    refine r_mL G hC h 4 (a9) (by decide) (by decide) rfl (show a9 < 60 by omega) (x := nI (L.getD a9 0)) (hL a9 (by omega)).1 dX4_here_19 ?_
    have q_2 := (hL a9 (by omega)).2
    refine lv_goto (tgt := 24) hx hcd dX4_here_20 (by decide) ?_
    exact k_reti hQ G hret hlocks h (⟨Or.inl ⟨by omega, rfl⟩, rfl⟩) (Nat.le_of_ble_eq_true rfl) (Nat.le_of_ble_eq_true rfl) dX4_here_24
set_option maxHeartbeats 4000000 in
set_option maxRecDepth 100000 in
/-- skips(c) -/
theorem met_X4_skips (l : Launch) (V : kEnv) (M : kMs) (L : List Nat) (hn4 : M.1 4 = nI L.length) (hL60 : L.length ≤ 60) (hL : ∀ j, j < L.length → M.2 4 j = nI (L.getD j 0) ∧ L.getD j 0 < 128) (a9 : Nat) (ha9 : M.1 8 = nI a9) (hal : a9 ≤ L.length) (c9 : Nat) (hc9 : c9 < 128) : kI l yX4_skips cX4_skips 2 (some .boolean) { frames := 1, cells := 0, slots := 0, locals := 20 } V (mWs V) [.ref (eX V 500), .int (nI (c9))] (M) (fun r u => ((a9 < L.length ∧ L.getD a9 0 = c9) ∧ r = nI 1 ∧ u = nPut M 8 (nI (a9 + 1))) ∨ (¬ (a9 < L.length ∧ L.getD a9 0 = c9) ∧ r = nI 0 ∧ u = M)) 0 0 := by
  refine kI_of (by decide +kernel) (Nat.le_of_ble_eq_true rfl) ?_
  intro pg e s m args below meth c G hret hlocks hC hB h ls hl Q hQ
  have hl : lv_has ls 2 [(0, .ref (eX V 500)), (1, .int (nI (c9)))] := hl
  have hx := G.1
  have hcd := G.2.1
  refine lv_aload_n hx hcd dX4_skips_0 rfl (lv_at hl 0 rfl) ?_
  refine k_Vi (As := []) (rest := []) (b := eX V 500) G hC hB h (met_X4_here l V M L hn4 hL60 hL a9 ha9 hal) mw_1854 kv_X4_here ⟨rfl, rfl⟩ ⟨Nat.le_of_ble_eq_true rfl, Nat.le_of_ble_eq_true rfl⟩ (r_mV hC h) rfl rfl hl.1 (Nat.le_of_ble_eq_true rfl) dX4_skips_1 ⟨Nat.le_of_ble_eq_true rfl, Nat.le_of_ble_eq_true rfl⟩ (fun r u H locs hp h => ?_)
  obtain ⟨hp9, hu9⟩ := hp
  rw [hu9] at h
  rcases hp9 with ⟨hlt, rfl⟩ | ⟨hlt, rfl⟩
  · skip
    have q_1 := (hL a9 hlt).2
    refine lv_iload_n hx hcd dX4_skips_4 rfl (lv_at hl 1 rfl) ?_
    refine lv_icmp_eq (tgt := 10) hx hcd dX4_skips_5 (by decide) (fun c_2 => ?_) (fun c_2 => ?_)
    · have c_2 := cEq (tN (n := L.getD a9 0) (by omega)) (tN (n := c9) (by omega)) c_2
      refine lv_aload_n hx hcd dX4_skips_10 rfl (lv_at hl 0 rfl) ?_
      refine lv_dup hx hcd dX4_skips_11 rfl ?_
      refine r_mN G hC h 8 (by decide) mw_1488 (x := nI (a9)) ha9 dX4_skips_12 ?_
      refine lv_iconst (v := nI 1) hx hcd dX4_skips_15 (by decide) ?_
      refine w_iadd (v := nI (a9 + 1)) hx hcd dX4_skips_16 (nI_add _ _) ?_
      refine r_mP G hC h 8 (by decide) mw_1488 (fun z => absurd z (by decide)) rfl dX4_skips_17 (fun H locs h => ?_)
      refine lv_iconst (v := nI 1) hx hcd dX4_skips_20 (by decide) ?_
      exact k_retz hQ G hret hlocks h (Or.inr rfl) (Or.inl ⟨⟨by omega, by omega⟩, rfl, rfl⟩) (Nat.le_of_ble_eq_true rfl) (Nat.le_of_ble_eq_true rfl) dX4_skips_21
    · have c_2 := cNe (tN (n := L.getD a9 0) (by omega)) (tN (n := c9) (by omega)) c_2
      refine lv_iconst (v := nI 0) hx hcd dX4_skips_8 (by decide) ?_
      exact k_retz hQ G hret hlocks h (Or.inl rfl) (Or.inr ⟨by omega, rfl, rfl⟩) (Nat.le_of_ble_eq_true rfl) (Nat.le_of_ble_eq_true rfl) dX4_skips_9
  · skip
    refine lv_iload_n hx hcd dX4_skips_4 rfl (lv_at hl 1 rfl) ?_
    refine lv_icmp_eq (tgt := 10) hx hcd dX4_skips_5 (by decide) (fun c_4 => ?_) (fun c_4 => ?_)
    · have c_4 := cEq tm1 (tN (n := c9) (by omega)) c_4
      exact absurd c_4 (by omega)
    · have c_4 := cNe tm1 (tN (n := c9) (by omega)) c_4
      refine lv_iconst (v := nI 0) hx hcd dX4_skips_8 (by decide) ?_
      exact k_retz hQ G hret hlocks h (Or.inl rfl) (Or.inr ⟨by omega, rfl, rfl⟩) (Nat.le_of_ble_eq_true rfl) (Nat.le_of_ble_eq_true rfl) dX4_skips_9
