theorem kth_307_309 : kTh RX3 307 309 311 "java/lang/IllegalArgumentException" "the text is malformed" := ⟨by decide +kernel, mw_796, mw_68, by decide +kernel, by decide +kernel, by decide +kernel, by decide +kernel⟩
theorem kth_318_320 : kTh RX3 318 320 322 "java/lang/IllegalStateException" "a command fails" := ⟨by decide +kernel, mw_807, mw_69, by decide +kernel, by decide +kernel, by decide +kernel, by decide +kernel⟩
theorem kv_X1_takeCommands : kV yX1_takeCommands cX1_takeCommands 2 (some .int) 0 := ⟨mw_1351, mw_1352, mw_59, mw_1353, by decide, by decide, by decide +kernel⟩
theorem kv_X3_carryOutCommands : kV yX3_carryOutCommands cX3_carryOutCommands 5 (some .int) 0 := ⟨mw_1419, mw_17, mw_56, mw_1420, by decide, by decide, by decide +kernel⟩
set_option maxHeartbeats 4000000 in
set_option maxRecDepth 100000 in
/-- execute() -/
theorem met_X3_execute (l : Launch) (hst : l.stackTraces = false) (V : kEnv) (S : kCs) (B : kBd) (hI : bI B) (hV : kOk V) (L : List Nat) (hRt : sbR (S.2.2.2 1) L) (hLt : L.length ≤ 60) (p cm : Nat) (h6 : S.2.1 6 = nI p) (h5c : S.2.1 5 = nI cm) (hoK : okA 12 (S.2.2.1 1)) (hoF : okA 100 (S.2.2.1 2)) (hoZ : okA 100 (S.2.2.1 3)) (hb2 : bN (S.1 2)) (nx sz : Nat) (hnx : S.2.1 3 = nI nx) (hsz : S.2.1 4 = nI sz) (hx5 : nx < 60000) (hs5 : sz ≤ 8) (hnb : bN (S.1 (4 + nx % 8))) : kX l yX3_execute cX3_execute 3 (some .int) { frames := 10, cells := 4, slots := 200, locals := 224 } V (cWs V) [.ref (eX V 96)] (setB S 0 B) (fun r u => ∃ y, sbR y [] ∧ (rT S L).1 = 0 ∧ (rC S L B).1 = 0 ∧ r = nI (rT S L).2.2.1 ∧ u = histS (setB (setB (xS S L y) 2 B) 0 (rC S L B).2) 2 nx sz) (fun E u => (∃ y, sbR y [] ∧ E = "java/lang/IllegalArgumentException" ∧ (rT S L).1 ≠ 0 ∧ u = sPut (setB (xS S L y) 0 B) 1 (nI (rT S L).1 - 1)) ∨ (∃ y, sbR y [] ∧ E = "java/lang/IllegalStateException" ∧ (rT S L).1 = 0 ∧ (rC S L B).1 ≠ 0 ∧ u = sPut (setB (setB (xS S L y) 2 B) 0 B) 2 (nI (rC S L B).1 - 1))) 4 200 := by
  refine kX_of (by decide +kernel) (Nat.le_of_ble_eq_true rfl) ?_
  intro pg e s m args below meth c G hret hlocks htab hC hB h ls hl Q hQ
  have hl : lv_has ls 3 [(0, .ref (eX V 96))] := hl
  have hx := G.1
  have hcd := G.2.1
  have hI0 := hI
  obtain ⟨hz, hbn, hn, hm, h3, h54, h4, h7, hr, he, ha, hact, h5⟩ := hI
  have hro := rdT_ok L 60 0 0 0 (S.2.2.1 1) (S.2.2.1 2) (S.2.2.1 3) hoK hoF hoZ
  have hcm6 : (rT S L).2.2.1 ≤ 60 := by have := rdT_cm L 60 0 0 0 (S.2.2.1 1) (S.2.2.1 2) (S.2.2.1 3); exact Nat.le_trans this (by decide)
  have hre : (rT S L).1 ≤ L.length + 1 := (rdT_e L 60 0 0 0 (S.2.2.1 1) (S.2.2.1 2) (S.2.2.1 3) (Nat.zero_le _)).1
  have hrc := rcN_ok (kd := nOf (rT S L).2.2.2.1) (fa := nOf (rT S L).2.2.2.2.1) (sb := nOf (rT S L).2.2.2.2.2) (fun i hi => ⟨(nOf_ok (by decide) hro.1 i hi).2, (nOf_ok (by decide) hro.2.1 i hi).2, (nOf_ok (by decide) hro.2.2 i hi).2⟩) (rT S L).2.2.1 0 B (by omega) hI0
  have hrc1 : (rC S L B).1 ≤ 60 := Nat.le_trans hrc.2 (by omega)
  have hbR : bN (rC S L B).2 := hrc.1.2.1
  refine lv_aload_n hx hcd dX3_execute_0 rfl (lv_at hl 0 rfl) ?_
  refine va_get (D := eD V) (ci := 7) (v := .ref (eX V 99)) (C := RX3) (T := TX3) (N := 11) hx hcd G.2.2.2.2 iwX3 G.2.2.2.1 hC.1 h.1 (96 + 0) (cF_at V _ (i := 0) (by decide)) rfl 5 (by decide) (G.2.2.2.2 _ mw_247) (fun y h9 => h9) rfl dX3_execute_1 ?_
  have h := cH_x (T := setB S 0 B) h5c h6 h
  refine k_Vi (As := []) (rest := []) (b := eX V 99) G hC hB h (met_X1_takeCommands l V hV (setB S 0 B) p cm (S.2.2.1 1) (S.2.2.1 2) (S.2.2.1 3) L hRt hLt) mw_1350 kv_X1_takeCommands ⟨rfl, rfl⟩ ⟨Nat.le_of_ble_eq_true rfl, Nat.le_of_ble_eq_true rfl⟩ (r_tV hC h) rfl rfl hl.1 (Nat.le_of_ble_eq_true rfl) dX3_execute_4 ⟨Nat.le_of_ble_eq_true rfl, Nat.le_of_ble_eq_true rfl⟩ (fun r u H locs hp h => ?_)
  obtain ⟨hr9, y7, hRz, hu⟩ := hp; obtain rfl : r = nI (rT S L).1 - 1 := hr9
  rw [hu] at h
  have h : cH V s H locs (cWs V (setB (xS S L y7) 0 B)) := h
  refine lv_istore_n (lv' := [(1, .int (nI ((rT S L).1) - 1)), (0, .ref (eX V 96))]) hx hcd dX3_execute_7 rfl hl (by decide) rfl (fun ls hl => ?_)
  refine lv_iload_n hx hcd dX3_execute_8 rfl (lv_at hl 0 rfl) ?_
  refine lv_iconst (v := -1) hx hcd dX3_execute_9 (by decide) ?_
  refine lv_icmp_eq (tgt := 29) hx hcd dX3_execute_10 (by decide) (fun c_1 => ?_) (fun c_1 => ?_)
  · have c_1 := cEq (tA (n := (rT S L).1) (by omega)) tm1 c_1
    refine lv_aload_n hx hcd dX3_execute_29 rfl (lv_at hl 1 rfl) ?_
    refine va_get (D := eD V) (ci := 7) (v := .ref (eX V (8 * 2))) (C := RX3) (T := TX3) (N := 11) hx hcd G.2.2.2.2 iwX3 G.2.2.2.1 hC.1 h.1 (96 + 0) (cF_at V _ (i := 0) (by decide)) rfl 2 (by decide) (G.2.2.2.2 _ mw_244) (fun y h9 => h9) rfl dX3_execute_30 ?_
    refine lv_aload_n hx hcd dX3_execute_33 rfl (lv_at hl 1 rfl) ?_
    refine va_get (D := eD V) (ci := 7) (v := .ref (eX V (8 * 0))) (C := RX3) (T := TX3) (N := 11) hx hcd G.2.2.2.2 iwX3 G.2.2.2.1 hC.1 h.1 (96 + 0) (cF_at V _ (i := 0) (by decide)) rfl 0 (by decide) (G.2.2.2.2 _ mw_242) (fun y h9 => h9) rfl dX3_execute_34 ?_
    have h := cH_b 2 h
    refine k_Vv (As := [.ref (eX V (8 * 0))]) (rest := []) (b := eX V (8 * 2)) G hC hB h (met_X0_copyFrom l V (setB (xS S L y7) 0 B) 2 ((setB (xS S L y7) 0 B).1 2) (by omega) 0 (by omega) (by omega) hz h3 hbn hb2) mw_737 kv_X0_copyFrom ⟨rfl, rfl⟩ ⟨Nat.le_of_ble_eq_true rfl, Nat.le_of_ble_eq_true rfl⟩ (r_bV hC h 2 (by omega)) rfl rfl hl.1 (Nat.le_of_ble_eq_true rfl) dX3_execute_37 ⟨Nat.le_of_ble_eq_true rfl, Nat.le_of_ble_eq_true rfl⟩ (fun u H locs hp h => ?_)
    obtain rfl := hp
    have h : cH V s H locs (cWs V (setB (setB (xS S L y7) 2 B) 0 B)) := by rw [setB_comm _ _ _ (show 2 ≠ 0 by decide)]; exact h
    refine lv_aload_n hx hcd dX3_execute_40 rfl (lv_at hl 1 rfl) ?_
    refine k_Vi (As := []) (rest := []) (b := eX V 96) G hC hB h (met_X3_carryOutCommands l V (setB (xS S L y7) 2 B) B hI0 (nOf (rT S L).2.2.2.1) (nOf (rT S L).2.2.2.2.1) (nOf (rT S L).2.2.2.2.2) (nOf_ok (by decide) hro.1) (nOf_ok (by decide) hro.2.1) (nOf_ok (by decide) hro.2.2) (rT S L).2.2.1 rfl hcm6) mw_1417 kv_X3_carryOutCommands ⟨rfl, rfl⟩ ⟨Nat.le_of_ble_eq_true rfl, Nat.le_of_ble_eq_true rfl⟩ (r_sV hC h) rfl rfl hl.1 (Nat.le_of_ble_eq_true rfl) dX3_execute_41 ⟨Nat.le_of_ble_eq_true rfl, Nat.le_of_ble_eq_true rfl⟩ (fun r u H locs hp h => ?_)
    obtain ⟨hr9, hu⟩ := hp; obtain rfl : r = nI (rC S L B).1 - 1 := hr9
    rw [hu] at h
    have h : cH V s H locs (cWs V (setB (setB (xS S L y7) 2 B) 0 (rC S L B).2)) := h
    refine lv_istore_n (lv' := [(2, .int (nI ((rC S L B).1) - 1)), (1, .int (nI ((rT S L).1) - 1)), (0, .ref (eX V 96))]) hx hcd dX3_execute_44 rfl hl (by decide) rfl (fun ls hl => ?_)
    refine lv_iload_n hx hcd dX3_execute_45 rfl (lv_at hl 0 rfl) ?_
    refine lv_iconst (v := -1) hx hcd dX3_execute_46 (by decide) ?_
    refine lv_icmp_eq (tgt := 77) hx hcd dX3_execute_47 (by decide) (fun c_2 => ?_) (fun c_2 => ?_)
    · have c_2 := cEq (tA (n := (rC S L B).1) (by omega)) tm1 c_2
      refine lv_aload_n hx hcd dX3_execute_77 rfl (lv_at hl 2 rfl) ?_
      refine va_get (D := eD V) (ci := 7) (v := .ref (eX V 97)) (C := RX3) (T := TX3) (N := 11) hx hcd G.2.2.2.2 iwX3 G.2.2.2.1 hC.1 h.1 (96 + 0) (cF_at V _ (i := 0) (by decide)) rfl 4 (by decide) (G.2.2.2.2 _ mw_246) (fun y h9 => h9) rfl dX3_execute_78 ?_
      refine lv_aload_n hx hcd dX3_execute_81 rfl (lv_at hl 2 rfl) ?_
      refine va_get (D := eD V) (ci := 7) (v := .ref (eX V (8 * 2))) (C := RX3) (T := TX3) (N := 11) hx hcd G.2.2.2.2 iwX3 G.2.2.2.1 hC.1 h.1 (96 + 0) (cF_at V _ (i := 0) (by decide)) rfl 2 (by decide) (G.2.2.2.2 _ mw_244) (fun y h9 => h9) rfl dX3_execute_82 ?_
      refine k_Vv (As := [.ref (eX V (8 * 2))]) (rest := []) (b := eX V 97) G hC hB h (met_X2_keep l V (setB (setB (xS S L y7) 2 B) 0 (rC S L B).2) 2 (by omega) nx sz hnx hsz hx5 hs5 hz h3 hbn (by rw [setB_ne _ _ (by omega), setB_ne _ _ (by omega)]; exact hnb)) mw_823 kv_X2_keep ⟨rfl, rfl⟩ ⟨Nat.le_of_ble_eq_true rfl, Nat.le_of_ble_eq_true rfl⟩ (r_hV hC h) rfl rfl hl.1 (Nat.le_of_ble_eq_true rfl) dX3_execute_85 ⟨Nat.le_of_ble_eq_true rfl, Nat.le_of_ble_eq_true rfl⟩ (fun u H locs hp h => ?_)
      rw [hp] at h
      refine lv_aload_n hx hcd dX3_execute_88 rfl (lv_at hl 2 rfl) ?_
      refine va_get (D := eD V) (ci := 7) (v := .ref (eX V 99)) (C := RX3) (T := TX3) (N := 11) hx hcd G.2.2.2.2 iwX3 G.2.2.2.1 hC.1 h.1 (96 + 0) (cF_at V _ (i := 0) (by decide)) rfl 5 (by decide) (G.2.2.2.2 _ mw_247) (fun y h9 => h9) rfl dX3_execute_89 ?_
      refine va_get (D := eD V) (ci := 5) (v := .int (nI ((rT S L).2.2.1))) (C := RX1) (T := TX1) (N := 6) hx hcd G.2.2.2.2 iwX1 G.2.2.2.1 hC.1 h.1 (96 + 3) (cF_at V _ (i := 3) (by decide)) rfl 3 (by decide) (G.2.2.2.2 _ mw_224) (fun y h9 => h9) rfl dX3_execute_92 ?_
      exact kx_reti hQ G hret hlocks h (⟨y7, hRz, by omega, by omega, rfl, rfl⟩) (Nat.le_of_ble_eq_true rfl) (Nat.le_of_ble_eq_true rfl) dX3_execute_95
    · have c_2 := cNe (tA (n := (rC S L B).1) (by omega)) tm1 c_2
      refine lv_aload_n hx hcd dX3_execute_50 rfl (lv_at hl 2 rfl) ?_
      refine va_get (D := eD V) (ci := 7) (v := .ref (eX V (8 * 0))) (C := RX3) (T := TX3) (N := 11) hx hcd G.2.2.2.2 iwX3 G.2.2.2.1 hC.1 h.1 (96 + 0) (cF_at V _ (i := 0) (by decide)) rfl 0 (by decide) (G.2.2.2.2 _ mw_242) (fun y h9 => h9) rfl dX3_execute_51 ?_
      refine lv_aload_n hx hcd dX3_execute_54 rfl (lv_at hl 2 rfl) ?_
      refine va_get (D := eD V) (ci := 7) (v := .ref (eX V (8 * 2))) (C := RX3) (T := TX3) (N := 11) hx hcd G.2.2.2.2 iwX3 G.2.2.2.1 hC.1 h.1 (96 + 0) (cF_at V _ (i := 0) (by decide)) rfl 2 (by decide) (G.2.2.2.2 _ mw_244) (fun y h9 => h9) rfl dX3_execute_55 ?_
      have h := cH_b 0 h
      refine k_Vv (As := [.ref (eX V (8 * 2))]) (rest := []) (b := eX V (8 * 0)) G hC hB h (met_X0_copyFrom l V (setB (setB (xS S L y7) 2 B) 0 (rC S L B).2) 0 ((setB (setB (xS S L y7) 2 B) 0 (rC S L B).2).1 0) (by omega) 2 (by omega) (by omega) hz h3 hbn hbR) mw_737 kv_X0_copyFrom ⟨rfl, rfl⟩ ⟨Nat.le_of_ble_eq_true rfl, Nat.le_of_ble_eq_true rfl⟩ (r_bV hC h 0 (by omega)) rfl rfl hl.1 (Nat.le_of_ble_eq_true rfl) dX3_execute_58 ⟨Nat.le_of_ble_eq_true rfl, Nat.le_of_ble_eq_true rfl⟩ (fun u H locs hp h => ?_)
      obtain rfl := hp
      have h : cH V s H locs (cWs V (setB (setB (xS S L y7) 2 B) 0 B)) := by rw [setB_set] at h; exact h
      refine lv_aload_n hx hcd dX3_execute_61 rfl (lv_at hl 2 rfl) ?_
      refine lv_iload_n hx hcd dX3_execute_62 rfl (lv_at hl 0 rfl) ?_
      refine r_sP G hC h 2 (by decide) mw_252 (fun z => absurd z (by decide)) rfl dX3_execute_63 (fun H locs h => ?_)
      subst hQ
      exact kx_throw G hst hC h hl.1 htab hlocks kth_318_320 dX3_execute_66 dX3_execute_69 dX3_execute_70 dX3_execute_73 dX3_execute_76 (Nat.le_of_ble_eq_true rfl) (Nat.le_of_ble_eq_true rfl) (Nat.le_of_ble_eq_true rfl) (Nat.le_of_ble_eq_true rfl) (Nat.le_of_ble_eq_true rfl) (Nat.le_of_ble_eq_true rfl) (Or.inr ⟨y7, hRz, rfl, by omega, by omega, rfl⟩)
  · have c_1 := cNe (tA (n := (rT S L).1) (by omega)) tm1 c_1
    refine lv_aload_n hx hcd dX3_execute_13 rfl (lv_at hl 1 rfl) ?_
    refine lv_iload_n hx hcd dX3_execute_14 rfl (lv_at hl 0 rfl) ?_
    refine r_sP G hC h 1 (by decide) mw_251 (fun z => absurd z (by decide)) rfl dX3_execute_15 (fun H locs h => ?_)
    subst hQ
    exact kx_throw G hst hC h hl.1 htab hlocks kth_307_309 dX3_execute_18 dX3_execute_21 dX3_execute_22 dX3_execute_25 dX3_execute_28 (Nat.le_of_ble_eq_true rfl) (Nat.le_of_ble_eq_true rfl) (Nat.le_of_ble_eq_true rfl) (Nat.le_of_ble_eq_true rfl) (Nat.le_of_ble_eq_true rfl) (Nat.le_of_ble_eq_true rfl) (Or.inl ⟨y7, hRz, rfl, by omega, rfl⟩)
