theorem kv_X3_allows : kV yX3_allows cX3_allows 4 (some .boolean) 3 := ⟨mw_1423, mw_18, mw_56, mw_1424, by decide, by decide, by decide +kernel⟩
theorem kv_X3_carryOut : kV yX3_carryOut cX3_carryOut 4 none 3 := ⟨mw_1427, mw_19, mw_56, mw_1428, by decide, by decide, by decide +kernel⟩
set_option maxHeartbeats 4000000 in
set_option maxRecDepth 100000 in
/-- carryOutCommands() -/
theorem met_X3_carryOutCommands (l : Launch) (V : kEnv) (S : kCs) (B : kBd) (hI : bI B) (kd fa sb : Nat → Nat) (hkd : ∀ i, i < 60 → S.2.2.1 1 i = nI (kd i) ∧ kd i < 12) (hfa : ∀ i, i < 60 → S.2.2.1 2 i = nI (fa i) ∧ fa i < 100) (hsb : ∀ i, i < 60 → S.2.2.1 3 i = nI (sb i) ∧ sb i < 100) (cm : Nat) (hcm : S.2.1 5 = nI cm) (hcm6 : cm ≤ 60) : kI l yX3_carryOutCommands cX3_carryOutCommands 5 (some .int) { frames := 5, cells := 0, slots := 0, locals := 114 } V (cWs V) [.ref (eX V 96)] (setB S 0 B) (fun r u => r = nI (rcN kd fa sb cm 0 B).1 - 1 ∧ u = setB S 0 (rcN kd fa sb cm 0 B).2) 0 0 := by
  refine kI_of (by decide +kernel) (Nat.le_of_ble_eq_true rfl) ?_
  intro pg e s m args below meth c G hret hlocks hC hB h ls hl Q hQ
  have hl : lv_has ls 5 [(0, .ref (eX V 96))] := hl
  have hx := G.1
  have hcd := G.2.1
  refine lv_iconst (v := nI 0) hx hcd dX3_carryOutCommands_0 (by decide) ?_
  refine lv_istore_n (lv' := [(1, .int (nI 0)), (0, .ref (eX V 96))]) hx hcd dX3_carryOutCommands_1 rfl hl (by decide) rfl (fun ls hl => ?_)
  have L_1 : ∀ (fu_3 : Nat) (i : Nat) (B9 : kBd) (hi : i ≤ cm) (hI9 : bI B9) (hR9 : rcN kd fa sb cm 0 B = rcN kd fa sb (cm - i) i B9), 61 - i < fu_3 → ∀ (H : Heap) (locs : List Loc), cH V s H locs (cWs V (setB S 0 B9)) → ∀ ls : Array Slot, lv_has ls 5 [(1, .int (nI (i))), (0, .ref (eX V 96))] → W pg l e { frames := 5, cells := 0, slots := 0, locals := 114 } s m args below meth c H locs 0 0 Q (F0 m 2 ls []) := by
    intro fu_3
    induction fu_3 with
    | zero => intro i B9 hi hI9 hR9 hm; exact absurd hm (Nat.not_lt_zero _)
    | succ fu_3 ih_2 =>
      intro i B9 hi hI9 hR9 hm H locs h ls hl
      refine lv_iload_n hx hcd dX3_carryOutCommands_2 rfl (lv_at hl 0 rfl) ?_
      refine lv_aload_n hx hcd dX3_carryOutCommands_3 rfl (lv_at hl 1 rfl) ?_
      refine va_get (D := eD V) (ci := 7) (v := .ref (eX V 99)) (C := RX3) (T := TX3) (N := 11) hx hcd G.2.2.2.2 iwX3 G.2.2.2.1 hC.1 h.1 (96 + 0) (cF_at V _ (i := 0) (by decide)) rfl 5 (by decide) (G.2.2.2.2 _ mw_247) (fun y h9 => h9) rfl dX3_carryOutCommands_4 ?_
      refine va_get (D := eD V) (ci := 5) (v := .int (nI (cm))) (C := RX1) (T := TX1) (N := 6) hx hcd G.2.2.2.2 iwX1 G.2.2.2.1 hC.1 h.1 (96 + 3) (cF_at V _ (i := 3) (by decide)) rfl 3 (by decide) (G.2.2.2.2 _ mw_224) (fun y h9 => h9) (congrArg (fun z => some (Value.int z)) (hcm)) dX3_carryOutCommands_7 ?_
      refine lv_icmp_ge (tgt := 77) hx hcd dX3_carryOutCommands_10 (by decide) (fun c_4 => ?_) (fun c_4 => ?_)
      · have c_4 := cLe (tN (n := cm) (by omega)) (tN (n := i) (by omega)) c_4
        refine lv_iconst (v := -1) hx hcd dX3_carryOutCommands_77 (by decide) ?_
        exact k_reti hQ G hret hlocks h (⟨by rw [hR9, show cm - i = 0 by omega]; exact a0.symm, by rw [hR9, show cm - i = 0 by omega]; rfl⟩) (Nat.le_of_ble_eq_true rfl) (Nat.le_of_ble_eq_true rfl) dX3_carryOutCommands_78
      · have c_4 := cNle (tN (n := cm) (by omega)) (tN (n := i) (by omega)) c_4
        refine lv_iload_n hx hcd dX3_carryOutCommands_13 rfl (lv_at hl 0 rfl) ?_
        refine lv_bipush (v := nI 60) hx hcd dX3_carryOutCommands_14 (by decide) ?_
        refine lv_icmp_ge (tgt := 77) hx hcd dX3_carryOutCommands_16 (by decide) (fun c_5 => ?_) (fun c_5 => ?_)
        · have c_5 := cLe (tN (n := 60) (by decide)) (tN (n := i) (by omega)) c_5
          refine lv_iconst (v := -1) hx hcd dX3_carryOutCommands_77 (by decide) ?_
          exact k_reti hQ G hret hlocks h (⟨by rw [hR9, show cm - i = 0 by omega]; exact a0.symm, by rw [hR9, show cm - i = 0 by omega]; rfl⟩) (Nat.le_of_ble_eq_true rfl) (Nat.le_of_ble_eq_true rfl) dX3_carryOutCommands_78
        · have c_5 := cNle (tN (n := 60) (by decide)) (tN (n := i) (by omega)) c_5
          refine lv_aload_n hx hcd dX3_carryOutCommands_19 rfl (lv_at hl 1 rfl) ?_
          refine va_get (D := eD V) (ci := 7) (v := .ref (eX V 99)) (C := RX3) (T := TX3) (N := 11) hx hcd G.2.2.2.2 iwX3 G.2.2.2.1 hC.1 h.1 (96 + 0) (cF_at V _ (i := 0) (by decide)) rfl 5 (by decide) (G.2.2.2.2 _ mw_247) (fun y h9 => h9) rfl dX3_carryOutCommands_20 ?_
          refine va_get (D := eD V) (ci := 5) (v := .ref (eX V (100 + 1))) (C := RX1) (T := TX1) (N := 6) hx hcd G.2.2.2.2 iwX1 G.2.2.2.1 hC.1 h.1 (96 + 3) (cF_at V _ (i := 3) (by decide)) rfl 0 (by decide) (G.2.2.2.2 _ mw_218) (fun y h9 => h9) rfl dX3_carryOutCommands_23 ?_
          refine lv_iload_n hx hcd dX3_carryOutCommands_26 rfl (lv_at hl 0 rfl) ?_
          refine r_aL G hC h 1 (i) (by decide) rfl (show i < 60 by omega) (x := nI (kd i)) (hkd i (by omega)).1 dX3_carryOutCommands_27 ?_
          refine lv_istore_n (lv' := [(2, .int (nI (kd i))), (1, .int (nI (i))), (0, .ref (eX V 96))]) hx hcd dX3_carryOutCommands_28 rfl hl (by decide) rfl (fun ls hl => ?_)
          refine lv_aload_n hx hcd dX3_carryOutCommands_29 rfl (lv_at hl 2 rfl) ?_
          refine va_get (D := eD V) (ci := 7) (v := .ref (eX V 99)) (C := RX3) (T := TX3) (N := 11) hx hcd G.2.2.2.2 iwX3 G.2.2.2.1 hC.1 h.1 (96 + 0) (cF_at V _ (i := 0) (by decide)) rfl 5 (by decide) (G.2.2.2.2 _ mw_247) (fun y h9 => h9) rfl dX3_carryOutCommands_30 ?_
          refine va_get (D := eD V) (ci := 5) (v := .ref (eX V (100 + 2))) (C := RX1) (T := TX1) (N := 6) hx hcd G.2.2.2.2 iwX1 G.2.2.2.1 hC.1 h.1 (96 + 3) (cF_at V _ (i := 3) (by decide)) rfl 1 (by decide) (G.2.2.2.2 _ mw_220) (fun y h9 => h9) rfl dX3_carryOutCommands_33 ?_
          refine lv_iload_n hx hcd dX3_carryOutCommands_36 rfl (lv_at hl 1 rfl) ?_
          refine r_aL G hC h 2 (i) (by decide) rfl (show i < 60 by omega) (x := nI (fa i)) (hfa i (by omega)).1 dX3_carryOutCommands_37 ?_
          refine lv_istore_n (lv' := [(3, .int (nI (fa i))), (2, .int (nI (kd i))), (1, .int (nI (i))), (0, .ref (eX V 96))]) hx hcd dX3_carryOutCommands_38 rfl hl (by decide) rfl (fun ls hl => ?_)
          refine lv_aload_n hx hcd dX3_carryOutCommands_39 rfl (lv_at hl 3 rfl) ?_
          refine va_get (D := eD V) (ci := 7) (v := .ref (eX V 99)) (C := RX3) (T := TX3) (N := 11) hx hcd G.2.2.2.2 iwX3 G.2.2.2.1 hC.1 h.1 (96 + 0) (cF_at V _ (i := 0) (by decide)) rfl 5 (by decide) (G.2.2.2.2 _ mw_247) (fun y h9 => h9) rfl dX3_carryOutCommands_40 ?_
          refine va_get (D := eD V) (ci := 5) (v := .ref (eX V (100 + 3))) (C := RX1) (T := TX1) (N := 6) hx hcd G.2.2.2.2 iwX1 G.2.2.2.1 hC.1 h.1 (96 + 3) (cF_at V _ (i := 3) (by decide)) rfl 2 (by decide) (G.2.2.2.2 _ mw_222) (fun y h9 => h9) rfl dX3_carryOutCommands_43 ?_
          refine lv_iload_n hx hcd dX3_carryOutCommands_46 rfl (lv_at hl 2 rfl) ?_
          refine r_aL G hC h 3 (i) (by decide) rfl (show i < 60 by omega) (x := nI (sb i)) (hsb i (by omega)).1 dX3_carryOutCommands_47 ?_
          refine lv_istore (lv' := [(4, .int (nI (sb i))), (3, .int (nI (fa i))), (2, .int (nI (kd i))), (1, .int (nI (i))), (0, .ref (eX V 96))]) hx hcd dX3_carryOutCommands_48 hl (by decide) rfl (fun ls hl => ?_)
          refine lv_aload_n hx hcd dX3_carryOutCommands_50 rfl (lv_at hl 4 rfl) ?_
          refine lv_iload_n hx hcd dX3_carryOutCommands_51 rfl (lv_at hl 2 rfl) ?_
          refine lv_iload_n hx hcd dX3_carryOutCommands_52 rfl (lv_at hl 1 rfl) ?_
          refine lv_iload hx hcd dX3_carryOutCommands_53 (lv_at hl 0 rfl) ?_
          refine k_Vi (As := [.int (nI (kd i)), .int (nI (fa i)), .int (nI (sb i))]) (rest := []) (b := eX V 96) G hC hB h (met_allows l V S B9 hI9 (kd i) (hkd i (by omega)).2 (fa i) (sb i) (hfa i (by omega)).2 (hsb i (by omega)).2) mw_1421 kv_X3_allows ⟨rfl, rfl⟩ ⟨Nat.le_of_ble_eq_true rfl, Nat.le_of_ble_eq_true rfl⟩ (r_sV hC h) rfl rfl hl.1 (Nat.le_of_ble_eq_true rfl) dX3_carryOutCommands_55 ⟨Nat.le_of_ble_eq_true rfl, Nat.le_of_ble_eq_true rfl⟩ (fun r u H locs hp h => ?_)
          obtain ⟨rfl, hu⟩ := hp; rw [hu] at h
          refine lv_if_ne (tgt := 63) hx hcd dX3_carryOutCommands_58 (by decide) (fun c_6 => ?_) (fun c_6 => ?_)
          · have c_6 := bz1 c_6
            refine lv_aload_n hx hcd dX3_carryOutCommands_63 rfl (lv_at hl 4 rfl) ?_
            refine lv_iload_n hx hcd dX3_carryOutCommands_64 rfl (lv_at hl 2 rfl) ?_
            refine lv_iload_n hx hcd dX3_carryOutCommands_65 rfl (lv_at hl 1 rfl) ?_
            refine lv_iload hx hcd dX3_carryOutCommands_66 (lv_at hl 0 rfl) ?_
            refine k_Vv (As := [.int (nI (kd i)), .int (nI (fa i)), .int (nI (sb i))]) (rest := []) (b := eX V 96) G hC hB h (met_carryOut l V S B9 hI9 (kd i) (hkd i (by omega)).2 (fa i) (sb i) (hfa i (by omega)).2 (hsb i (by omega)).2 (by assumption)) mw_1425 kv_X3_carryOut ⟨rfl, rfl⟩ ⟨Nat.le_of_ble_eq_true rfl, Nat.le_of_ble_eq_true rfl⟩ (r_sV hC h) rfl rfl hl.1 (Nat.le_of_ble_eq_true rfl) dX3_carryOutCommands_68 ⟨Nat.le_of_ble_eq_true rfl, Nat.le_of_ble_eq_true rfl⟩ (fun u H locs hp h => ?_)
            rw [hp] at h
            refine lv_iinc (v := nI (i + 1)) (lv' := [(1, .int (nI (i + 1))), (4, .int (nI (sb i))), (3, .int (nI (fa i))), (2, .int (nI (kd i))), (0, .ref (eX V 96))]) hx hcd dX3_carryOutCommands_71 hl (k := 3) rfl (by exact nI_add (i) 1) (by decide) rfl (fun ls hl => ?_)
            refine lv_goto (tgt := 2) hx hcd dX3_carryOutCommands_74 (by decide) ?_
            exact ih_2 (i + 1) (cry B9 (kd i) (fa i) (sb i)) (by omega) (bI_cry hI9 (hkd i (by omega)).2 (hfa i (by omega)).2 (hsb i (by omega)).2 (by assumption)) (by rw [hR9, show cm - i = (cm - (i + 1)) + 1 by omega, rcN, if_pos (by assumption)]) (by omega) _ _ h _ (lv_sub hl [0, 4] rfl)
          · have c_6 := bz0 c_6
            refine lv_iload_n hx hcd dX3_carryOutCommands_61 rfl (lv_at hl 3 rfl) ?_
            exact k_reti hQ G hret hlocks h (⟨by rw [hR9, show cm - i = (cm - (i + 1)) + 1 by omega, rcN, if_neg (by rw [Bool.not_eq_true]; assumption)]; exact aOf.symm, by rw [hR9, show cm - i = (cm - (i + 1)) + 1 by omega, rcN, if_neg (by rw [Bool.not_eq_true]; assumption)]⟩) (Nat.le_of_ble_eq_true rfl) (Nat.le_of_ble_eq_true rfl) dX3_carryOutCommands_62
  exact L_1 (61 + 1) 0 B (by omega) hI rfl (by omega) _ _ h _ (lv_sub hl [0, 1] rfl)
