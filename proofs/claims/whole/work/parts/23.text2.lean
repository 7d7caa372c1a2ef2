theorem kv_J0_charAt_5068e : kV yJ0_charAt_5068e cJ0_charAt_5068e 2 (some .char) 1 := ⟨mw_1388, mw_1389, mw_62, mw_1390, by decide, by decide, by decide +kernel⟩
theorem kv_J0_length_8abf5 : kV yJ0_length_8abf5 cJ0_length_8abf5 1 (some .int) 0 := ⟨mw_420, mw_421, mw_62, mw_422, by decide, by decide, by decide +kernel⟩
theorem kv_X1_keepNumber : kV yX1_keepNumber cX1_keepNumber 4 none 3 := ⟨mw_1412, mw_16, mw_59, mw_1413, by decide, by decide, by decide +kernel⟩
theorem kv_X1_readNumber : kV yX1_readNumber cX1_readNumber 4 (some .int) 1 := ⟨mw_1404, mw_14, mw_59, mw_1405, by decide, by decide, by decide +kernel⟩
theorem kv_X1_skip : kV yX1_skip cX1_skip 2 (some .boolean) 1 := ⟨mw_1360, mw_11, mw_59, mw_1361, by decide, by decide, by decide +kernel⟩
set_option maxHeartbeats 4000000 in
set_option maxRecDepth 100000 in
/-- keepNumber(idx, k, v) -/
theorem met_X1_keepNumber (l : Launch) (V : kEnv) (S : kCs) (p cm : Nat) (K F Z : Nat → Int32) (idx k v : Nat) (hi : idx < 60) (hk : k < 100) : kU l yX1_keepNumber cX1_keepNumber 4 { frames := 0, cells := 0, slots := 0, locals := 0 } V (cWs V) [.ref (eX V 99), .int (nI (idx)), .int (nI (k)), .int (nI (v))] (xW S p cm K F Z) (fun u => u = xW S p cm K (if k = 0 then upd F idx (nI v) else F) (if k = 0 then Z else upd Z idx (nI v))) 0 0 := by
  refine kU_of (by decide +kernel) (Nat.le_of_ble_eq_true rfl) ?_
  intro pg e s m args below meth c G hret hlocks hC hB h ls hl Q hQ
  have hl : lv_has ls 4 [(0, .ref (eX V 99)), (1, .int (nI (idx))), (2, .int (nI (k))), (3, .int (nI (v)))] := hl
  have hx := G.1
  have hcd := G.2.1
  refine lv_iload_n hx hcd dX1_keepNumber_0 rfl (lv_at hl 2 rfl) ?_
  refine lv_if_ne (tgt := 14) hx hcd dX1_keepNumber_1 (by decide) (fun c_1 => ?_) (fun c_1 => ?_)
  · have c_1 := cNe (tN (n := k) (by omega)) t0 c_1
    refine lv_aload_n hx hcd dX1_keepNumber_14 rfl (lv_at hl 0 rfl) ?_
    refine va_get (D := eD V) (ci := 5) (v := .ref (eX V (100 + 3))) (C := RX1) (T := TX1) (N := 6) hx hcd G.2.2.2.2 iwX1 G.2.2.2.1 hC.1 h.1 (96 + 3) (cF_at V _ (i := 3) (by decide)) rfl 2 (by decide) (G.2.2.2.2 _ mw_221) (fun y h9 => h9) rfl dX1_keepNumber_15 ?_
    refine lv_iload_n hx hcd dX1_keepNumber_18 rfl (lv_at hl 1 rfl) ?_
    refine lv_iload_n hx hcd dX1_keepNumber_19 rfl (lv_at hl 3 rfl) ?_
    refine r_aT G hC h 3 (idx) (by decide) rfl (show idx < 60 by omega) (xW_z _ _ _ _ _ _ _ _) dX1_keepNumber_20 (fun H locs h => ?_)
    exact k_retv hQ G hret hlocks h (by rw [if_neg (by omega), if_neg (by omega)]) (Nat.le_of_ble_eq_true rfl) (Nat.le_of_ble_eq_true rfl) dX1_keepNumber_21
  · have c_1 := cEq (tN (n := k) (by omega)) t0 c_1
    refine lv_aload_n hx hcd dX1_keepNumber_4 rfl (lv_at hl 0 rfl) ?_
    refine va_get (D := eD V) (ci := 5) (v := .ref (eX V (100 + 2))) (C := RX1) (T := TX1) (N := 6) hx hcd G.2.2.2.2 iwX1 G.2.2.2.1 hC.1 h.1 (96 + 3) (cF_at V _ (i := 3) (by decide)) rfl 1 (by decide) (G.2.2.2.2 _ mw_219) (fun y h9 => h9) rfl dX1_keepNumber_5 ?_
    refine lv_iload_n hx hcd dX1_keepNumber_8 rfl (lv_at hl 1 rfl) ?_
    refine lv_iload_n hx hcd dX1_keepNumber_9 rfl (lv_at hl 3 rfl) ?_
    refine r_aT G hC h 2 (idx) (by decide) rfl (show idx < 60 by omega) (xW_f _ _ _ _ _ _ _ _) dX1_keepNumber_10 (fun H locs h => ?_)
    refine lv_goto (tgt := 21) hx hcd dX1_keepNumber_11 (by decide) ?_
    exact k_retv hQ G hret hlocks h (by rw [if_pos (by omega), if_pos (by omega)]) (Nat.le_of_ble_eq_true rfl) (Nat.le_of_ble_eq_true rfl) dX1_keepNumber_21
set_option maxHeartbeats 4000000 in
set_option maxRecDepth 100000 in
/-- readForm(form, idx) -/
theorem met_X1_readForm (l : Launch) (V : kEnv) (S : kCs) (p cm : Nat) (K F Z : Nat → Int32) (L : List Nat) (hR : sbR (S.2.2.2 1) L) (hp : p ≤ L.length) (hL : L.length ≤ 60) (i idx : Nat) (hi : i < 23) (hidx : idx < 60) : kI l yX1_readForm cX1_readForm 7 (some .boolean) { frames := 6, cells := 0, slots := 0, locals := 132 } V (cWs V) [.ref (eX V 99), .ref (eX V (200 + i)), .int (nI (idx))] (xW S p cm K F Z) (fun r u => r = bz (rdF L idx (kLs i) p 0 F Z).1 ∧ u = xW S (rdF L idx (kLs i) p 0 F Z).2.1 cm K (rdF L idx (kLs i) p 0 F Z).2.2.1 (rdF L idx (kLs i) p 0 F Z).2.2.2) 0 0 := by
  refine kI_of (by decide +kernel) (Nat.le_of_ble_eq_true rfl) ?_
  intro pg e s m args below meth c G hret hlocks hC hB h ls hl Q hQ
  have hl : lv_has ls 7 [(0, .ref (eX V 99)), (1, .ref (eX V (200 + i))), (2, .int (nI (idx)))] := hl
  have hx := G.1
  have hcd := G.2.1
  have k9 := kTx_ok ⟨i, hi⟩
  have hl11 : (kLs i).length ≤ 11 := k9.2.1
  refine lv_iconst (v := nI 0) hx hcd dX1_readForm_0 (by decide) ?_
  refine lv_istore_n (lv' := [(3, .int (nI 0)), (0, .ref (eX V 99)), (1, .ref (eX V (200 + i))), (2, .int (nI (idx)))]) hx hcd dX1_readForm_1 rfl hl (by decide) rfl (fun ls hl => ?_)
  refine lv_iconst (v := nI 0) hx hcd dX1_readForm_2 (by decide) ?_
  refine lv_istore (lv' := [(4, .int (nI 0)), (3, .int (nI 0)), (0, .ref (eX V 99)), (1, .ref (eX V (200 + i))), (2, .int (nI (idx)))]) hx hcd dX1_readForm_3 hl (by decide) rfl (fun ls hl => ?_)
  have L_1 : ∀ (fu_3 : Nat) (j : Nat) (q : Nat) (n : Nat) (F9 : Nat → Int32) (Z9 : Nat → Int32) (hj : j ≤ (kLs i).length) (hq : q ≤ L.length) (hn : n ≤ j) (hF : rdF L idx (kLs i) p 0 F Z = rdF L idx ((kLs i).drop j) q n F9 Z9), 12 - j < fu_3 → ∀ (H : Heap) (locs : List Loc), cH V s H locs (cWs V (xW S q cm K F9 Z9)) → ∀ ls : Array Slot, lv_has ls 7 [(4, .int (nI (j))), (3, .int (nI (n))), (0, .ref (eX V 99)), (1, .ref (eX V (200 + i))), (2, .int (nI (idx)))] → W pg l e { frames := 6, cells := 0, slots := 0, locals := 132 } s m args below meth c H locs 0 0 Q (F0 m 5 ls []) := by
    intro fu_3
    induction fu_3 with
    | zero => intro j q n F9 Z9 hj hq hn hF hm; exact absurd hm (Nat.not_lt_zero _)
    | succ fu_3 ih_2 =>
      intro j q n F9 Z9 hj hq hn hF hm H locs h ls hl
      refine lv_iload hx hcd dX1_readForm_5 (lv_at hl 0 rfl) ?_
      refine lv_aload_n hx hcd dX1_readForm_7 rfl (lv_at hl 3 rfl) ?_
      refine k_Vi (As := []) (rest := [.int (nI (j))]) (b := eX V (200 + i)) G hC hB h (met_J0_length_8abf5 l V (xW S q cm K F9 Z9) i hi) mw_1386 kv_J0_length_8abf5 ⟨rfl, rfl⟩ ⟨Nat.le_of_ble_eq_true rfl, Nat.le_of_ble_eq_true rfl⟩ (r_xV hC h i hi) rfl rfl hl.1 (Nat.le_of_ble_eq_true rfl) dX1_readForm_8 ⟨Nat.le_of_ble_eq_true rfl, Nat.le_of_ble_eq_true rfl⟩ (fun r u H locs hp h => ?_)
      obtain ⟨rfl, hu⟩ := hp; rw [hu] at h
      refine lv_icmp_ge (tgt := 93) hx hcd dX1_readForm_11 (by decide) (fun c_4 => ?_) (fun c_4 => ?_)
      · have c_4 := cLe (tN (n := (kLs i).length) (by omega)) (tN (n := j) (by omega)) c_4
        refine lv_iconst (v := nI 1) hx hcd dX1_readForm_93 (by decide) ?_
        exact k_retz hQ G hret hlocks h (Or.inr rfl) (by rw [hF, List.drop_eq_nil_of_le (by omega)]; exact ⟨rfl, rfl⟩) (Nat.le_of_ble_eq_true rfl) (Nat.le_of_ble_eq_true rfl) dX1_readForm_94
      · have c_4 := cNle (tN (n := (kLs i).length) (by omega)) (tN (n := j) (by omega)) c_4
        refine lv_aload_n hx hcd dX1_readForm_14 rfl (lv_at hl 3 rfl) ?_
        refine lv_iload hx hcd dX1_readForm_15 (lv_at hl 0 rfl) ?_
        refine k_Vi (As := [.int (nI (j))]) (rest := []) (b := eX V (200 + i)) G hC hB h (met_J0_charAt_5068e l V (xW S q cm K F9 Z9) i hi j (by omega)) mw_1387 kv_J0_charAt_5068e ⟨rfl, rfl⟩ ⟨Nat.le_of_ble_eq_true rfl, Nat.le_of_ble_eq_true rfl⟩ (r_xV hC h i hi) rfl rfl hl.1 (Nat.le_of_ble_eq_true rfl) dX1_readForm_17 ⟨Nat.le_of_ble_eq_true rfl, Nat.le_of_ble_eq_true rfl⟩ (fun r u H locs hp h => ?_)
        obtain ⟨rfl, hu⟩ := hp; rw [hu] at h
        refine lv_istore (lv' := [(5, .int (nI ((kLs i).getD j 0))), (4, .int (nI (j))), (3, .int (nI (n))), (0, .ref (eX V 99)), (1, .ref (eX V (200 + i))), (2, .int (nI (idx)))]) hx hcd dX1_readForm_20 hl (by decide) rfl (fun ls hl => ?_)
        have hc1 : ((kLs i).getD j 0) < 128 := k9.2.2.2 ⟨j, by omega⟩
        refine lv_iload hx hcd dX1_readForm_22 (lv_at hl 0 rfl) ?_
        refine lv_bipush (v := nI 78) hx hcd dX1_readForm_24 (by decide) ?_
        refine lv_icmp_eq (tgt := 36) hx hcd dX1_readForm_26 (by decide) (fun c_5 => ?_) (fun c_5 => ?_)
        · have c_5 := cEq (tN (n := (kLs i).getD j 0) (by omega)) (tN (n := 78) (by decide)) c_5
          refine lv_aload_n hx hcd dX1_readForm_36 rfl (lv_at hl 3 rfl) ?_
          refine lv_iload hx hcd dX1_readForm_37 (lv_at hl 0 rfl) ?_
          refine lv_bipush (v := nI 78) hx hcd dX1_readForm_39 (by decide) ?_
          refine lv_icmp_ne (tgt := 48) hx hcd dX1_readForm_41 (by decide) (fun c_6 => ?_) (fun c_6 => ?_)
          · have c_6 := cNe (tN (n := (kLs i).getD j 0) (by omega)) (tN (n := 78) (by decide)) c_6
            exact absurd c_6 (by omega)
          · have c_6 := cEq (tN (n := (kLs i).getD j 0) (by omega)) (tN (n := 78) (by decide)) c_6
            refine lv_iconst (v := nI 1) hx hcd dX1_readForm_44 (by decide) ?_
            refine lv_goto (tgt := 49) hx hcd dX1_readForm_45 (by decide) ?_
            refine k_Vi (As := [.int (nI 1)]) (rest := []) (b := eX V 99) G hC hB h (met_X1_readNumber l V S q cm K F9 Z9 L hR (by omega) hL true) mw_1402 kv_X1_readNumber ⟨rfl, rfl⟩ ⟨Nat.le_of_ble_eq_true rfl, Nat.le_of_ble_eq_true rfl⟩ (r_tV hC h) rfl rfl hl.1 (Nat.le_of_ble_eq_true rfl) dX1_readForm_49 ⟨Nat.le_of_ble_eq_true rfl, Nat.le_of_ble_eq_true rfl⟩ (fun r u H locs hp h => ?_)
            obtain ⟨rfl, rfl⟩ := hp
            have q_7 := tNm_le L true q
            refine lv_istore (lv' := [(6, .int (nI (tNm L true q) - 1)), (5, .int (nI ((kLs i).getD j 0))), (4, .int (nI (j))), (3, .int (nI (n))), (0, .ref (eX V 99)), (1, .ref (eX V (200 + i))), (2, .int (nI (idx)))]) hx hcd dX1_readForm_52 hl (by decide) rfl (fun ls hl => ?_)
            refine lv_iload hx hcd dX1_readForm_54 (lv_at hl 0 rfl) ?_
            refine lv_iconst (v := -1) hx hcd dX1_readForm_56 (by decide) ?_
            refine lv_icmp_ne (tgt := 62) hx hcd dX1_readForm_57 (by decide) (fun c_8 => ?_) (fun c_8 => ?_)
            · have c_8 := cNe (tA (n := tNm L true q) (by omega)) tm1 c_8
              refine lv_aload_n hx hcd dX1_readForm_62 rfl (lv_at hl 4 rfl) ?_
              refine lv_iload_n hx hcd dX1_readForm_63 rfl (lv_at hl 6 rfl) ?_
              refine lv_iload_n hx hcd dX1_readForm_64 rfl (lv_at hl 3 rfl) ?_
              refine lv_iload hx hcd dX1_readForm_65 (lv_at hl 0 rfl) ?_
              refine lv_topi (fun z_9 e_z_9 => ?_)
              obtain rfl : z_9 = nI ((tNm L true q) - 1) := by rw [e_z_9]; exact pk_sub (b := 1) (by omega)
              refine k_Vv (As := [.int (nI (idx)), .int (nI (n)), .int (nI ((tNm L true q) - 1))]) (rest := []) (b := eX V 99) G hC hB h (met_X1_keepNumber l V S (tNp L true q) cm K F9 Z9 idx n ((tNm L true q) - 1) (by omega) (by omega)) mw_1410 kv_X1_keepNumber ⟨rfl, rfl⟩ ⟨Nat.le_of_ble_eq_true rfl, Nat.le_of_ble_eq_true rfl⟩ (r_tV hC h) rfl rfl hl.1 (Nat.le_of_ble_eq_true rfl) dX1_readForm_67 ⟨Nat.le_of_ble_eq_true rfl, Nat.le_of_ble_eq_true rfl⟩ (fun u H locs hp h => ?_)
              obtain rfl := hp
              refine lv_iinc (v := nI (n + 1)) (lv' := [(3, .int (nI (n + 1))), (6, .int (nI (tNm L true q) - 1)), (5, .int (nI ((kLs i).getD j 0))), (4, .int (nI (j))), (0, .ref (eX V 99)), (1, .ref (eX V (200 + i))), (2, .int (nI (idx)))]) hx hcd dX1_readForm_70 hl (k := 3) rfl (by exact nI_add (n) 1) (by decide) rfl (fun ls hl => ?_)
              refine lv_goto (tgt := 87) hx hcd dX1_readForm_73 (by decide) ?_
              refine lv_iinc (v := nI (j + 1)) (lv' := [(4, .int (nI (j + 1))), (3, .int (nI (n + 1))), (6, .int (nI (tNm L true q) - 1)), (5, .int (nI ((kLs i).getD j 0))), (0, .ref (eX V 99)), (1, .ref (eX V (200 + i))), (2, .int (nI (idx)))]) hx hcd dX1_readForm_87 hl (k := 3) rfl (by exact nI_add (j) 1) (by decide) rfl (fun ls hl => ?_)
              refine lv_goto (tgt := 5) hx hcd dX1_readForm_90 (by decide) ?_
              exact ih_2 (j + 1) (tNp L true q) (n + 1) (if n = 0 then upd F9 idx (nI ((tNm L true q) - 1)) else F9) (if n = 0 then Z9 else upd Z9 idx (nI ((tNm L true q) - 1))) (by omega) (tNp_le _ hq) (by omega) (by rw [hF, drop_at (by omega), rdF, if_pos (Or.inl (by omega)), show decide (((kLs i).getD j 0) = 78) = true from decide_eq_true (by omega)]; exact if_neg (by omega)) (by omega) _ _ h _ (lv_sub hl [0, 1, 4, 5, 6] rfl)
            · have c_8 := cEq (tA (n := tNm L true q) (by omega)) tm1 c_8
              refine lv_iconst (v := nI 0) hx hcd dX1_readForm_60 (by decide) ?_
              exact k_retz hQ G hret hlocks h (Or.inl rfl) (by rw [hF, drop_at (by omega), rdF, if_pos (Or.inl (by omega)), show decide (((kLs i).getD j 0) = 78) = true from decide_eq_true (by omega)]; rw [if_pos (by omega)]; exact ⟨rfl, by rw [show tNp L true q = q from tNp_0 (by omega)]⟩) (Nat.le_of_ble_eq_true rfl) (Nat.le_of_ble_eq_true rfl) dX1_readForm_61
        · have c_5 := cNe (tN (n := (kLs i).getD j 0) (by omega)) (tN (n := 78) (by decide)) c_5
          refine lv_iload hx hcd dX1_readForm_29 (lv_at hl 0 rfl) ?_
          refine lv_bipush (v := nI 68) hx hcd dX1_readForm_31 (by decide) ?_
          refine lv_icmp_ne (tgt := 76) hx hcd dX1_readForm_33 (by decide) (fun c_10 => ?_) (fun c_10 => ?_)
          · have c_10 := cNe (tN (n := (kLs i).getD j 0) (by omega)) (tN (n := 68) (by decide)) c_10
            refine lv_aload_n hx hcd dX1_readForm_76 rfl (lv_at hl 3 rfl) ?_
            refine lv_iload hx hcd dX1_readForm_77 (lv_at hl 0 rfl) ?_
            refine k_Vi (As := [.int (nI ((kLs i).getD j 0))]) (rest := []) (b := eX V 99) G hC hB h (met_X1_skip l V S q cm K F9 Z9 L hR (by omega) hL ((kLs i).getD j 0) (by omega)) mw_1358 kv_X1_skip ⟨rfl, rfl⟩ ⟨Nat.le_of_ble_eq_true rfl, Nat.le_of_ble_eq_true rfl⟩ (r_tV hC h) rfl rfl hl.1 (Nat.le_of_ble_eq_true rfl) dX1_readForm_79 ⟨Nat.le_of_ble_eq_true rfl, Nat.le_of_ble_eq_true rfl⟩ (fun r u H locs hp h => ?_)
            rcases hp with ⟨hs1, hs2, rfl, rfl⟩ | ⟨hs, rfl, rfl⟩
            · skip
              refine lv_if_ne (tgt := 87) hx hcd dX1_readForm_82 (by decide) (fun _ => ?_) (fun c_11 => absurd c_11 (by decide))
              refine lv_iinc (v := nI (j + 1)) (lv' := [(4, .int (nI (j + 1))), (5, .int (nI ((kLs i).getD j 0))), (3, .int (nI (n))), (0, .ref (eX V 99)), (1, .ref (eX V (200 + i))), (2, .int (nI (idx)))]) hx hcd dX1_readForm_87 hl (k := 1) rfl (by exact nI_add (j) 1) (by decide) rfl (fun ls hl => ?_)
              refine lv_goto (tgt := 5) hx hcd dX1_readForm_90 (by decide) ?_
              exact ih_2 (j + 1) (q + 1) n F9 Z9 (by omega) (by omega) (by omega) (by rw [hF, drop_at (by omega), rdF, if_neg (by omega), if_pos ⟨hs1, hs2⟩]) (by omega) _ _ h _ (lv_sub hl [0, 2, 3, 4, 5] rfl)
            · skip
              refine lv_if_ne (tgt := 87) hx hcd dX1_readForm_82 (by decide) (fun c_12 => absurd c_12 (by decide)) (fun _ => ?_)
              refine lv_iconst (v := nI 0) hx hcd dX1_readForm_85 (by decide) ?_
              exact k_retz hQ G hret hlocks h (Or.inl rfl) (by rw [hF, drop_at (by omega), rdF, if_neg (by omega), if_neg hs]; exact ⟨rfl, rfl⟩) (Nat.le_of_ble_eq_true rfl) (Nat.le_of_ble_eq_true rfl) dX1_readForm_86
          · have c_10 := cEq (tN (n := (kLs i).getD j 0) (by omega)) (tN (n := 68) (by decide)) c_10
            refine lv_aload_n hx hcd dX1_readForm_36 rfl (lv_at hl 3 rfl) ?_
            refine lv_iload hx hcd dX1_readForm_37 (lv_at hl 0 rfl) ?_
            refine lv_bipush (v := nI 78) hx hcd dX1_readForm_39 (by decide) ?_
            refine lv_icmp_ne (tgt := 48) hx hcd dX1_readForm_41 (by decide) (fun c_13 => ?_) (fun c_13 => ?_)
            · have c_13 := cNe (tN (n := (kLs i).getD j 0) (by omega)) (tN (n := 78) (by decide)) c_13
              refine lv_iconst (v := nI 0) hx hcd dX1_readForm_48 (by decide) ?_
              refine k_Vi (As := [.int (nI 0)]) (rest := []) (b := eX V 99) G hC hB h (met_X1_readNumber l V S q cm K F9 Z9 L hR (by omega) hL false) mw_1402 kv_X1_readNumber ⟨rfl, rfl⟩ ⟨Nat.le_of_ble_eq_true rfl, Nat.le_of_ble_eq_true rfl⟩ (r_tV hC h) rfl rfl hl.1 (Nat.le_of_ble_eq_true rfl) dX1_readForm_49 ⟨Nat.le_of_ble_eq_true rfl, Nat.le_of_ble_eq_true rfl⟩ (fun r u H locs hp h => ?_)
              obtain ⟨rfl, rfl⟩ := hp
              have q_14 := tNm_le L false q
              refine lv_istore (lv' := [(6, .int (nI (tNm L false q) - 1)), (5, .int (nI ((kLs i).getD j 0))), (4, .int (nI (j))), (3, .int (nI (n))), (0, .ref (eX V 99)), (1, .ref (eX V (200 + i))), (2, .int (nI (idx)))]) hx hcd dX1_readForm_52 hl (by decide) rfl (fun ls hl => ?_)
              refine lv_iload hx hcd dX1_readForm_54 (lv_at hl 0 rfl) ?_
              refine lv_iconst (v := -1) hx hcd dX1_readForm_56 (by decide) ?_
              refine lv_icmp_ne (tgt := 62) hx hcd dX1_readForm_57 (by decide) (fun c_15 => ?_) (fun c_15 => ?_)
              · have c_15 := cNe (tA (n := tNm L false q) (by omega)) tm1 c_15
                refine lv_aload_n hx hcd dX1_readForm_62 rfl (lv_at hl 4 rfl) ?_
                refine lv_iload_n hx hcd dX1_readForm_63 rfl (lv_at hl 6 rfl) ?_
                refine lv_iload_n hx hcd dX1_readForm_64 rfl (lv_at hl 3 rfl) ?_
                refine lv_iload hx hcd dX1_readForm_65 (lv_at hl 0 rfl) ?_
                refine lv_topi (fun z_16 e_z_16 => ?_)
                obtain rfl : z_16 = nI ((tNm L false q) - 1) := by rw [e_z_16]; exact pk_sub (b := 1) (by omega)
                refine k_Vv (As := [.int (nI (idx)), .int (nI (n)), .int (nI ((tNm L false q) - 1))]) (rest := []) (b := eX V 99) G hC hB h (met_X1_keepNumber l V S (tNp L false q) cm K F9 Z9 idx n ((tNm L false q) - 1) (by omega) (by omega)) mw_1410 kv_X1_keepNumber ⟨rfl, rfl⟩ ⟨Nat.le_of_ble_eq_true rfl, Nat.le_of_ble_eq_true rfl⟩ (r_tV hC h) rfl rfl hl.1 (Nat.le_of_ble_eq_true rfl) dX1_readForm_67 ⟨Nat.le_of_ble_eq_true rfl, Nat.le_of_ble_eq_true rfl⟩ (fun u H locs hp h => ?_)
                obtain rfl := hp
                refine lv_iinc (v := nI (n + 1)) (lv' := [(3, .int (nI (n + 1))), (6, .int (nI (tNm L false q) - 1)), (5, .int (nI ((kLs i).getD j 0))), (4, .int (nI (j))), (0, .ref (eX V 99)), (1, .ref (eX V (200 + i))), (2, .int (nI (idx)))]) hx hcd dX1_readForm_70 hl (k := 3) rfl (by exact nI_add (n) 1) (by decide) rfl (fun ls hl => ?_)
                refine lv_goto (tgt := 87) hx hcd dX1_readForm_73 (by decide) ?_
                refine lv_iinc (v := nI (j + 1)) (lv' := [(4, .int (nI (j + 1))), (3, .int (nI (n + 1))), (6, .int (nI (tNm L false q) - 1)), (5, .int (nI ((kLs i).getD j 0))), (0, .ref (eX V 99)), (1, .ref (eX V (200 + i))), (2, .int (nI (idx)))]) hx hcd dX1_readForm_87 hl (k := 3) rfl (by exact nI_add (j) 1) (by decide) rfl (fun ls hl => ?_)
                refine lv_goto (tgt := 5) hx hcd dX1_readForm_90 (by decide) ?_
                exact ih_2 (j + 1) (tNp L false q) (n + 1) (if n = 0 then upd F9 idx (nI ((tNm L false q) - 1)) else F9) (if n = 0 then Z9 else upd Z9 idx (nI ((tNm L false q) - 1))) (by omega) (tNp_le _ hq) (by omega) (by rw [hF, drop_at (by omega), rdF, if_pos (Or.inr (by omega)), show decide (((kLs i).getD j 0) = 78) = false from decide_eq_false (by omega)]; exact if_neg (by omega)) (by omega) _ _ h _ (lv_sub hl [0, 1, 4, 5, 6] rfl)
              · have c_15 := cEq (tA (n := tNm L false q) (by omega)) tm1 c_15
                refine lv_iconst (v := nI 0) hx hcd dX1_readForm_60 (by decide) ?_
                exact k_retz hQ G hret hlocks h (Or.inl rfl) (by rw [hF, drop_at (by omega), rdF, if_pos (Or.inr (by omega)), show decide (((kLs i).getD j 0) = 78) = false from decide_eq_false (by omega)]; rw [if_pos (by omega)]; exact ⟨rfl, by rw [show tNp L false q = q from tNp_0 (by omega)]⟩) (Nat.le_of_ble_eq_true rfl) (Nat.le_of_ble_eq_true rfl) dX1_readForm_61
            · have c_13 := cEq (tN (n := (kLs i).getD j 0) (by omega)) (tN (n := 78) (by decide)) c_13
              exact absurd c_13 (by omega)
  exact L_1 (12 + 1) 0 p 0 F Z (by omega) hp (by omega) rfl (by omega) _ _ h _ (lv_sub hl [0, 1, 2, 3, 4] rfl)
