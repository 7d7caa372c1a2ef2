theorem kv_X0_sumOfPlanned : kV yX0_sumOfPlanned cX0_sumOfPlanned 4 (some .int) 1 := ⟨mw_302, mw_0, mw_57, mw_303, by decide, by decide, by decide +kernel⟩
theorem ks_X3_setOf : kSt yX3_setOf cX3_setOf 1 (some .int) 1 := ⟨mw_726, mw_56, mw_727, by decide, by decide, by decide +kernel⟩
set_option maxHeartbeats 4000000 in
set_option maxRecDepth 100000 in
/-- Integer.bitCount -/
theorem met_J6_bitCount_0f7a4 (l : Launch) (V : kEnv) (S : kCs) (q : Nat) (hq : q < 65536) : kI l yJ6_bitCount_0f7a4 cJ6_bitCount_0f7a4 1 (some .int) { frames := 0, cells := 0, slots := 0, locals := 0 } V (cWs V) [.int (nI (q))] (S) (fun r u => r = nI (pcn q) ∧ u = S) 0 0 := by
  refine kI_of (by decide +kernel) (Nat.le_of_ble_eq_true rfl) ?_
  intro p e s m args below meth c G hret hlocks hC hB h ls hl Q hQ
  have hl : lv_has ls 1 [(0, .int (nI (q)))] := hl
  have hx := G.1
  have hcd := G.2.1
  refine lv_iload_n hx hcd dJ6_bitCount_0f7a4_0 rfl (lv_at hl 0 rfl) ?_
  refine lv_iload_n hx hcd dJ6_bitCount_0f7a4_1 rfl (lv_at hl 0 rfl) ?_
  refine lv_iconst (v := nI 1) hx hcd dJ6_bitCount_0f7a4_2 (by decide) ?_
  refine lv_iushr (v := ((nI (q)).toUInt32 >>> ((nI 1).toUInt32 &&& Int32.toUInt32 31)).toInt32) hx hcd dJ6_bitCount_0f7a4_3 rfl ?_
  refine lv_ldcw hx hcd G.2.2.2.1 (G.2.2.2.2 _ mwc_916) dJ6_bitCount_0f7a4_4 ?_
  refine w_iand (v := (((nI (q)).toUInt32 >>> ((nI 1).toUInt32 &&& Int32.toUInt32 31)).toInt32) &&& 1431655765) hx hcd dJ6_bitCount_0f7a4_7 rfl ?_
  refine w_isub (v := (nI (q)) - ((((nI (q)).toUInt32 >>> ((nI 1).toUInt32 &&& Int32.toUInt32 31)).toInt32) &&& 1431655765)) hx hcd dJ6_bitCount_0f7a4_8 rfl ?_
  refine lv_topi (fun i1 e_i1 => ?_)
  refine lv_istore_n (lv' := [(0, .int (i1))]) hx hcd dJ6_bitCount_0f7a4_9 rfl hl (by decide) rfl (fun ls hl => ?_)
  refine lv_iload_n hx hcd dJ6_bitCount_0f7a4_10 rfl (lv_at hl 0 rfl) ?_
  refine lv_ldcw hx hcd G.2.2.2.1 (G.2.2.2.2 _ mwc_917) dJ6_bitCount_0f7a4_11 ?_
  refine w_iand (v := i1 &&& 858993459) hx hcd dJ6_bitCount_0f7a4_14 rfl ?_
  refine lv_iload_n hx hcd dJ6_bitCount_0f7a4_15 rfl (lv_at hl 0 rfl) ?_
  refine lv_iconst (v := nI 2) hx hcd dJ6_bitCount_0f7a4_16 (by decide) ?_
  refine lv_iushr (v := ((i1).toUInt32 >>> ((nI 2).toUInt32 &&& Int32.toUInt32 31)).toInt32) hx hcd dJ6_bitCount_0f7a4_17 rfl ?_
  refine lv_ldcw hx hcd G.2.2.2.1 (G.2.2.2.2 _ mwc_917) dJ6_bitCount_0f7a4_18 ?_
  refine w_iand (v := (((i1).toUInt32 >>> ((nI 2).toUInt32 &&& Int32.toUInt32 31)).toInt32) &&& 858993459) hx hcd dJ6_bitCount_0f7a4_21 rfl ?_
  refine w_iadd (v := (i1 &&& 858993459) + ((((i1).toUInt32 >>> ((nI 2).toUInt32 &&& Int32.toUInt32 31)).toInt32) &&& 858993459)) hx hcd dJ6_bitCount_0f7a4_22 rfl ?_
  refine lv_topi (fun i2 e_i2 => ?_)
  refine lv_istore_n (lv' := [(0, .int (i2))]) hx hcd dJ6_bitCount_0f7a4_23 rfl hl (by decide) rfl (fun ls hl => ?_)
  refine lv_iload_n hx hcd dJ6_bitCount_0f7a4_24 rfl (lv_at hl 0 rfl) ?_
  refine lv_iload_n hx hcd dJ6_bitCount_0f7a4_25 rfl (lv_at hl 0 rfl) ?_
  refine lv_iconst (v := nI 4) hx hcd dJ6_bitCount_0f7a4_26 (by decide) ?_
  refine lv_iushr (v := ((i2).toUInt32 >>> ((nI 4).toUInt32 &&& Int32.toUInt32 31)).toInt32) hx hcd dJ6_bitCount_0f7a4_27 rfl ?_
  refine w_iadd (v := i2 + (((i2).toUInt32 >>> ((nI 4).toUInt32 &&& Int32.toUInt32 31)).toInt32)) hx hcd dJ6_bitCount_0f7a4_28 rfl ?_
  refine lv_ldcw hx hcd G.2.2.2.1 (G.2.2.2.2 _ mwc_918) dJ6_bitCount_0f7a4_29 ?_
  refine w_iand (v := (i2 + (((i2).toUInt32 >>> ((nI 4).toUInt32 &&& Int32.toUInt32 31)).toInt32)) &&& 252645135) hx hcd dJ6_bitCount_0f7a4_32 rfl ?_
  refine lv_topi (fun i3 e_i3 => ?_)
  refine lv_istore_n (lv' := [(0, .int (i3))]) hx hcd dJ6_bitCount_0f7a4_33 rfl hl (by decide) rfl (fun ls hl => ?_)
  refine lv_iload_n hx hcd dJ6_bitCount_0f7a4_34 rfl (lv_at hl 0 rfl) ?_
  refine lv_iload_n hx hcd dJ6_bitCount_0f7a4_35 rfl (lv_at hl 0 rfl) ?_
  refine lv_bipush (v := nI 8) hx hcd dJ6_bitCount_0f7a4_36 (by decide) ?_
  refine lv_iushr (v := ((i3).toUInt32 >>> ((nI 8).toUInt32 &&& Int32.toUInt32 31)).toInt32) hx hcd dJ6_bitCount_0f7a4_38 rfl ?_
  refine w_iadd (v := i3 + (((i3).toUInt32 >>> ((nI 8).toUInt32 &&& Int32.toUInt32 31)).toInt32)) hx hcd dJ6_bitCount_0f7a4_39 rfl ?_
  refine lv_topi (fun i4 e_i4 => ?_)
  refine lv_istore_n (lv' := [(0, .int (i4))]) hx hcd dJ6_bitCount_0f7a4_40 rfl hl (by decide) rfl (fun ls hl => ?_)
  refine lv_iload_n hx hcd dJ6_bitCount_0f7a4_41 rfl (lv_at hl 0 rfl) ?_
  refine lv_iload_n hx hcd dJ6_bitCount_0f7a4_42 rfl (lv_at hl 0 rfl) ?_
  refine lv_bipush (v := nI 16) hx hcd dJ6_bitCount_0f7a4_43 (by decide) ?_
  refine lv_iushr (v := ((i4).toUInt32 >>> ((nI 16).toUInt32 &&& Int32.toUInt32 31)).toInt32) hx hcd dJ6_bitCount_0f7a4_45 rfl ?_
  refine w_iadd (v := i4 + (((i4).toUInt32 >>> ((nI 16).toUInt32 &&& Int32.toUInt32 31)).toInt32)) hx hcd dJ6_bitCount_0f7a4_46 rfl ?_
  refine lv_topi (fun i5 e_i5 => ?_)
  refine lv_istore_n (lv' := [(0, .int (i5))]) hx hcd dJ6_bitCount_0f7a4_47 rfl hl (by decide) rfl (fun ls hl => ?_)
  refine lv_iload_n hx hcd dJ6_bitCount_0f7a4_48 rfl (lv_at hl 0 rfl) ?_
  refine lv_bipush (v := nI 63) hx hcd dJ6_bitCount_0f7a4_49 (by decide) ?_
  refine w_iand (v := i5 &&& (nI 63)) hx hcd dJ6_bitCount_0f7a4_51 rfl ?_
  exact k_reti hQ G hret hlocks h (⟨by rw [← bitc_nI hq, e_i5, e_i4, e_i3, e_i2, e_i1]; rfl, rfl⟩) (Nat.le_of_ble_eq_true rfl) (Nat.le_of_ble_eq_true rfl) dJ6_bitCount_0f7a4_52
set_option maxHeartbeats 4000000 in
set_option maxRecDepth 100000 in
/-- Math.floorMod(a, 8) -/
theorem met_J9_floorMod_7cf53 (l : Launch) (V : kEnv) (S : kCs) (q : Nat) (hq : q < 65536) : kI l yJ9_floorMod_7cf53 cJ9_floorMod_7cf53 3 (some .int) { frames := 0, cells := 0, slots := 0, locals := 0 } V (cWs V) [.int (nI (q)), .int (nI 8)] (S) (fun r u => r = nI (q % 8) ∧ u = S) 0 0 := by
  refine kI_of (by decide +kernel) (Nat.le_of_ble_eq_true rfl) ?_
  intro p e s m args below meth c G hret hlocks hC hB h ls hl Q hQ
  have hl : lv_has ls 3 [(0, .int (nI (q))), (1, .int (nI 8))] := hl
  have hx := G.1
  have hcd := G.2.1
  refine lv_iload_n hx hcd dJ9_floorMod_7cf53_0 rfl (lv_at hl 0 rfl) ?_
  refine lv_iload_n hx hcd dJ9_floorMod_7cf53_1 rfl (lv_at hl 1 rfl) ?_
  refine w_irem (v := nI (q % 8)) hx hcd dJ9_floorMod_7cf53_2 (by decide) (pk_rem (by omega) (by omega) (by omega)) ?_
  refine lv_istore_n (lv' := [(2, .int (nI (q % 8))), (0, .int (nI (q))), (1, .int (nI 8))]) hx hcd dJ9_floorMod_7cf53_3 rfl hl (by decide) rfl (fun ls hl => ?_)
  refine lv_iload_n hx hcd dJ9_floorMod_7cf53_4 rfl (lv_at hl 1 rfl) ?_
  refine lv_iload_n hx hcd dJ9_floorMod_7cf53_5 rfl (lv_at hl 2 rfl) ?_
  refine w_ixor (v := nI (q ^^^ 8)) hx hcd dJ9_floorMod_7cf53_6 (n_xor _ _) ?_
  have hxo : q ^^^ 8 < 65536 := Nat.xor_lt_two_pow (n := 16) hq (by decide)
  refine lv_if_ge (tgt := 18) hx hcd dJ9_floorMod_7cf53_7 (by decide) (fun c_3 => ?_) (fun c_3 => ?_)
  · have c_3 := cLe t0 (tN (n := q ^^^ 8) (by omega)) c_3
    refine lv_iload_n hx hcd dJ9_floorMod_7cf53_18 rfl (lv_at hl 0 rfl) ?_
    exact k_reti hQ G hret hlocks h (⟨rfl, rfl⟩) (Nat.le_of_ble_eq_true rfl) (Nat.le_of_ble_eq_true rfl) dJ9_floorMod_7cf53_19
  · have c_3 := cNle t0 (tN (n := q ^^^ 8) (by omega)) c_3
    exfalso; omega
set_option maxHeartbeats 4000000 in
set_option maxRecDepth 100000 in
/-- unfinishedSet() -/
theorem met_X0_unfinishedSet (l : Launch) (V : kEnv) (S : kCs) (b : Nat) (B : kBd) (hb : b < 12) (hz : kSm B) : kI l yX0_unfinishedSet cX0_unfinishedSet 3 (some .int) { frames := 1, cells := 0, slots := 0, locals := 20 } V (cWs V) [.ref (eX V (8 * b))] (setB S b B) (fun r u => r = nI (unf B) ∧ u = setB S b B) 0 0 := by
  refine kI_of (by decide +kernel) (Nat.le_of_ble_eq_true rfl) ?_
  intro p e s m args below meth c G hret hlocks hC hB h ls hl Q hQ
  have hl : lv_has ls 3 [(0, .ref (eX V (8 * b)))] := hl
  have hx := G.1
  have hcd := G.2.1
  refine lv_iconst (v := nI 0) hx hcd dX0_unfinishedSet_0 (by decide) ?_
  refine lv_istore_n (lv' := [(1, .int (nI 0)), (0, .ref (eX V (8 * b)))]) hx hcd dX0_unfinishedSet_1 rfl hl (by decide) rfl (fun ls hl => ?_)
  refine lv_iconst (v := nI 0) hx hcd dX0_unfinishedSet_2 (by decide) ?_
  refine lv_istore_n (lv' := [(2, .int (nI 0)), (1, .int (nI 0)), (0, .ref (eX V (8 * b)))]) hx hcd dX0_unfinishedSet_3 rfl hl (by decide) rfl (fun ls hl => ?_)
  have L_1 : ∀ (fu_3 : Nat) (i : Nat) (acc : Nat) (hi : i ≤ 16) (ha : acc = orUp (fun k => if 0 < B.1 1 k then 2 ^ k else 0) i) (hb2 : acc < 65536), 16 - i < fu_3 → ∀ (H : Heap) (locs : List Loc), cH V s H locs (cWs V (setB S b B)) → ∀ ls : Array Slot, lv_has ls 3 [(1, .int (nI (acc))), (2, .int (nI (i))), (0, .ref (eX V (8 * b)))] → W p l e { frames := 1, cells := 0, slots := 0, locals := 20 } s m args below meth c H locs 0 0 Q (F0 m 4 ls []) := by
    intro fu_3
    induction fu_3 with
    | zero => intro i acc hi ha hb2 hm; exact absurd hm (Nat.not_lt_zero _)
    | succ fu_3 ih_2 =>
      intro i acc hi ha hb2 hm H locs h ls hl
      refine lv_iload_n hx hcd dX0_unfinishedSet_4 rfl (lv_at hl 1 rfl) ?_
      refine lv_aload_n hx hcd dX0_unfinishedSet_5 rfl (lv_at hl 2 rfl) ?_
      refine r_bA G hC h b 1 hb (by decide) mw_100 dX0_unfinishedSet_6 ?_
      refine r_bN G hC h b 1 hb (by decide) (x := nI (16)) rfl dX0_unfinishedSet_9 ?_
      refine lv_icmp_ge (tgt := 35) hx hcd dX0_unfinishedSet_10 (by decide) (fun c_4 => ?_) (fun c_4 => ?_)
      · have c_4 := cLe (tN (n := 16) (by decide)) (tN (n := i) (by omega)) c_4
        refine lv_iload_n hx hcd dX0_unfinishedSet_35 rfl (lv_at hl 0 rfl) ?_
        exact k_reti hQ G hret hlocks h (⟨by rw [ha, show i = 16 by omega]; rfl, rfl⟩) (Nat.le_of_ble_eq_true rfl) (Nat.le_of_ble_eq_true rfl) dX0_unfinishedSet_36
      · have c_4 := cNle (tN (n := 16) (by decide)) (tN (n := i) (by omega)) c_4
        refine lv_aload_n hx hcd dX0_unfinishedSet_13 rfl (lv_at hl 2 rfl) ?_
        refine r_bA G hC h b 1 hb (by decide) mw_100 dX0_unfinishedSet_14 ?_
        refine lv_iload_n hx hcd dX0_unfinishedSet_17 rfl (lv_at hl 1 rfl) ?_
        refine r_bL G hC h b 1 i hb (by decide) (setB_at _ _ _) rfl (show i < 16 by omega) (x := nI (B.1 1 (i))) rfl dX0_unfinishedSet_18 ?_
        have q_5 := hz.1 1 (i)
        refine lv_if_le (tgt := 29) hx hcd dX0_unfinishedSet_19 (by decide) (fun c_6 => ?_) (fun c_6 => ?_)
        · have c_6 := cLe (tN (n := B.1 1 (i)) (by omega)) t0 c_6
          refine lv_iinc (v := nI (i + 1)) (lv' := [(2, .int (nI (i + 1))), (1, .int (nI (acc))), (0, .ref (eX V (8 * b)))]) hx hcd dX0_unfinishedSet_29 hl (k := 1) rfl (by exact nI_add (i) 1) (by decide) rfl (fun ls hl => ?_)
          refine lv_goto (tgt := 4) hx hcd dX0_unfinishedSet_32 (by decide) ?_
          exact ih_2 (i + 1) acc (by omega) (orUp_z ha (if_neg (by omega))) hb2 (by omega) _ _ h _ (lv_sub hl [1, 0, 2] rfl)
        · have c_6 := cNle (tN (n := B.1 1 (i)) (by omega)) t0 c_6
          refine lv_iload_n hx hcd dX0_unfinishedSet_22 rfl (lv_at hl 0 rfl) ?_
          refine lv_iload_n hx hcd dX0_unfinishedSet_23 rfl (lv_at hl 1 rfl) ?_
          refine k_Ni (As := [.int (nI (i))]) (rest := [.int (nI (acc))]) G hC hB h (met_X3_setOf l V (setB S b B) i (by omega)) hC.2.1.2.2.1 ks_X3_setOf ⟨rfl, rfl⟩ ⟨Nat.le_of_ble_eq_true rfl, Nat.le_of_ble_eq_true rfl⟩ rfl rfl hl.1 (Nat.le_of_ble_eq_true rfl) dX0_unfinishedSet_24 ⟨Nat.le_of_ble_eq_true rfl, Nat.le_of_ble_eq_true rfl⟩ (fun r u H locs hp h => ?_)
          obtain ⟨rfl, rfl⟩ := hp
          refine w_ior (v := nI (acc ||| (2 ^ i))) hx hcd dX0_unfinishedSet_27 (n_or _ _) ?_
          have q_7 : acc ||| (2 ^ i) < 65536 := or16 (by first | omega | exact p16 (by omega) | assumption) (by first | omega | exact p16 (by omega) | assumption)
          refine lv_istore_n (lv' := [(1, .int (nI (acc ||| (2 ^ i)))), (2, .int (nI (i))), (0, .ref (eX V (8 * b)))]) hx hcd dX0_unfinishedSet_28 rfl hl (by decide) rfl (fun ls hl => ?_)
          refine lv_iinc (v := nI (i + 1)) (lv' := [(2, .int (nI (i + 1))), (1, .int (nI (acc ||| (2 ^ i)))), (0, .ref (eX V (8 * b)))]) hx hcd dX0_unfinishedSet_29 hl (k := 1) rfl (by exact nI_add (i) 1) (by decide) rfl (fun ls hl => ?_)
          refine lv_goto (tgt := 4) hx hcd dX0_unfinishedSet_32 (by decide) ?_
          exact ih_2 (i + 1) (acc ||| (2 ^ i)) (by omega) (orUp_t ha (if_pos (by omega))) (or16 hb2 (p16 (by omega))) (by omega) _ _ h _ (lv_sub hl [1, 0, 2] rfl)
  exact L_1 (16 + 1) 0 0 (by omega) rfl (by omega) (by omega) _ _ h _ (lv_sub hl [1, 0, 2] rfl)
set_option maxHeartbeats 4000000 in
set_option maxRecDepth 100000 in
/-- blockersOfAny(set) -/
theorem met_X0_blockersOfAny (l : Launch) (V : kEnv) (S : kCs) (b : Nat) (B : kBd) (hb : b < 12) (hz : kSm B) (q : Nat) (hq : q < 65536) : kI l yX0_blockersOfAny cX0_blockersOfAny 4 (some .int) { frames := 1, cells := 0, slots := 0, locals := 21 } V (cWs V) [.ref (eX V (8 * b)), .int (nI (q))] (setB S b B) (fun r u => r = nI (boa B q) ∧ u = setB S b B) 0 0 := by
  refine kI_of (by decide +kernel) (Nat.le_of_ble_eq_true rfl) ?_
  intro p e s m args below meth c G hret hlocks hC hB h ls hl Q hQ
  have hl : lv_has ls 4 [(0, .ref (eX V (8 * b))), (1, .int (nI (q)))] := hl
  have hx := G.1
  have hcd := G.2.1
  refine lv_iconst (v := nI 0) hx hcd dX0_blockersOfAny_0 (by decide) ?_
  refine lv_istore_n (lv' := [(2, .int (nI 0)), (0, .ref (eX V (8 * b))), (1, .int (nI (q)))]) hx hcd dX0_blockersOfAny_1 rfl hl (by decide) rfl (fun ls hl => ?_)
  refine lv_iconst (v := nI 0) hx hcd dX0_blockersOfAny_2 (by decide) ?_
  refine lv_istore_n (lv' := [(3, .int (nI 0)), (2, .int (nI 0)), (0, .ref (eX V (8 * b))), (1, .int (nI (q)))]) hx hcd dX0_blockersOfAny_3 rfl hl (by decide) rfl (fun ls hl => ?_)
  have L_1 : ∀ (fu_3 : Nat) (i : Nat) (acc : Nat) (hi : i ≤ 16) (ha : acc = orUp (fun k => if q.testBit k then B.1 2 k else 0) i) (hb2 : acc < 65536), 16 - i < fu_3 → ∀ (H : Heap) (locs : List Loc), cH V s H locs (cWs V (setB S b B)) → ∀ ls : Array Slot, lv_has ls 4 [(2, .int (nI (acc))), (3, .int (nI (i))), (0, .ref (eX V (8 * b))), (1, .int (nI (q)))] → W p l e { frames := 1, cells := 0, slots := 0, locals := 21 } s m args below meth c H locs 0 0 Q (F0 m 4 ls []) := by
    intro fu_3
    induction fu_3 with
    | zero => intro i acc hi ha hb2 hm; exact absurd hm (Nat.not_lt_zero _)
    | succ fu_3 ih_2 =>
      intro i acc hi ha hb2 hm H locs h ls hl
      refine lv_iload_n hx hcd dX0_blockersOfAny_4 rfl (lv_at hl 1 rfl) ?_
      refine lv_aload_n hx hcd dX0_blockersOfAny_5 rfl (lv_at hl 2 rfl) ?_
      refine r_bA G hC h b 2 hb (by decide) mw_102 dX0_blockersOfAny_6 ?_
      refine r_bN G hC h b 2 hb (by decide) (x := nI (16)) rfl dX0_blockersOfAny_9 ?_
      refine lv_icmp_ge (tgt := 36) hx hcd dX0_blockersOfAny_10 (by decide) (fun c_4 => ?_) (fun c_4 => ?_)
      · have c_4 := cLe (tN (n := 16) (by decide)) (tN (n := i) (by omega)) c_4
        refine lv_iload_n hx hcd dX0_blockersOfAny_36 rfl (lv_at hl 0 rfl) ?_
        exact k_reti hQ G hret hlocks h (⟨by rw [ha, show i = 16 by omega]; rfl, rfl⟩) (Nat.le_of_ble_eq_true rfl) (Nat.le_of_ble_eq_true rfl) dX0_blockersOfAny_37
      · have c_4 := cNle (tN (n := 16) (by decide)) (tN (n := i) (by omega)) c_4
        refine lv_iload_n hx hcd dX0_blockersOfAny_13 rfl (lv_at hl 3 rfl) ?_
        refine lv_iload_n hx hcd dX0_blockersOfAny_14 rfl (lv_at hl 1 rfl) ?_
        refine k_Ni (As := [.int (nI (q)), .int (nI (i))]) (rest := []) G hC hB h (met_X3_holds l V (setB S b B) q i (by omega) (by omega)) hC.2.1.2.1 ks_X3_holds ⟨rfl, rfl⟩ ⟨Nat.le_of_ble_eq_true rfl, Nat.le_of_ble_eq_true rfl⟩ rfl rfl hl.1 (Nat.le_of_ble_eq_true rfl) dX0_blockersOfAny_15 ⟨Nat.le_of_ble_eq_true rfl, Nat.le_of_ble_eq_true rfl⟩ (fun r u H locs hp h => ?_)
        obtain ⟨rfl, rfl⟩ := hp
        refine lv_if_eq (tgt := 30) hx hcd dX0_blockersOfAny_18 (by decide) (fun c_5 => ?_) (fun c_5 => ?_)
        · have c_5 := bz0 c_5
          refine lv_iinc (v := nI (i + 1)) (lv' := [(3, .int (nI (i + 1))), (2, .int (nI (acc))), (0, .ref (eX V (8 * b))), (1, .int (nI (q)))]) hx hcd dX0_blockersOfAny_30 hl (k := 1) rfl (by exact nI_add (i) 1) (by decide) rfl (fun ls hl => ?_)
          refine lv_goto (tgt := 4) hx hcd dX0_blockersOfAny_33 (by decide) ?_
          exact ih_2 (i + 1) acc (by omega) (orUp_z ha (if_neg (by rw [Bool.not_eq_true]; assumption))) hb2 (by omega) _ _ h _ (lv_sub hl [1, 0, 2, 3] rfl)
        · have c_5 := bz1 c_5
          refine lv_iload_n hx hcd dX0_blockersOfAny_21 rfl (lv_at hl 0 rfl) ?_
          refine lv_aload_n hx hcd dX0_blockersOfAny_22 rfl (lv_at hl 2 rfl) ?_
          refine r_bA G hC h b 2 hb (by decide) mw_102 dX0_blockersOfAny_23 ?_
          refine lv_iload_n hx hcd dX0_blockersOfAny_26 rfl (lv_at hl 1 rfl) ?_
          refine r_bL G hC h b 2 i hb (by decide) (setB_at _ _ _) rfl (show i < 16 by omega) (x := nI (B.1 2 (i))) rfl dX0_blockersOfAny_27 ?_
          have q_6 := hz.1 2 (i)
          refine w_ior (v := nI (acc ||| (B.1 2 (i)))) hx hcd dX0_blockersOfAny_28 (n_or _ _) ?_
          have q_7 : acc ||| (B.1 2 (i)) < 65536 := or16 (by first | omega | exact p16 (by omega) | assumption) (by first | omega | exact p16 (by omega) | assumption)
          refine lv_istore_n (lv' := [(2, .int (nI (acc ||| (B.1 2 (i))))), (3, .int (nI (i))), (0, .ref (eX V (8 * b))), (1, .int (nI (q)))]) hx hcd dX0_blockersOfAny_29 rfl hl (by decide) rfl (fun ls hl => ?_)
          refine lv_iinc (v := nI (i + 1)) (lv' := [(3, .int (nI (i + 1))), (2, .int (nI (acc ||| (B.1 2 (i))))), (0, .ref (eX V (8 * b))), (1, .int (nI (q)))]) hx hcd dX0_blockersOfAny_30 hl (k := 1) rfl (by exact nI_add (i) 1) (by decide) rfl (fun ls hl => ?_)
          refine lv_goto (tgt := 4) hx hcd dX0_blockersOfAny_33 (by decide) ?_
          exact ih_2 (i + 1) (acc ||| (B.1 2 (i))) (by omega) (orUp_t ha (if_pos (by assumption))) (or16 hb2 (hz.1 _ _)) (by omega) _ _ h _ (lv_sub hl [1, 0, 2, 3] rfl)
  exact L_1 (16 + 1) 0 0 (by omega) rfl (by omega) (by omega) _ _ h _ (lv_sub hl [1, 0, 2, 3] rfl)
set_option maxHeartbeats 4000000 in
set_option maxRecDepth 100000 in
/-- sumOfPlanned(array 0) -/
theorem met_X0_sumOfPlanned0 (l : Launch) (V : kEnv) (S : kCs) (b : Nat) (B : kBd) (hb : b < 12) (hz : kSm B) : kI l yX0_sumOfPlanned cX0_sumOfPlanned 4 (some .int) { frames := 1, cells := 0, slots := 0, locals := 21 } V (cWs V) [.ref (eX V (8 * b)), .ref (eX V (8 * b + (0 + 1)))] (setB S b B) (fun r u => r = nI (psum B 0) ∧ u = setB S b B) 0 0 := by
  refine kI_of (by decide +kernel) (Nat.le_of_ble_eq_true rfl) ?_
  intro p e s m args below meth c G hret hlocks hC hB h ls hl Q hQ
  have hl : lv_has ls 4 [(0, .ref (eX V (8 * b))), (1, .ref (eX V (8 * b + (0 + 1))))] := hl
  have hx := G.1
  have hcd := G.2.1
  refine lv_iconst (v := nI 0) hx hcd dX0_sumOfPlanned_0 (by decide) ?_
  refine lv_istore_n (lv' := [(2, .int (nI 0)), (0, .ref (eX V (8 * b))), (1, .ref (eX V (8 * b + (0 + 1))))]) hx hcd dX0_sumOfPlanned_1 rfl hl (by decide) rfl (fun ls hl => ?_)
  refine lv_iconst (v := nI 0) hx hcd dX0_sumOfPlanned_2 (by decide) ?_
  refine lv_istore_n (lv' := [(3, .int (nI 0)), (2, .int (nI 0)), (0, .ref (eX V (8 * b))), (1, .ref (eX V (8 * b + (0 + 1))))]) hx hcd dX0_sumOfPlanned_3 rfl hl (by decide) rfl (fun ls hl => ?_)
  have L_1 : ∀ (fu_3 : Nat) (i : Nat) (acc : Nat) (hi : i ≤ 16) (ha : acc = sumUp (fun k => if (B.2 2).testBit k then B.1 0 k else 0) i) (hb2 : acc ≤ i * 65536), 16 - i < fu_3 → ∀ (H : Heap) (locs : List Loc), cH V s H locs (cWs V (setB S b B)) → ∀ ls : Array Slot, lv_has ls 4 [(2, .int (nI (acc))), (3, .int (nI (i))), (0, .ref (eX V (8 * b))), (1, .ref (eX V (8 * b + (0 + 1))))] → W p l e { frames := 1, cells := 0, slots := 0, locals := 21 } s m args below meth c H locs 0 0 Q (F0 m 4 ls []) := by
    intro fu_3
    induction fu_3 with
    | zero => intro i acc hi ha hb2 hm; exact absurd hm (Nat.not_lt_zero _)
    | succ fu_3 ih_2 =>
      intro i acc hi ha hb2 hm H locs h ls hl
      refine lv_iload_n hx hcd dX0_sumOfPlanned_4 rfl (lv_at hl 1 rfl) ?_
      refine lv_aload_n hx hcd dX0_sumOfPlanned_5 rfl (lv_at hl 3 rfl) ?_
      refine r_bN G hC h b 0 hb (by decide) (x := nI (16)) rfl dX0_sumOfPlanned_6 ?_
      refine lv_icmp_ge (tgt := 33) hx hcd dX0_sumOfPlanned_7 (by decide) (fun c_4 => ?_) (fun c_4 => ?_)
      · have c_4 := cLe (tN (n := 16) (by decide)) (tN (n := i) (by omega)) c_4
        refine lv_iload_n hx hcd dX0_sumOfPlanned_33 rfl (lv_at hl 0 rfl) ?_
        exact k_reti hQ G hret hlocks h (⟨by rw [ha, show i = 16 by omega]; rfl, rfl⟩) (Nat.le_of_ble_eq_true rfl) (Nat.le_of_ble_eq_true rfl) dX0_sumOfPlanned_34
      · have c_4 := cNle (tN (n := 16) (by decide)) (tN (n := i) (by omega)) c_4
        refine lv_aload_n hx hcd dX0_sumOfPlanned_10 rfl (lv_at hl 2 rfl) ?_
        refine r_bS G hC h b 2 hb (by decide) (setB_at _ _ _) mw_115 (x := nI (B.2 2)) rfl dX0_sumOfPlanned_11 ?_
        have q_5 := hz.2 2
        refine lv_iload_n hx hcd dX0_sumOfPlanned_14 rfl (lv_at hl 1 rfl) ?_
        refine k_Ni (As := [.int (nI (B.2 2)), .int (nI (i))]) (rest := []) G hC hB h (met_X3_holds l V (setB S b B) (B.2 2) i (by omega) (by omega)) hC.2.1.2.1 ks_X3_holds ⟨rfl, rfl⟩ ⟨Nat.le_of_ble_eq_true rfl, Nat.le_of_ble_eq_true rfl⟩ rfl rfl hl.1 (Nat.le_of_ble_eq_true rfl) dX0_sumOfPlanned_15 ⟨Nat.le_of_ble_eq_true rfl, Nat.le_of_ble_eq_true rfl⟩ (fun r u H locs hp h => ?_)
        obtain ⟨rfl, rfl⟩ := hp
        refine lv_if_eq (tgt := 27) hx hcd dX0_sumOfPlanned_18 (by decide) (fun c_6 => ?_) (fun c_6 => ?_)
        · have c_6 := bz0 c_6
          refine lv_iinc (v := nI (i + 1)) (lv' := [(3, .int (nI (i + 1))), (2, .int (nI (acc))), (0, .ref (eX V (8 * b))), (1, .ref (eX V (8 * b + (0 + 1))))]) hx hcd dX0_sumOfPlanned_27 hl (k := 1) rfl (by exact nI_add (i) 1) (by decide) rfl (fun ls hl => ?_)
          refine lv_goto (tgt := 4) hx hcd dX0_sumOfPlanned_30 (by decide) ?_
          exact ih_2 (i + 1) acc (by omega) (sumUp_z ha (if_neg (by rw [Bool.not_eq_true]; assumption))) (acc_up hb2) (by omega) _ _ h _ (lv_sub hl [1, 0, 2, 3] rfl)
        · have c_6 := bz1 c_6
          refine lv_iload_n hx hcd dX0_sumOfPlanned_21 rfl (lv_at hl 0 rfl) ?_
          refine lv_aload_n hx hcd dX0_sumOfPlanned_22 rfl (lv_at hl 3 rfl) ?_
          refine lv_iload_n hx hcd dX0_sumOfPlanned_23 rfl (lv_at hl 1 rfl) ?_
          refine r_bL G hC h b 0 i hb (by decide) (setB_at _ _ _) rfl (show i < 16 by omega) (x := nI (B.1 0 (i))) rfl dX0_sumOfPlanned_24 ?_
          have q_7 := hz.1 0 (i)
          refine w_iadd (v := nI (acc + (B.1 0 (i)))) hx hcd dX0_sumOfPlanned_25 (nI_add _ _) ?_
          refine lv_istore_n (lv' := [(2, .int (nI (acc + (B.1 0 (i))))), (3, .int (nI (i))), (0, .ref (eX V (8 * b))), (1, .ref (eX V (8 * b + (0 + 1))))]) hx hcd dX0_sumOfPlanned_26 rfl hl (by decide) rfl (fun ls hl => ?_)
          refine lv_iinc (v := nI (i + 1)) (lv' := [(3, .int (nI (i + 1))), (2, .int (nI (acc + (B.1 0 (i))))), (0, .ref (eX V (8 * b))), (1, .ref (eX V (8 * b + (0 + 1))))]) hx hcd dX0_sumOfPlanned_27 hl (k := 1) rfl (by exact nI_add (i) 1) (by decide) rfl (fun ls hl => ?_)
          refine lv_goto (tgt := 4) hx hcd dX0_sumOfPlanned_30 (by decide) ?_
          exact ih_2 (i + 1) (acc + (B.1 0 (i))) (by omega) (sumUp_t ha (if_pos (by assumption))) (acc_in hb2 (by omega)) (by omega) _ _ h _ (lv_sub hl [1, 0, 2, 3] rfl)
  exact L_1 (16 + 1) 0 0 (by omega) rfl (by omega) (by omega) _ _ h _ (lv_sub hl [1, 0, 2, 3] rfl)
set_option maxHeartbeats 4000000 in
set_option maxRecDepth 100000 in
/-- sumOfPlanned(array 1) -/
theorem met_X0_sumOfPlanned1 (l : Launch) (V : kEnv) (S : kCs) (b : Nat) (B : kBd) (hb : b < 12) (hz : kSm B) : kI l yX0_sumOfPlanned cX0_sumOfPlanned 4 (some .int) { frames := 1, cells := 0, slots := 0, locals := 21 } V (cWs V) [.ref (eX V (8 * b)), .ref (eX V (8 * b + (1 + 1)))] (setB S b B) (fun r u => r = nI (psum B 1) ∧ u = setB S b B) 0 0 := by
  refine kI_of (by decide +kernel) (Nat.le_of_ble_eq_true rfl) ?_
  intro p e s m args below meth c G hret hlocks hC hB h ls hl Q hQ
  have hl : lv_has ls 4 [(0, .ref (eX V (8 * b))), (1, .ref (eX V (8 * b + (1 + 1))))] := hl
  have hx := G.1
  have hcd := G.2.1
  refine lv_iconst (v := nI 0) hx hcd dX0_sumOfPlanned_0 (by decide) ?_
  refine lv_istore_n (lv' := [(2, .int (nI 0)), (0, .ref (eX V (8 * b))), (1, .ref (eX V (8 * b + (1 + 1))))]) hx hcd dX0_sumOfPlanned_1 rfl hl (by decide) rfl (fun ls hl => ?_)
  refine lv_iconst (v := nI 0) hx hcd dX0_sumOfPlanned_2 (by decide) ?_
  refine lv_istore_n (lv' := [(3, .int (nI 0)), (2, .int (nI 0)), (0, .ref (eX V (8 * b))), (1, .ref (eX V (8 * b + (1 + 1))))]) hx hcd dX0_sumOfPlanned_3 rfl hl (by decide) rfl (fun ls hl => ?_)
  have L_1 : ∀ (fu_3 : Nat) (i : Nat) (acc : Nat) (hi : i ≤ 16) (ha : acc = sumUp (fun k => if (B.2 2).testBit k then B.1 1 k else 0) i) (hb2 : acc ≤ i * 65536), 16 - i < fu_3 → ∀ (H : Heap) (locs : List Loc), cH V s H locs (cWs V (setB S b B)) → ∀ ls : Array Slot, lv_has ls 4 [(2, .int (nI (acc))), (3, .int (nI (i))), (0, .ref (eX V (8 * b))), (1, .ref (eX V (8 * b + (1 + 1))))] → W p l e { frames := 1, cells := 0, slots := 0, locals := 21 } s m args below meth c H locs 0 0 Q (F0 m 4 ls []) := by
    intro fu_3
    induction fu_3 with
    | zero => intro i acc hi ha hb2 hm; exact absurd hm (Nat.not_lt_zero _)
    | succ fu_3 ih_2 =>
      intro i acc hi ha hb2 hm H locs h ls hl
      refine lv_iload_n hx hcd dX0_sumOfPlanned_4 rfl (lv_at hl 1 rfl) ?_
      refine lv_aload_n hx hcd dX0_sumOfPlanned_5 rfl (lv_at hl 3 rfl) ?_
      refine r_bN G hC h b 1 hb (by decide) (x := nI (16)) rfl dX0_sumOfPlanned_6 ?_
      refine lv_icmp_ge (tgt := 33) hx hcd dX0_sumOfPlanned_7 (by decide) (fun c_4 => ?_) (fun c_4 => ?_)
      · have c_4 := cLe (tN (n := 16) (by decide)) (tN (n := i) (by omega)) c_4
        refine lv_iload_n hx hcd dX0_sumOfPlanned_33 rfl (lv_at hl 0 rfl) ?_
        exact k_reti hQ G hret hlocks h (⟨by rw [ha, show i = 16 by omega]; rfl, rfl⟩) (Nat.le_of_ble_eq_true rfl) (Nat.le_of_ble_eq_true rfl) dX0_sumOfPlanned_34
      · have c_4 := cNle (tN (n := 16) (by decide)) (tN (n := i) (by omega)) c_4
        refine lv_aload_n hx hcd dX0_sumOfPlanned_10 rfl (lv_at hl 2 rfl) ?_
        refine r_bS G hC h b 2 hb (by decide) (setB_at _ _ _) mw_115 (x := nI (B.2 2)) rfl dX0_sumOfPlanned_11 ?_
        have q_5 := hz.2 2
        refine lv_iload_n hx hcd dX0_sumOfPlanned_14 rfl (lv_at hl 1 rfl) ?_
        refine k_Ni (As := [.int (nI (B.2 2)), .int (nI (i))]) (rest := []) G hC hB h (met_X3_holds l V (setB S b B) (B.2 2) i (by omega) (by omega)) hC.2.1.2.1 ks_X3_holds ⟨rfl, rfl⟩ ⟨Nat.le_of_ble_eq_true rfl, Nat.le_of_ble_eq_true rfl⟩ rfl rfl hl.1 (Nat.le_of_ble_eq_true rfl) dX0_sumOfPlanned_15 ⟨Nat.le_of_ble_eq_true rfl, Nat.le_of_ble_eq_true rfl⟩ (fun r u H locs hp h => ?_)
        obtain ⟨rfl, rfl⟩ := hp
        refine lv_if_eq (tgt := 27) hx hcd dX0_sumOfPlanned_18 (by decide) (fun c_6 => ?_) (fun c_6 => ?_)
        · have c_6 := bz0 c_6
          refine lv_iinc (v := nI (i + 1)) (lv' := [(3, .int (nI (i + 1))), (2, .int (nI (acc))), (0, .ref (eX V (8 * b))), (1, .ref (eX V (8 * b + (1 + 1))))]) hx hcd dX0_sumOfPlanned_27 hl (k := 1) rfl (by exact nI_add (i) 1) (by decide) rfl (fun ls hl => ?_)
          refine lv_goto (tgt := 4) hx hcd dX0_sumOfPlanned_30 (by decide) ?_
          exact ih_2 (i + 1) acc (by omega) (sumUp_z ha (if_neg (by rw [Bool.not_eq_true]; assumption))) (acc_up hb2) (by omega) _ _ h _ (lv_sub hl [1, 0, 2, 3] rfl)
        · have c_6 := bz1 c_6
          refine lv_iload_n hx hcd dX0_sumOfPlanned_21 rfl (lv_at hl 0 rfl) ?_
          refine lv_aload_n hx hcd dX0_sumOfPlanned_22 rfl (lv_at hl 3 rfl) ?_
          refine lv_iload_n hx hcd dX0_sumOfPlanned_23 rfl (lv_at hl 1 rfl) ?_
          refine r_bL G hC h b 1 i hb (by decide) (setB_at _ _ _) rfl (show i < 16 by omega) (x := nI (B.1 1 (i))) rfl dX0_sumOfPlanned_24 ?_
          have q_7 := hz.1 1 (i)
          refine w_iadd (v := nI (acc + (B.1 1 (i)))) hx hcd dX0_sumOfPlanned_25 (nI_add _ _) ?_
          refine lv_istore_n (lv' := [(2, .int (nI (acc + (B.1 1 (i))))), (3, .int (nI (i))), (0, .ref (eX V (8 * b))), (1, .ref (eX V (8 * b + (1 + 1))))]) hx hcd dX0_sumOfPlanned_26 rfl hl (by decide) rfl (fun ls hl => ?_)
          refine lv_iinc (v := nI (i + 1)) (lv' := [(3, .int (nI (i + 1))), (2, .int (nI (acc + (B.1 1 (i))))), (0, .ref (eX V (8 * b))), (1, .ref (eX V (8 * b + (1 + 1))))]) hx hcd dX0_sumOfPlanned_27 hl (k := 1) rfl (by exact nI_add (i) 1) (by decide) rfl (fun ls hl => ?_)
          refine lv_goto (tgt := 4) hx hcd dX0_sumOfPlanned_30 (by decide) ?_
          exact ih_2 (i + 1) (acc + (B.1 1 (i))) (by omega) (sumUp_t ha (if_pos (by assumption))) (acc_in hb2 (by omega)) (by omega) _ _ h _ (lv_sub hl [1, 0, 2, 3] rfl)
  exact L_1 (16 + 1) 0 0 (by omega) rfl (by omega) (by omega) _ _ h _ (lv_sub hl [1, 0, 2, 3] rfl)
set_option maxHeartbeats 4000000 in
set_option maxRecDepth 100000 in
/-- plannedPoints() -/
theorem met_X0_plannedPoints (l : Launch) (V : kEnv) (S : kCs) (b : Nat) (B : kBd) (hb : b < 12) (hz : kSm B) : kI l yX0_plannedPoints cX0_plannedPoints 1 (some .int) { frames := 2, cells := 0, slots := 0, locals := 44 } V (cWs V) [.ref (eX V (8 * b))] (setB S b B) (fun r u => r = nI (psum B 0) ∧ u = setB S b B) 0 0 := by
  refine kI_of (by decide +kernel) (Nat.le_of_ble_eq_true rfl) ?_
  intro p e s m args below meth c G hret hlocks hC hB h ls hl Q hQ
  have hl : lv_has ls 1 [(0, .ref (eX V (8 * b)))] := hl
  have hx := G.1
  have hcd := G.2.1
  refine lv_aload_n hx hcd dX0_plannedPoints_0 rfl (lv_at hl 0 rfl) ?_
  refine lv_aload_n hx hcd dX0_plannedPoints_1 rfl (lv_at hl 0 rfl) ?_
  refine r_bA G hC h b 0 hb (by decide) mw_98 dX0_plannedPoints_2 ?_
  refine k_Vi (As := [.ref (eX V (8 * b + (0 + 1)))]) (rest := []) (b := eX V (8 * b)) G hC hB h (met_X0_sumOfPlanned0 l V S b B hb hz) mw_300 kv_X0_sumOfPlanned ⟨rfl, rfl⟩ ⟨Nat.le_of_ble_eq_true rfl, Nat.le_of_ble_eq_true rfl⟩ (r_bV hC h b hb) rfl rfl hl.1 (Nat.le_of_ble_eq_true rfl) dX0_plannedPoints_5 ⟨Nat.le_of_ble_eq_true rfl, Nat.le_of_ble_eq_true rfl⟩ (fun r u H locs hp h => ?_)
  obtain ⟨rfl, rfl⟩ := hp
  exact k_reti hQ G hret hlocks h (⟨rfl, rfl⟩) (Nat.le_of_ble_eq_true rfl) (Nat.le_of_ble_eq_true rfl) dX0_plannedPoints_8
set_option maxHeartbeats 4000000 in
set_option maxRecDepth 100000 in
/-- plannedRemains() -/
theorem met_X0_plannedRemains (l : Launch) (V : kEnv) (S : kCs) (b : Nat) (B : kBd) (hb : b < 12) (hz : kSm B) : kI l yX0_plannedRemains cX0_plannedRemains 1 (some .int) { frames := 2, cells := 0, slots := 0, locals := 44 } V (cWs V) [.ref (eX V (8 * b))] (setB S b B) (fun r u => r = nI (psum B 1) ∧ u = setB S b B) 0 0 := by
  refine kI_of (by decide +kernel) (Nat.le_of_ble_eq_true rfl) ?_
  intro p e s m args below meth c G hret hlocks hC hB h ls hl Q hQ
  have hl : lv_has ls 1 [(0, .ref (eX V (8 * b)))] := hl
  have hx := G.1
  have hcd := G.2.1
  refine lv_aload_n hx hcd dX0_plannedRemains_0 rfl (lv_at hl 0 rfl) ?_
  refine lv_aload_n hx hcd dX0_plannedRemains_1 rfl (lv_at hl 0 rfl) ?_
  refine r_bA G hC h b 1 hb (by decide) mw_100 dX0_plannedRemains_2 ?_
  refine k_Vi (As := [.ref (eX V (8 * b + (1 + 1)))]) (rest := []) (b := eX V (8 * b)) G hC hB h (met_X0_sumOfPlanned1 l V S b B hb hz) mw_300 kv_X0_sumOfPlanned ⟨rfl, rfl⟩ ⟨Nat.le_of_ble_eq_true rfl, Nat.le_of_ble_eq_true rfl⟩ (r_bV hC h b hb) rfl rfl hl.1 (Nat.le_of_ble_eq_true rfl) dX0_plannedRemains_5 ⟨Nat.le_of_ble_eq_true rfl, Nat.le_of_ble_eq_true rfl⟩ (fun r u H locs hp h => ?_)
  obtain ⟨rfl, rfl⟩ := hp
  exact k_reti hQ G hret hlocks h (⟨rfl, rfl⟩) (Nat.le_of_ble_eq_true rfl) (Nat.le_of_ble_eq_true rfl) dX0_plannedRemains_8
set_option maxHeartbeats 4000000 in
set_option maxRecDepth 100000 in
/-- plannedWork() -/
theorem met_X0_plannedWork (l : Launch) (V : kEnv) (S : kCs) (b : Nat) (B : kBd) (hb : b < 12) (hz : kSm B) (hr : ∀ k, B.1 1 k ≤ B.1 0 k) : kI l yX0_plannedWork cX0_plannedWork 3 (some .int) { frames := 1, cells := 0, slots := 0, locals := 21 } V (cWs V) [.ref (eX V (8 * b))] (setB S b B) (fun r u => r = nI (pwork B) ∧ u = setB S b B) 0 0 := by
  refine kI_of (by decide +kernel) (Nat.le_of_ble_eq_true rfl) ?_
  intro p e s m args below meth c G hret hlocks hC hB h ls hl Q hQ
  have hl : lv_has ls 3 [(0, .ref (eX V (8 * b)))] := hl
  have hx := G.1
  have hcd := G.2.1
  refine lv_iconst (v := nI 0) hx hcd dX0_plannedWork_0 (by decide) ?_
  refine lv_istore_n (lv' := [(1, .int (nI 0)), (0, .ref (eX V (8 * b)))]) hx hcd dX0_plannedWork_1 rfl hl (by decide) rfl (fun ls hl => ?_)
  refine lv_iconst (v := nI 0) hx hcd dX0_plannedWork_2 (by decide) ?_
  refine lv_istore_n (lv' := [(2, .int (nI 0)), (1, .int (nI 0)), (0, .ref (eX V (8 * b)))]) hx hcd dX0_plannedWork_3 rfl hl (by decide) rfl (fun ls hl => ?_)
  have L_1 : ∀ (fu_3 : Nat) (i : Nat) (acc : Nat) (hi : i ≤ 16) (ha : acc = sumUp (fun k => if (B.2 2).testBit k then B.1 0 k - B.1 1 k else 0) i) (hb2 : acc ≤ i * 65536), 16 - i < fu_3 → ∀ (H : Heap) (locs : List Loc), cH V s H locs (cWs V (setB S b B)) → ∀ ls : Array Slot, lv_has ls 3 [(1, .int (nI (acc))), (2, .int (nI (i))), (0, .ref (eX V (8 * b)))] → W p l e { frames := 1, cells := 0, slots := 0, locals := 21 } s m args below meth c H locs 0 0 Q (F0 m 4 ls []) := by
    intro fu_3
    induction fu_3 with
    | zero => intro i acc hi ha hb2 hm; exact absurd hm (Nat.not_lt_zero _)
    | succ fu_3 ih_2 =>
      intro i acc hi ha hb2 hm H locs h ls hl
      refine lv_iload_n hx hcd dX0_plannedWork_4 rfl (lv_at hl 1 rfl) ?_
      refine lv_aload_n hx hcd dX0_plannedWork_5 rfl (lv_at hl 2 rfl) ?_
      refine r_bA G hC h b 0 hb (by decide) mw_98 dX0_plannedWork_6 ?_
      refine r_bN G hC h b 0 hb (by decide) (x := nI (16)) rfl dX0_plannedWork_9 ?_
      refine lv_icmp_ge (tgt := 46) hx hcd dX0_plannedWork_10 (by decide) (fun c_4 => ?_) (fun c_4 => ?_)
      · have c_4 := cLe (tN (n := 16) (by decide)) (tN (n := i) (by omega)) c_4
        refine lv_iload_n hx hcd dX0_plannedWork_46 rfl (lv_at hl 0 rfl) ?_
        exact k_reti hQ G hret hlocks h (⟨by rw [ha, show i = 16 by omega]; rfl, rfl⟩) (Nat.le_of_ble_eq_true rfl) (Nat.le_of_ble_eq_true rfl) dX0_plannedWork_47
      · have c_4 := cNle (tN (n := 16) (by decide)) (tN (n := i) (by omega)) c_4
        refine lv_aload_n hx hcd dX0_plannedWork_13 rfl (lv_at hl 2 rfl) ?_
        refine r_bS G hC h b 2 hb (by decide) (setB_at _ _ _) mw_115 (x := nI (B.2 2)) rfl dX0_plannedWork_14 ?_
        have q_5 := hz.2 2
        refine lv_iload_n hx hcd dX0_plannedWork_17 rfl (lv_at hl 1 rfl) ?_
        refine k_Ni (As := [.int (nI (B.2 2)), .int (nI (i))]) (rest := []) G hC hB h (met_X3_holds l V (setB S b B) (B.2 2) i (by omega) (by omega)) hC.2.1.2.1 ks_X3_holds ⟨rfl, rfl⟩ ⟨Nat.le_of_ble_eq_true rfl, Nat.le_of_ble_eq_true rfl⟩ rfl rfl hl.1 (Nat.le_of_ble_eq_true rfl) dX0_plannedWork_18 ⟨Nat.le_of_ble_eq_true rfl, Nat.le_of_ble_eq_true rfl⟩ (fun r u H locs hp h => ?_)
        obtain ⟨rfl, rfl⟩ := hp
        refine lv_if_eq (tgt := 40) hx hcd dX0_plannedWork_21 (by decide) (fun c_6 => ?_) (fun c_6 => ?_)
        · have c_6 := bz0 c_6
          refine lv_iinc (v := nI (i + 1)) (lv' := [(2, .int (nI (i + 1))), (1, .int (nI (acc))), (0, .ref (eX V (8 * b)))]) hx hcd dX0_plannedWork_40 hl (k := 1) rfl (by exact nI_add (i) 1) (by decide) rfl (fun ls hl => ?_)
          refine lv_goto (tgt := 4) hx hcd dX0_plannedWork_43 (by decide) ?_
          exact ih_2 (i + 1) acc (by omega) (sumUp_z ha (if_neg (by rw [Bool.not_eq_true]; assumption))) (acc_up hb2) (by omega) _ _ h _ (lv_sub hl [1, 0, 2] rfl)
        · have c_6 := bz1 c_6
          refine lv_iload_n hx hcd dX0_plannedWork_24 rfl (lv_at hl 0 rfl) ?_
          refine lv_aload_n hx hcd dX0_plannedWork_25 rfl (lv_at hl 2 rfl) ?_
          refine r_bA G hC h b 0 hb (by decide) mw_98 dX0_plannedWork_26 ?_
          refine lv_iload_n hx hcd dX0_plannedWork_29 rfl (lv_at hl 1 rfl) ?_
          refine r_bL G hC h b 0 i hb (by decide) (setB_at _ _ _) rfl (show i < 16 by omega) (x := nI (B.1 0 (i))) rfl dX0_plannedWork_30 ?_
          have q_7 := hz.1 0 (i)
          refine lv_aload_n hx hcd dX0_plannedWork_31 rfl (lv_at hl 2 rfl) ?_
          refine r_bA G hC h b 1 hb (by decide) mw_100 dX0_plannedWork_32 ?_
          refine lv_iload_n hx hcd dX0_plannedWork_35 rfl (lv_at hl 1 rfl) ?_
          refine r_bL G hC h b 1 i hb (by decide) (setB_at _ _ _) rfl (show i < 16 by omega) (x := nI (B.1 1 (i))) rfl dX0_plannedWork_36 ?_
          have q_8 := hz.1 1 (i)
          have hri := hr i
          refine w_isub (v := nI ((B.1 0 (i)) - (B.1 1 (i)))) hx hcd dX0_plannedWork_37 (pk_sub (by omega)) ?_
          refine w_iadd (v := nI (acc + ((B.1 0 (i)) - (B.1 1 (i))))) hx hcd dX0_plannedWork_38 (nI_add _ _) ?_
          refine lv_istore_n (lv' := [(1, .int (nI (acc + ((B.1 0 (i)) - (B.1 1 (i)))))), (2, .int (nI (i))), (0, .ref (eX V (8 * b)))]) hx hcd dX0_plannedWork_39 rfl hl (by decide) rfl (fun ls hl => ?_)
          refine lv_iinc (v := nI (i + 1)) (lv' := [(2, .int (nI (i + 1))), (1, .int (nI (acc + ((B.1 0 (i)) - (B.1 1 (i)))))), (0, .ref (eX V (8 * b)))]) hx hcd dX0_plannedWork_40 hl (k := 1) rfl (by exact nI_add (i) 1) (by decide) rfl (fun ls hl => ?_)
          refine lv_goto (tgt := 4) hx hcd dX0_plannedWork_43 (by decide) ?_
          exact ih_2 (i + 1) (acc + ((B.1 0 (i)) - (B.1 1 (i)))) (by omega) (sumUp_t ha (if_pos (by assumption))) (acc_in hb2 (by omega)) (by omega) _ _ h _ (lv_sub hl [1, 0, 2] rfl)
  exact L_1 (16 + 1) 0 0 (by omega) rfl (by omega) (by omega) _ _ h _ (lv_sub hl [1, 0, 2] rfl)
set_option maxHeartbeats 4000000 in
set_option maxRecDepth 100000 in
/-- finishedPoints() -/
theorem met_X0_finishedPoints (l : Launch) (V : kEnv) (S : kCs) (b : Nat) (B : kBd) (hb : b < 12) (hz : kSm B) : kI l yX0_finishedPoints cX0_finishedPoints 3 (some .int) { frames := 1, cells := 0, slots := 0, locals := 21 } V (cWs V) [.ref (eX V (8 * b))] (setB S b B) (fun r u => r = nI (pfin B) ∧ u = setB S b B) 0 0 := by
  refine kI_of (by decide +kernel) (Nat.le_of_ble_eq_true rfl) ?_
  intro p e s m args below meth c G hret hlocks hC hB h ls hl Q hQ
  have hl : lv_has ls 3 [(0, .ref (eX V (8 * b)))] := hl
  have hx := G.1
  have hcd := G.2.1
  refine lv_iconst (v := nI 0) hx hcd dX0_finishedPoints_0 (by decide) ?_
  refine lv_istore_n (lv' := [(1, .int (nI 0)), (0, .ref (eX V (8 * b)))]) hx hcd dX0_finishedPoints_1 rfl hl (by decide) rfl (fun ls hl => ?_)
  refine lv_iconst (v := nI 0) hx hcd dX0_finishedPoints_2 (by decide) ?_
  refine lv_istore_n (lv' := [(2, .int (nI 0)), (1, .int (nI 0)), (0, .ref (eX V (8 * b)))]) hx hcd dX0_finishedPoints_3 rfl hl (by decide) rfl (fun ls hl => ?_)
  have L_1 : ∀ (fu_3 : Nat) (i : Nat) (acc : Nat) (hi : i ≤ 16) (ha : acc = sumUp (fun k => if (B.2 2).testBit k ∧ B.1 1 k = 0 then B.1 0 k else 0) i) (hb2 : acc ≤ i * 65536), 16 - i < fu_3 → ∀ (H : Heap) (locs : List Loc), cH V s H locs (cWs V (setB S b B)) → ∀ ls : Array Slot, lv_has ls 3 [(1, .int (nI (acc))), (2, .int (nI (i))), (0, .ref (eX V (8 * b)))] → W p l e { frames := 1, cells := 0, slots := 0, locals := 21 } s m args below meth c H locs 0 0 Q (F0 m 4 ls []) := by
    intro fu_3
    induction fu_3 with
    | zero => intro i acc hi ha hb2 hm; exact absurd hm (Nat.not_lt_zero _)
    | succ fu_3 ih_2 =>
      intro i acc hi ha hb2 hm H locs h ls hl
      refine lv_iload_n hx hcd dX0_finishedPoints_4 rfl (lv_at hl 1 rfl) ?_
      refine lv_aload_n hx hcd dX0_finishedPoints_5 rfl (lv_at hl 2 rfl) ?_
      refine r_bA G hC h b 0 hb (by decide) mw_98 dX0_finishedPoints_6 ?_
      refine r_bN G hC h b 0 hb (by decide) (x := nI (16)) rfl dX0_finishedPoints_9 ?_
      refine lv_icmp_ge (tgt := 48) hx hcd dX0_finishedPoints_10 (by decide) (fun c_4 => ?_) (fun c_4 => ?_)
      · have c_4 := cLe (tN (n := 16) (by decide)) (tN (n := i) (by omega)) c_4
        refine lv_iload_n hx hcd dX0_finishedPoints_48 rfl (lv_at hl 0 rfl) ?_
        exact k_reti hQ G hret hlocks h (⟨by rw [ha, show i = 16 by omega]; rfl, rfl⟩) (Nat.le_of_ble_eq_true rfl) (Nat.le_of_ble_eq_true rfl) dX0_finishedPoints_49
      · have c_4 := cNle (tN (n := 16) (by decide)) (tN (n := i) (by omega)) c_4
        refine lv_aload_n hx hcd dX0_finishedPoints_13 rfl (lv_at hl 2 rfl) ?_
        refine r_bS G hC h b 2 hb (by decide) (setB_at _ _ _) mw_115 (x := nI (B.2 2)) rfl dX0_finishedPoints_14 ?_
        have q_5 := hz.2 2
        refine lv_iload_n hx hcd dX0_finishedPoints_17 rfl (lv_at hl 1 rfl) ?_
        refine k_Ni (As := [.int (nI (B.2 2)), .int (nI (i))]) (rest := []) G hC hB h (met_X3_holds l V (setB S b B) (B.2 2) i (by omega) (by omega)) hC.2.1.2.1 ks_X3_holds ⟨rfl, rfl⟩ ⟨Nat.le_of_ble_eq_true rfl, Nat.le_of_ble_eq_true rfl⟩ rfl rfl hl.1 (Nat.le_of_ble_eq_true rfl) dX0_finishedPoints_18 ⟨Nat.le_of_ble_eq_true rfl, Nat.le_of_ble_eq_true rfl⟩ (fun r u H locs hp h => ?_)
        obtain ⟨rfl, rfl⟩ := hp
        refine lv_if_eq (tgt := 42) hx hcd dX0_finishedPoints_21 (by decide) (fun c_6 => ?_) (fun c_6 => ?_)
        · have c_6 := bz0 c_6
          refine lv_iinc (v := nI (i + 1)) (lv' := [(2, .int (nI (i + 1))), (1, .int (nI (acc))), (0, .ref (eX V (8 * b)))]) hx hcd dX0_finishedPoints_42 hl (k := 1) rfl (by exact nI_add (i) 1) (by decide) rfl (fun ls hl => ?_)
          refine lv_goto (tgt := 4) hx hcd dX0_finishedPoints_45 (by decide) ?_
          exact ih_2 (i + 1) acc (by omega) (sumUp_z ha (if_neg (fun z => by first | (exact Bool.noConfusion (z.1.symm.trans (by assumption))) | omega))) (acc_up hb2) (by omega) _ _ h _ (lv_sub hl [1, 0, 2] rfl)
        · have c_6 := bz1 c_6
          refine lv_aload_n hx hcd dX0_finishedPoints_24 rfl (lv_at hl 2 rfl) ?_
          refine r_bA G hC h b 1 hb (by decide) mw_100 dX0_finishedPoints_25 ?_
          refine lv_iload_n hx hcd dX0_finishedPoints_28 rfl (lv_at hl 1 rfl) ?_
          refine r_bL G hC h b 1 i hb (by decide) (setB_at _ _ _) rfl (show i < 16 by omega) (x := nI (B.1 1 (i))) rfl dX0_finishedPoints_29 ?_
          have q_7 := hz.1 1 (i)
          refine lv_if_ne (tgt := 42) hx hcd dX0_finishedPoints_30 (by decide) (fun c_8 => ?_) (fun c_8 => ?_)
          · have c_8 := cNe (tN (n := B.1 1 (i)) (by omega)) t0 c_8
            refine lv_iinc (v := nI (i + 1)) (lv' := [(2, .int (nI (i + 1))), (1, .int (nI (acc))), (0, .ref (eX V (8 * b)))]) hx hcd dX0_finishedPoints_42 hl (k := 1) rfl (by exact nI_add (i) 1) (by decide) rfl (fun ls hl => ?_)
            refine lv_goto (tgt := 4) hx hcd dX0_finishedPoints_45 (by decide) ?_
            exact ih_2 (i + 1) acc (by omega) (sumUp_z ha (if_neg (fun z => by first | (exact Bool.noConfusion (z.1.symm.trans (by assumption))) | omega))) (acc_up hb2) (by omega) _ _ h _ (lv_sub hl [1, 0, 2] rfl)
          · have c_8 := cEq (tN (n := B.1 1 (i)) (by omega)) t0 c_8
            refine lv_iload_n hx hcd dX0_finishedPoints_33 rfl (lv_at hl 0 rfl) ?_
            refine lv_aload_n hx hcd dX0_finishedPoints_34 rfl (lv_at hl 2 rfl) ?_
            refine r_bA G hC h b 0 hb (by decide) mw_98 dX0_finishedPoints_35 ?_
            refine lv_iload_n hx hcd dX0_finishedPoints_38 rfl (lv_at hl 1 rfl) ?_
            refine r_bL G hC h b 0 i hb (by decide) (setB_at _ _ _) rfl (show i < 16 by omega) (x := nI (B.1 0 (i))) rfl dX0_finishedPoints_39 ?_
            have q_9 := hz.1 0 (i)
            refine w_iadd (v := nI (acc + (B.1 0 (i)))) hx hcd dX0_finishedPoints_40 (nI_add _ _) ?_
            refine lv_istore_n (lv' := [(1, .int (nI (acc + (B.1 0 (i))))), (2, .int (nI (i))), (0, .ref (eX V (8 * b)))]) hx hcd dX0_finishedPoints_41 rfl hl (by decide) rfl (fun ls hl => ?_)
            refine lv_iinc (v := nI (i + 1)) (lv' := [(2, .int (nI (i + 1))), (1, .int (nI (acc + (B.1 0 (i))))), (0, .ref (eX V (8 * b)))]) hx hcd dX0_finishedPoints_42 hl (k := 1) rfl (by exact nI_add (i) 1) (by decide) rfl (fun ls hl => ?_)
            refine lv_goto (tgt := 4) hx hcd dX0_finishedPoints_45 (by decide) ?_
            exact ih_2 (i + 1) (acc + (B.1 0 (i))) (by omega) (sumUp_t ha (if_pos ⟨by assumption, by omega⟩)) (acc_in hb2 (by omega)) (by omega) _ _ h _ (lv_sub hl [1, 0, 2] rfl)
  exact L_1 (16 + 1) 0 0 (by omega) rfl (by omega) (by omega) _ _ h _ (lv_sub hl [1, 0, 2] rfl)
