theorem mwx_1941 : (Jvm.Cond.sameMethod "java/lang/AbstractStringBuilder" "java/lang/AbstractStringBuilder" "charAt" "(I)C") ∈ LW := lwm 1941 (by decide +kernel) rfl
theorem ks_J0_checkIndex_df160 : kSt yJ0_checkIndex_df160 cJ0_checkIndex_df160 2 none 2 := ⟨mw_695, mw_62, mw_696, by decide, by decide, by decide +kernel⟩
theorem kv_J0_coder_7d493 : kV yJ0_coder_7d493 cJ0_coder_7d493 1 (some .byte) 0 := ⟨mw_424, mw_425, mw_62, mw_426, by decide, by decide, by decide +kernel⟩
theorem kv_J0_isLatin1_aae02 : kV yJ0_isLatin1_aae02 cJ0_isLatin1_aae02 1 (some .boolean) 0 := ⟨mw_1392, mw_1393, mw_62, mw_1394, by decide, by decide, by decide +kernel⟩
theorem ks_J1_charAt_3b067 : kSt yJ1_charAt_3b067 cJ1_charAt_3b067 2 (some .char) 2 := ⟨mw_1396, mw_83, mw_1397, by decide, by decide, by decide +kernel⟩
theorem ks_J3_checkIndex_8e157 : kSt yJ3_checkIndex_8e157 cJ3_checkIndex_8e157 3 (some .int) 3 := ⟨mw_698, mw_82, mw_699, by decide, by decide, by decide +kernel⟩
theorem kp_J5_charAt_5068e : kVp RJ4 yJ5_charAt_5068e cJ5_charAt_5068e 5 (some .char) 1 := ⟨mwx_1941, mwx_215, mw_1321, mw_60, mw_1322, by decide, by decide +kernel⟩
set_option maxHeartbeats 4000000 in
set_option maxRecDepth 100000 in
/-- Preconditions.checkIndex -/
theorem met_J3_checkIndexN (l : Launch) (V : kEnv) (S : kCs) (a b : Nat) (hab : a < b) (hb : b < 2147483648) : kI l yJ3_checkIndex_8e157 cJ3_checkIndex_8e157 3 (some .int) { frames := 0, cells := 0, slots := 0, locals := 0 } V (cWs V) [.int (nI (a)), .int (nI (b)), .null] (S) (fun r u => r = nI a ∧ u = S) 0 0 := by
  refine kI_of (by decide +kernel) (Nat.le_of_ble_eq_true rfl) ?_
  intro p e s m args below meth c G hret hlocks hC hB h ls hl Q hQ
  have hl : lv_has ls 3 [(0, .int (nI (a))), (1, .int (nI (b))), (2, .null)] := hl
  have hx := G.1
  have hcd := G.2.1
  refine lv_iload_n hx hcd dJ3_checkIndex_8e157_0 rfl (lv_at hl 0 rfl) ?_
  refine lv_if_lt (tgt := 9) hx hcd dJ3_checkIndex_8e157_1 (by decide) (fun c_1 => ?_) (fun c_1 => ?_)
  · have c_1 := cLt (tN (n := a) (by omega)) t0 c_1
    exact absurd c_1 (by omega)
  · have c_1 := cNlt (tN (n := a) (by omega)) t0 c_1
    refine lv_iload_n hx hcd dJ3_checkIndex_8e157_4 rfl (lv_at hl 0 rfl) ?_
    refine lv_iload_n hx hcd dJ3_checkIndex_8e157_5 rfl (lv_at hl 1 rfl) ?_
    refine lv_icmp_lt (tgt := 16) hx hcd dJ3_checkIndex_8e157_6 (by decide) (fun c_2 => ?_) (fun c_2 => ?_)
    · have c_2 := cLt (tN (n := a) (by omega)) (tN (n := b) (by omega)) c_2
      refine lv_iload_n hx hcd dJ3_checkIndex_8e157_16 rfl (lv_at hl 0 rfl) ?_
      exact k_reti hQ G hret hlocks h (⟨rfl, rfl⟩) (Nat.le_of_ble_eq_true rfl) (Nat.le_of_ble_eq_true rfl) dJ3_checkIndex_8e157_17
    · have c_2 := cNlt (tN (n := a) (by omega)) (tN (n := b) (by omega)) c_2
      exact absurd c_2 (by omega)
set_option maxHeartbeats 4000000 in
set_option maxRecDepth 100000 in
/-- Preconditions.checkIndex -/
theorem met_J3_checkIndexR (l : Launch) (V : kEnv) (S : kCs) (a b : Nat) (hab : a < b) (hb : b < 2147483648) (a9 : Nat) : kI l yJ3_checkIndex_8e157 cJ3_checkIndex_8e157 3 (some .int) { frames := 0, cells := 0, slots := 0, locals := 0 } V (cWs V) [.int (nI (a)), .int (nI (b)), .ref (a9)] (S) (fun r u => r = nI a ∧ u = S) 0 0 := by
  refine kI_of (by decide +kernel) (Nat.le_of_ble_eq_true rfl) ?_
  intro p e s m args below meth c G hret hlocks hC hB h ls hl Q hQ
  have hl : lv_has ls 3 [(0, .int (nI (a))), (1, .int (nI (b))), (2, .ref (a9))] := hl
  have hx := G.1
  have hcd := G.2.1
  refine lv_iload_n hx hcd dJ3_checkIndex_8e157_0 rfl (lv_at hl 0 rfl) ?_
  refine lv_if_lt (tgt := 9) hx hcd dJ3_checkIndex_8e157_1 (by decide) (fun c_1 => ?_) (fun c_1 => ?_)
  · have c_1 := cLt (tN (n := a) (by omega)) t0 c_1
    exact absurd c_1 (by omega)
  · have c_1 := cNlt (tN (n := a) (by omega)) t0 c_1
    refine lv_iload_n hx hcd dJ3_checkIndex_8e157_4 rfl (lv_at hl 0 rfl) ?_
    refine lv_iload_n hx hcd dJ3_checkIndex_8e157_5 rfl (lv_at hl 1 rfl) ?_
    refine lv_icmp_lt (tgt := 16) hx hcd dJ3_checkIndex_8e157_6 (by decide) (fun c_2 => ?_) (fun c_2 => ?_)
    · have c_2 := cLt (tN (n := a) (by omega)) (tN (n := b) (by omega)) c_2
      refine lv_iload_n hx hcd dJ3_checkIndex_8e157_16 rfl (lv_at hl 0 rfl) ?_
      exact k_reti hQ G hret hlocks h (⟨rfl, rfl⟩) (Nat.le_of_ble_eq_true rfl) (Nat.le_of_ble_eq_true rfl) dJ3_checkIndex_8e157_17
    · have c_2 := cNlt (tN (n := a) (by omega)) (tN (n := b) (by omega)) c_2
      exact absurd c_2 (by omega)
set_option maxHeartbeats 4000000 in
set_option maxRecDepth 100000 in
/-- String.checkIndex(a, b) -/
theorem met_J0_checkIndex_df160 (l : Launch) (V : kEnv) (S : kCs) (a b : Nat) (hab : a < b) (hb : b < 2147483648) : kU l yJ0_checkIndex_df160 cJ0_checkIndex_df160 2 { frames := 1, cells := 0, slots := 0, locals := 22 } V (cWs V) [.int (nI (a)), .int (nI (b))] (S) (fun u => u = S) 0 0 := by
  refine kU_of (by decide +kernel) (Nat.le_of_ble_eq_true rfl) ?_
  intro p e s m args below meth c G hret hlocks hC hB h ls hl Q hQ
  have hl : lv_has ls 2 [(0, .int (nI (a))), (1, .int (nI (b)))] := hl
  have hx := G.1
  have hcd := G.2.1
  refine lv_iload_n hx hcd dJ0_checkIndex_df160_0 rfl (lv_at hl 0 rfl) ?_
  refine lv_iload_n hx hcd dJ0_checkIndex_df160_1 rfl (lv_at hl 1 rfl) ?_
  refine r_sio G hC h mw_405 dJ0_checkIndex_df160_2 (fun r9 => ?_)
  rcases r9 with _ | t9
  · show W p l e _ s m _ below meth c _ _ _ _ Q (F0 m 5 ls (.null :: .int (nI b) :: .int (nI a) :: []))
    refine k_Si (As := [.int (nI (a)), .int (nI (b)), .null]) (rest := []) G hC hB h (met_J3_checkIndexN l V S a b (by omega) (by omega)) mw_697 ks_J3_checkIndex_8e157 ⟨rfl, rfl⟩ ⟨Nat.le_of_ble_eq_true rfl, Nat.le_of_ble_eq_true rfl⟩ rfl rfl hl.1 (Nat.le_of_ble_eq_true rfl) dJ0_checkIndex_df160_5 ⟨Nat.le_of_ble_eq_true rfl, Nat.le_of_ble_eq_true rfl⟩ (fun r u H locs hp h => ?_)
    obtain ⟨rfl, hu⟩ := hp; rw [hu] at h
    refine lv_pop hx hcd dJ0_checkIndex_df160_8 rfl ?_
    exact k_retv hQ G hret hlocks h (rfl) (Nat.le_of_ble_eq_true rfl) (Nat.le_of_ble_eq_true rfl) dJ0_checkIndex_df160_9
  · show W p l e _ s m _ below meth c _ _ _ _ Q (F0 m 5 ls (.ref (t9) :: .int (nI b) :: .int (nI a) :: []))
    refine k_Si (As := [.int (nI (a)), .int (nI (b)), .ref (t9)]) (rest := []) G hC hB h (met_J3_checkIndexR l V S a b (by omega) (by omega) t9) mw_697 ks_J3_checkIndex_8e157 ⟨rfl, rfl⟩ ⟨Nat.le_of_ble_eq_true rfl, Nat.le_of_ble_eq_true rfl⟩ rfl rfl hl.1 (Nat.le_of_ble_eq_true rfl) dJ0_checkIndex_df160_5 ⟨Nat.le_of_ble_eq_true rfl, Nat.le_of_ble_eq_true rfl⟩ (fun r u H locs hp h => ?_)
    obtain ⟨rfl, hu⟩ := hp; rw [hu] at h
    refine lv_pop hx hcd dJ0_checkIndex_df160_8 rfl ?_
    exact k_retv hQ G hret hlocks h (rfl) (Nat.le_of_ble_eq_true rfl) (Nat.le_of_ble_eq_true rfl) dJ0_checkIndex_df160_9
set_option maxHeartbeats 4000000 in
set_option maxRecDepth 100000 in
/-- charAt(q) -/
theorem met_J5_charAt_5068e (l : Launch) (V : kEnv) (S : kCs) (k : Nat) (hk : k < 2) (x : kSb) (L : List Nat) (hR : sbR x L) (q : Nat) (hq : q < L.length) : kI l yJ5_charAt_5068e cJ5_charAt_5068e 5 (some .char) { frames := 2, cells := 0, slots := 0, locals := 43 } V (cWs V) [.ref (eX V (104 + k)), .int (nI (q))] (uPut S k x) (fun r u => r = nI (L.getD q 0) ∧ u = uPut S k x) 0 0 := by
  refine kI_of (by decide +kernel) (Nat.le_of_ble_eq_true rfl) ?_
  intro p e s m args below meth c G hret hlocks hC hB h ls hl Q hQ
  have hl : lv_has ls 5 [(0, .ref (eX V (104 + k))), (1, .int (nI (q)))] := hl
  have hx := G.1
  have hcd := G.2.1
  have hR0 := hR
  obtain ⟨r1, r2, r3, r4, r5⟩ := hR0
  have hc1 := (r4 q hq).1
  refine lv_aload_n hx hcd dJ5_charAt_5068e_0 rfl (lv_at hl 0 rfl) ?_
  refine r_uF G hC h k 1 hk (by decide) mw_203 (v := .int 0) (by rw [uPut_at]; rfl) dJ5_charAt_5068e_1 ?_
  refine lv_istore_n (lv' := [(2, .int (0)), (0, .ref (eX V (104 + k))), (1, .int (nI (q)))]) hx hcd dJ5_charAt_5068e_4 rfl hl (by decide) rfl (fun ls hl => ?_)
  refine lv_aload_n hx hcd dJ5_charAt_5068e_5 rfl (lv_at hl 1 rfl) ?_
  refine r_uF G hC h k 0 hk (by decide) mw_202 (v := .ref (x.2.2.1)) (by rw [uPut_at]; rfl) dJ5_charAt_5068e_6 ?_
  refine lv_astore_n (lv' := [(3, .ref (x.2.2.1)), (2, .int (0)), (0, .ref (eX V (104 + k))), (1, .int (nI (q)))]) hx hcd dJ5_charAt_5068e_9 rfl hl (by decide) rfl (fun ls hl => ?_)
  refine lv_aload_n hx hcd dJ5_charAt_5068e_10 rfl (lv_at hl 2 rfl) ?_
  refine r_uF G hC h k 3 hk (by decide) mw_206 (v := .int (nI (x.2.2.2.1))) (by rw [uPut_at]; rfl) dJ5_charAt_5068e_11 ?_
  refine lv_aload_n hx hcd dJ5_charAt_5068e_14 rfl (lv_at hl 0 rfl) ?_
  refine r_xN G hC k h hk (v := nI (x.2.1)) rfl dJ5_charAt_5068e_15 ?_
  refine lv_iload_n hx hcd dJ5_charAt_5068e_16 rfl (lv_at hl 1 rfl) ?_
  refine w_ishr (v := nI (x.2.1)) hx hcd dJ5_charAt_5068e_17 (sb_shr0 _) ?_
  refine va_mmin hx hcd (by rw [G.2.2.1]; exact hl.1.symm) G.2.2.2.1 (G.2.2.2.2 _ mw_1323) (G.2.2.2.2 _ mw_383) (G.2.2.2.2 _ mw_70) (G.2.2.2.2 _ mw_384) (Nat.le_of_ble_eq_true rfl) (Nat.le_of_ble_eq_true rfl) (Nat.le_of_ble_eq_true rfl) (Nat.le_of_ble_eq_true rfl) dJ5_charAt_5068e_18 ?_
  refine lv_topi (fun z_1 e_z_1 => ?_)
  obtain rfl : z_1 = nI (min x.2.2.2.1 x.2.1) := by rw [e_z_1]; exact n_min (by omega) (by omega)
  refine lv_istore (lv' := [(4, .int (nI (min x.2.2.2.1 x.2.1))), (3, .ref (x.2.2.1)), (2, .int (0)), (0, .ref (eX V (104 + k))), (1, .int (nI (q)))]) hx hcd dJ5_charAt_5068e_21 hl (by decide) rfl (fun ls hl => ?_)
  refine lv_iload_n hx hcd dJ5_charAt_5068e_23 rfl (lv_at hl 4 rfl) ?_
  refine lv_iload hx hcd dJ5_charAt_5068e_24 (lv_at hl 0 rfl) ?_
  refine k_Sv (As := [.int (nI (q)), .int (nI (min x.2.2.2.1 x.2.1))]) (rest := []) G hC hB h (met_J0_checkIndex_df160 l V (uPut S k x) q (min x.2.2.2.1 x.2.1) (by omega) (by omega)) mw_1324 ks_J0_checkIndex_df160 ⟨rfl, rfl⟩ ⟨Nat.le_of_ble_eq_true rfl, Nat.le_of_ble_eq_true rfl⟩ rfl rfl hl.1 (Nat.le_of_ble_eq_true rfl) dJ5_charAt_5068e_26 ⟨Nat.le_of_ble_eq_true rfl, Nat.le_of_ble_eq_true rfl⟩ (fun u H locs hp h => ?_)
  have hu := hp; rw [hu] at h
  refine lv_iload_n hx hcd dJ5_charAt_5068e_29 rfl (lv_at hl 2 rfl) ?_
  refine lv_if_ne (tgt := 42) hx hcd dJ5_charAt_5068e_30 (by decide) (fun c_2 => absurd c_2 (by decide)) (fun _ => ?_)
  refine lv_aload_n hx hcd dJ5_charAt_5068e_33 rfl (lv_at hl 1 rfl) ?_
  refine lv_iload_n hx hcd dJ5_charAt_5068e_34 rfl (lv_at hl 4 rfl) ?_
  refine r_xL G hC k (q) h hk rfl (by show q < x.2.1; omega) (by show x.2.1 < 2 ^ 31; omega) (v := nI (L.getD q 0)) (r4 q hq).2 dJ5_charAt_5068e_35 ?_
  refine lv_sipush (v := nI 255) hx hcd dJ5_charAt_5068e_36 (by decide) ?_
  refine w_iand (v := nI (L.getD q 0)) hx hcd dJ5_charAt_5068e_39 (ch_255 (by first | assumption | omega)) ?_
  refine lv_i2c (v := nI (L.getD q 0)) hx hcd dJ5_charAt_5068e_40 (ch_i2c (by first | assumption | omega)) ?_
  exact k_retc hQ G hret hlocks h (ch_nc (by first | assumption | omega)) (⟨rfl, rfl⟩) (Nat.le_of_ble_eq_true rfl) (Nat.le_of_ble_eq_true rfl) dJ5_charAt_5068e_41
set_option maxHeartbeats 4000000 in
set_option maxRecDepth 100000 in
/-- StringBuilder.charAt(q) -/
theorem met_J4_charAt_5068e (l : Launch) (V : kEnv) (S : kCs) (k : Nat) (hk : k < 2) (x : kSb) (L : List Nat) (hR : sbR x L) (q : Nat) (hq : q < L.length) : kI l yJ4_charAt_5068e cJ4_charAt_5068e 2 (some .char) { frames := 3, cells := 0, slots := 0, locals := 67 } V (cWs V) [.ref (eX V (104 + k)), .int (nI (q))] (uPut S k x) (fun r u => r = nI (L.getD q 0) ∧ u = uPut S k x) 0 0 := by
  refine kI_of (by decide +kernel) (Nat.le_of_ble_eq_true rfl) ?_
  intro p e s m args below meth c G hret hlocks hC hB h ls hl Q hQ
  have hl : lv_has ls 2 [(0, .ref (eX V (104 + k))), (1, .int (nI (q)))] := hl
  have hx := G.1
  have hcd := G.2.1
  have hc1 := (hR.2.2.2.1 q hq).1
  refine lv_aload_n hx hcd dJ4_charAt_5068e_0 rfl (lv_at hl 0 rfl) ?_
  refine lv_iload_n hx hcd dJ4_charAt_5068e_1 rfl (lv_at hl 1 rfl) ?_
  refine k_Pi (As := [.int (nI (q))]) (rest := []) (b := eX V (104 + k)) ((hC.1.1 1 _ rfl).2) G hC hB h (met_J5_charAt_5068e l V S k hk x L hR q hq) mw_1320 kp_J5_charAt_5068e ⟨rfl, rfl⟩ ⟨Nat.le_of_ble_eq_true rfl, Nat.le_of_ble_eq_true rfl⟩ (r_uV hC h k hk) rfl rfl hl.1 (Nat.le_of_ble_eq_true rfl) dJ4_charAt_5068e_2 ⟨Nat.le_of_ble_eq_true rfl, Nat.le_of_ble_eq_true rfl⟩ (fun r u H locs hp h => ?_)
  obtain ⟨rfl, rfl⟩ := hp
  exact k_retc hQ G hret hlocks h (ch_nc (by first | assumption | omega)) (⟨rfl, rfl⟩) (Nat.le_of_ble_eq_true rfl) (Nat.le_of_ble_eq_true rfl) dJ4_charAt_5068e_5
set_option maxHeartbeats 4000000 in
set_option maxRecDepth 100000 in
/-- String.coder() -/
theorem met_J0_coder_7d493 (l : Launch) (V : kEnv) (S : kCs) (i : Nat) (hi : i < 23) : kI l yJ0_coder_7d493 cJ0_coder_7d493 1 (some .byte) { frames := 0, cells := 0, slots := 0, locals := 0 } V (cWs V) [.ref (eX V (200 + i))] (S) (fun r u => r = 0 ∧ u = S) 0 0 := by
  refine kI_of (by decide +kernel) (Nat.le_of_ble_eq_true rfl) ?_
  intro p e s m args below meth c G hret hlocks hC hB h ls hl Q hQ
  have hl : lv_has ls 1 [(0, .ref (eX V (200 + i)))] := hl
  have hx := G.1
  have hcd := G.2.1
  refine r_cs G hC h mw_427 dJ0_coder_7d493_0 ?_
  refine lv_if_eq (tgt := 13) hx hcd dJ0_coder_7d493_3 (by decide) (fun c_1 => absurd c_1 (by decide)) (fun _ => ?_)
  refine lv_aload_n hx hcd dJ0_coder_7d493_6 rfl (lv_at hl 0 rfl) ?_
  refine r_tF1 G hC h i hi mw_614 dJ0_coder_7d493_7 ?_
  refine lv_goto (tgt := 14) hx hcd dJ0_coder_7d493_10 (by decide) ?_
  exact k_retc hQ G hret hlocks h rfl (⟨rfl, rfl⟩) (Nat.le_of_ble_eq_true rfl) (Nat.le_of_ble_eq_true rfl) dJ0_coder_7d493_14
set_option maxHeartbeats 4000000 in
set_option maxRecDepth 100000 in
/-- String.isLatin1() -/
theorem met_J0_isLatin1_aae02 (l : Launch) (V : kEnv) (S : kCs) (i : Nat) (hi : i < 23) : kI l yJ0_isLatin1_aae02 cJ0_isLatin1_aae02 1 (some .boolean) { frames := 0, cells := 0, slots := 0, locals := 0 } V (cWs V) [.ref (eX V (200 + i))] (S) (fun r u => r = nI 1 ∧ u = S) 0 0 := by
  refine kI_of (by decide +kernel) (Nat.le_of_ble_eq_true rfl) ?_
  intro p e s m args below meth c G hret hlocks hC hB h ls hl Q hQ
  have hl : lv_has ls 1 [(0, .ref (eX V (200 + i)))] := hl
  have hx := G.1
  have hcd := G.2.1
  refine r_cs G hC h mw_427 dJ0_isLatin1_aae02_0 ?_
  refine lv_if_eq (tgt := 17) hx hcd dJ0_isLatin1_aae02_3 (by decide) (fun c_1 => absurd c_1 (by decide)) (fun _ => ?_)
  refine lv_aload_n hx hcd dJ0_isLatin1_aae02_6 rfl (lv_at hl 0 rfl) ?_
  refine r_tF1 G hC h i hi mw_614 dJ0_isLatin1_aae02_7 ?_
  refine lv_if_ne (tgt := 17) hx hcd dJ0_isLatin1_aae02_10 (by decide) (fun c_2 => absurd c_2 (by decide)) (fun _ => ?_)
  refine lv_iconst (v := nI 1) hx hcd dJ0_isLatin1_aae02_13 (by decide) ?_
  refine lv_goto (tgt := 18) hx hcd dJ0_isLatin1_aae02_14 (by decide) ?_
  exact k_retz hQ G hret hlocks h (Or.inr rfl) (⟨rfl, rfl⟩) (Nat.le_of_ble_eq_true rfl) (Nat.le_of_ble_eq_true rfl) dJ0_isLatin1_aae02_18
set_option maxHeartbeats 4000000 in
set_option maxRecDepth 100000 in
/-- String.length() -/
theorem met_J0_length_8abf5 (l : Launch) (V : kEnv) (S : kCs) (i : Nat) (hi : i < 23) : kI l yJ0_length_8abf5 cJ0_length_8abf5 1 (some .int) { frames := 1, cells := 0, slots := 0, locals := 20 } V (cWs V) [.ref (eX V (200 + i))] (S) (fun r u => r = nI (kLs i).length ∧ u = S) 0 0 := by
  refine kI_of (by decide +kernel) (Nat.le_of_ble_eq_true rfl) ?_
  intro p e s m args below meth c G hret hlocks hC hB h ls hl Q hQ
  have hl : lv_has ls 1 [(0, .ref (eX V (200 + i)))] := hl
  have hx := G.1
  have hcd := G.2.1
  refine lv_aload_n hx hcd dJ0_length_8abf5_0 rfl (lv_at hl 0 rfl) ?_
  refine r_tF0 G hC h i hi mw_613 dJ0_length_8abf5_1 ?_
  refine r_tN G hC h i hi (x := nI (kLs i).length) (congrArg nI (kTx_ok ⟨i, hi⟩).1) dJ0_length_8abf5_4 ?_
  refine lv_aload_n hx hcd dJ0_length_8abf5_5 rfl (lv_at hl 0 rfl) ?_
  refine k_Vi (As := []) (rest := [.int (nI ((kLs i).length))]) (b := eX V (200 + i)) G hC hB h (met_J0_coder_7d493 l V S i hi) mw_423 kv_J0_coder_7d493 ⟨rfl, rfl⟩ ⟨Nat.le_of_ble_eq_true rfl, Nat.le_of_ble_eq_true rfl⟩ (r_xV hC h i hi) rfl rfl hl.1 (Nat.le_of_ble_eq_true rfl) dJ0_length_8abf5_6 ⟨Nat.le_of_ble_eq_true rfl, Nat.le_of_ble_eq_true rfl⟩ (fun r u H locs hp h => ?_)
  obtain ⟨rfl, hu⟩ := hp; rw [hu] at h
  refine w_ishr (v := nI ((kLs i).length)) hx hcd dJ0_length_8abf5_9 (sb_shr0 _) ?_
  exact k_reti hQ G hret hlocks h (⟨rfl, rfl⟩) (Nat.le_of_ble_eq_true rfl) (Nat.le_of_ble_eq_true rfl) dJ0_length_8abf5_10
set_option maxHeartbeats 4000000 in
set_option maxRecDepth 100000 in
/-- StringLatin1.charAt(bytes, j) -/
theorem met_J1_charAt_3b067 (l : Launch) (V : kEnv) (S : kCs) (i : Nat) (hi : i < 23) (j : Nat) (hj : j < (kLs i).length) : kI l yJ1_charAt_3b067 cJ1_charAt_3b067 2 (some .char) { frames := 2, cells := 0, slots := 0, locals := 43 } V (cWs V) [.ref (eX V (300 + i)), .int (nI (j))] (S) (fun r u => r = nI ((kLs i).getD j 0) ∧ u = S) 0 0 := by
  refine kI_of (by decide +kernel) (Nat.le_of_ble_eq_true rfl) ?_
  intro p e s m args below meth c G hret hlocks hC hB h ls hl Q hQ
  have hl : lv_has ls 2 [(0, .ref (eX V (300 + i))), (1, .int (nI (j)))] := hl
  have hx := G.1
  have hcd := G.2.1
  have k9 := kTx_ok ⟨i, hi⟩
  have hl11 : (kLs i).length ≤ 11 := k9.2.1
  have hc1 : (kLs i).getD j 0 < 128 := k9.2.2.2 ⟨j, by omega⟩
  refine lv_iload_n hx hcd dJ1_charAt_3b067_0 rfl (lv_at hl 1 rfl) ?_
  refine lv_aload_n hx hcd dJ1_charAt_3b067_1 rfl (lv_at hl 0 rfl) ?_
  refine r_tN G hC h i hi (x := nI (kLs i).length) (congrArg nI (kTx_ok ⟨i, hi⟩).1) dJ1_charAt_3b067_2 ?_
  refine k_Sv (As := [.int (nI (j)), .int (nI ((kLs i).length))]) (rest := []) G hC hB h (met_J0_checkIndex_df160 l V S j ((kLs i).length) (by omega) (by omega)) mw_1398 ks_J0_checkIndex_df160 ⟨rfl, rfl⟩ ⟨Nat.le_of_ble_eq_true rfl, Nat.le_of_ble_eq_true rfl⟩ rfl rfl hl.1 (Nat.le_of_ble_eq_true rfl) dJ1_charAt_3b067_3 ⟨Nat.le_of_ble_eq_true rfl, Nat.le_of_ble_eq_true rfl⟩ (fun u H locs hp h => ?_)
  have hu := hp; rw [hu] at h
  refine lv_aload_n hx hcd dJ1_charAt_3b067_6 rfl (lv_at hl 0 rfl) ?_
  refine lv_iload_n hx hcd dJ1_charAt_3b067_7 rfl (lv_at hl 1 rfl) ?_
  refine r_tL G hC h i (j) hi rfl (by omega) (x := nI ((kLs i).getD (j) 0)) rfl dJ1_charAt_3b067_8 ?_
  refine lv_sipush (v := nI 255) hx hcd dJ1_charAt_3b067_9 (by decide) ?_
  refine w_iand (v := nI ((kLs i).getD j 0)) hx hcd dJ1_charAt_3b067_12 (ch_255 (by first | assumption | omega)) ?_
  refine lv_i2c (v := nI ((kLs i).getD j 0)) hx hcd dJ1_charAt_3b067_13 (ch_i2c (by first | assumption | omega)) ?_
  exact k_retc hQ G hret hlocks h (ch_nc (by first | assumption | omega)) (⟨rfl, rfl⟩) (Nat.le_of_ble_eq_true rfl) (Nat.le_of_ble_eq_true rfl) dJ1_charAt_3b067_14
set_option maxHeartbeats 4000000 in
set_option maxRecDepth 100000 in
/-- String.charAt(j) -/
theorem met_J0_charAt_5068e (l : Launch) (V : kEnv) (S : kCs) (i : Nat) (hi : i < 23) (j : Nat) (hj : j < (kLs i).length) : kI l yJ0_charAt_5068e cJ0_charAt_5068e 2 (some .char) { frames := 3, cells := 0, slots := 0, locals := 64 } V (cWs V) [.ref (eX V (200 + i)), .int (nI (j))] (S) (fun r u => r = nI ((kLs i).getD j 0) ∧ u = S) 0 0 := by
  refine kI_of (by decide +kernel) (Nat.le_of_ble_eq_true rfl) ?_
  intro p e s m args below meth c G hret hlocks hC hB h ls hl Q hQ
  have hl : lv_has ls 2 [(0, .ref (eX V (200 + i))), (1, .int (nI (j)))] := hl
  have hx := G.1
  have hcd := G.2.1
  have k9 := kTx_ok ⟨i, hi⟩
  have hl11 : (kLs i).length ≤ 11 := k9.2.1
  have hc1 : (kLs i).getD j 0 < 128 := k9.2.2.2 ⟨j, by omega⟩
  refine lv_aload_n hx hcd dJ0_charAt_5068e_0 rfl (lv_at hl 0 rfl) ?_
  refine k_Vi (As := []) (rest := []) (b := eX V (200 + i)) G hC hB h (met_J0_isLatin1_aae02 l V S i hi) mw_1391 kv_J0_isLatin1_aae02 ⟨rfl, rfl⟩ ⟨Nat.le_of_ble_eq_true rfl, Nat.le_of_ble_eq_true rfl⟩ (r_xV hC h i hi) rfl rfl hl.1 (Nat.le_of_ble_eq_true rfl) dJ0_charAt_5068e_1 ⟨Nat.le_of_ble_eq_true rfl, Nat.le_of_ble_eq_true rfl⟩ (fun r u H locs hp h => ?_)
  obtain ⟨rfl, hu⟩ := hp; rw [hu] at h
  refine lv_if_eq (tgt := 16) hx hcd dJ0_charAt_5068e_4 (by decide) (fun c_1 => absurd c_1 (by decide)) (fun _ => ?_)
  refine lv_aload_n hx hcd dJ0_charAt_5068e_7 rfl (lv_at hl 0 rfl) ?_
  refine r_tF0 G hC h i hi mw_613 dJ0_charAt_5068e_8 ?_
  refine lv_iload_n hx hcd dJ0_charAt_5068e_11 rfl (lv_at hl 1 rfl) ?_
  refine k_Si (As := [.ref (eX V (300 + i)), .int (nI (j))]) (rest := []) G hC hB h (met_J1_charAt_3b067 l V S i hi j (by assumption)) mw_1395 ks_J1_charAt_3b067 ⟨rfl, rfl⟩ ⟨Nat.le_of_ble_eq_true rfl, Nat.le_of_ble_eq_true rfl⟩ rfl rfl hl.1 (Nat.le_of_ble_eq_true rfl) dJ0_charAt_5068e_12 ⟨Nat.le_of_ble_eq_true rfl, Nat.le_of_ble_eq_true rfl⟩ (fun r u H locs hp h => ?_)
  obtain ⟨rfl, hu⟩ := hp; rw [hu] at h
  exact k_retc hQ G hret hlocks h (ch_nc (by first | assumption | omega)) (⟨rfl, rfl⟩) (Nat.le_of_ble_eq_true rfl) (Nat.le_of_ble_eq_true rfl) dJ0_charAt_5068e_15
