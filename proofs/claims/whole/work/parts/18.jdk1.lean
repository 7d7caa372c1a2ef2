section CR4
variable {p : Program} {l : Launch} {e : Env} {R : Room} {s : State} {m : MethodId} {args : Array Value} {below : List Frame} {meth : Method} {c : Code} {H : Heap} {locs : List Loc} {cells slots : Nat} {Q : State → Prop}
variable {cc : ByteArray} {pc nL : Nat} {ls : Array Slot} {rest : List Value} {own : String} {V : kEnv} {S S' : kCs} {z : kSb}
theorem r_xN (G : CallFix p m c cc nL s args LW own) (hC : cSt V s) (k : Nat) (h : cH V s H locs (cWs V (uPut S k z))) (hk : k < 2) {v : Int32} (hv : nI z.2.1 = v) (hd : decode cc pc = .ok (.arraylength, 1))
    (kk : W p l e R s m args below meth c H locs cells slots Q (F0 m (pc + 1) ls (.int v :: rest))) : W p l e R s m args below meth c H locs cells slots Q (F0 m pc ls (.ref z.2.2.1 :: rest)) := by
  have := r_uN (S := uPut S k z) G hC h k hk (x := v) (by rw [uPut_at]; exact hv) hd kk
  rwa [uPut_at] at this
theorem r_xL (G : CallFix p m c cc nL s args LW own) (hC : cSt V s) (k j : Nat) (h : cH V s H locs (cWs V (uPut S k z))) (hk : k < 2) {i : Int32} (hi : i = nI j) (hj : j < z.2.1) (hm : z.2.1 < 2 ^ 31) {v : Int32} (hv : z.1 j = v) (hd : decode cc pc = .ok (.baload, 1))
    (kk : W p l e R s m args below meth c H locs cells slots Q (F0 m (pc + 1) ls (.int v :: rest))) : W p l e R s m args below meth c H locs cells slots Q (F0 m pc ls (.int i :: .ref z.2.2.1 :: rest)) := by
  have := r_uL (S := uPut S k z) G hC h k j hk hi (by rw [uPut_at]; exact hj) (by rw [uPut_at]; exact hm) (x := v) (by rw [uPut_at]; exact hv) hd kk
  rwa [uPut_at] at this
theorem r_xT (G : CallFix p m c cc nL s args LW own) (hC : cSt V s) (k j : Nat) (h : cH V s H locs (cWs V (uPut S k z))) (hk : k < 2) {i : Int32} (hi : i = nI j) (hj : j < z.2.1) (hm : z.2.1 < 2 ^ 31) {x y : Int32} (hx : vp_nar .byte x = y) (hd : decode cc pc = .ok (.bastore, 1))
    (kk : ∀ (H : Heap) (locs : List Loc), cH V s H locs (cWs V (uPut S k (upd z.1 j y, z.2))) → W p l e R s m args below meth c H locs cells slots Q (F0 m (pc + 1) ls rest)) : W p l e R s m args below meth c H locs cells slots Q (F0 m pc ls (.int x :: .int i :: .ref z.2.2.1 :: rest)) := by
  have := r_uT (S := uPut S k z) (S' := uPut S k (upd z.1 j y, z.2)) G hC h k j hk hi (by rw [uPut_at]; exact hj) (by rw [uPut_at]; exact hm) hx (by rw [uPut_at, uPut_set]) hd kk
  rwa [uPut_at] at this
end CR4
theorem mwx_215 : (Jvm.Cond.superclass "java/lang/StringBuilder" "java/lang/AbstractStringBuilder") ∈ LW := lwm 215 (by decide +kernel) rfl
theorem mwx_507 : (Jvm.Cond.sameMethod "java/lang/AbstractStringBuilder" "java/lang/AbstractStringBuilder" "length" "()I") ∈ LW := lwm 507 (by decide +kernel) rfl
theorem ks_J8_newLength_cabcc : kSt yJ8_newLength_cabcc cJ8_newLength_cabcc 4 (some .int) 3 := ⟨mw_362, mw_79, mw_363, by decide, by decide, by decide +kernel⟩
theorem kp_J5_length_8abf5 : kVp RJ4 yJ5_length_8abf5 cJ5_length_8abf5 1 (some .int) 0 := ⟨mwx_507, mwx_215, mw_506, mw_60, mw_512, by decide, by decide +kernel⟩
set_option maxHeartbeats 4000000 in
set_option maxRecDepth 100000 in
/-- isLatin1() -/
theorem met_J5_isLatin1_aae02 (l : Launch) (V : kEnv) (S : kCs) (k : Nat) (hk : k < 2) : kI l yJ5_isLatin1_aae02 cJ5_isLatin1_aae02 1 (some .boolean) { frames := 0, cells := 0, slots := 0, locals := 0 } V (cWs V) [.ref (eX V (104 + k))] (S) (fun r u => r = nI 1 ∧ u = S) 0 0 := by
  refine kI_of (by decide +kernel) (Nat.le_of_ble_eq_true rfl) ?_
  intro p e s m args below meth c G hret hlocks hC hB h ls hl Q hQ
  have hl : lv_has ls 1 [(0, .ref (eX V (104 + k)))] := hl
  have hx := G.1
  have hcd := G.2.1
  refine r_cs G hC h mw_193 dJ5_isLatin1_aae02_0 ?_
  refine lv_if_eq (tgt := 17) hx hcd dJ5_isLatin1_aae02_3 (by decide) (fun c_1 => absurd c_1 (by decide)) (fun _ => ?_)
  refine lv_aload_n hx hcd dJ5_isLatin1_aae02_6 rfl (lv_at hl 0 rfl) ?_
  refine r_uF G hC h k 1 hk (by decide) mw_203 (v := .int 0) rfl dJ5_isLatin1_aae02_7 ?_
  refine lv_if_ne (tgt := 17) hx hcd dJ5_isLatin1_aae02_10 (by decide) (fun c_2 => absurd c_2 (by decide)) (fun _ => ?_)
  refine lv_iconst (v := nI 1) hx hcd dJ5_isLatin1_aae02_13 (by decide) ?_
  refine lv_goto (tgt := 18) hx hcd dJ5_isLatin1_aae02_14 (by decide) ?_
  exact k_retz hQ G hret hlocks h (Or.inr rfl) (⟨rfl, rfl⟩) (Nat.le_of_ble_eq_true rfl) (Nat.le_of_ble_eq_true rfl) dJ5_isLatin1_aae02_18
set_option maxHeartbeats 4000000 in
set_option maxRecDepth 100000 in
/-- length() -/
theorem met_J5_length_8abf5 (l : Launch) (V : kEnv) (S : kCs) (k : Nat) (hk : k < 2) : kI l yJ5_length_8abf5 cJ5_length_8abf5 1 (some .int) { frames := 0, cells := 0, slots := 0, locals := 0 } V (cWs V) [.ref (eX V (104 + k))] (S) (fun r u => r = nI (S.2.2.2 k).2.2.2.1 ∧ u = S) 0 0 := by
  refine kI_of (by decide +kernel) (Nat.le_of_ble_eq_true rfl) ?_
  intro p e s m args below meth c G hret hlocks hC hB h ls hl Q hQ
  have hl : lv_has ls 1 [(0, .ref (eX V (104 + k)))] := hl
  have hx := G.1
  have hcd := G.2.1
  refine lv_aload_n hx hcd dJ5_length_8abf5_0 rfl (lv_at hl 0 rfl) ?_
  refine r_uF G hC h k 3 hk (by decide) mw_206 (v := .int (nI ((S).2.2.2 k).2.2.2.1)) rfl dJ5_length_8abf5_1 ?_
  exact k_reti hQ G hret hlocks h (⟨rfl, rfl⟩) (Nat.le_of_ble_eq_true rfl) (Nat.le_of_ble_eq_true rfl) dJ5_length_8abf5_4
set_option maxHeartbeats 4000000 in
set_option maxRecDepth 100000 in
/-- StringBuilder.length() -/
theorem met_J4_length_8abf5 (l : Launch) (V : kEnv) (S : kCs) (k : Nat) (hk : k < 2) : kI l yJ4_length_8abf5 cJ4_length_8abf5 1 (some .int) { frames := 1, cells := 0, slots := 0, locals := 20 } V (cWs V) [.ref (eX V (104 + k))] (S) (fun r u => r = nI (S.2.2.2 k).2.2.2.1 ∧ u = S) 0 0 := by
  refine kI_of (by decide +kernel) (Nat.le_of_ble_eq_true rfl) ?_
  intro p e s m args below meth c G hret hlocks hC hB h ls hl Q hQ
  have hl : lv_has ls 1 [(0, .ref (eX V (104 + k)))] := hl
  have hx := G.1
  have hcd := G.2.1
  refine lv_aload_n hx hcd dJ4_length_8abf5_0 rfl (lv_at hl 0 rfl) ?_
  refine k_Pi (As := []) (rest := []) (b := eX V (104 + k)) ((hC.1.1 1 _ rfl).2) G hC hB h (met_J5_length_8abf5 l V S k hk) mw_511 kp_J5_length_8abf5 ⟨rfl, rfl⟩ ⟨Nat.le_of_ble_eq_true rfl, Nat.le_of_ble_eq_true rfl⟩ (r_uV hC h k hk) rfl rfl hl.1 (Nat.le_of_ble_eq_true rfl) dJ4_length_8abf5_1 ⟨Nat.le_of_ble_eq_true rfl, Nat.le_of_ble_eq_true rfl⟩ (fun r u H locs hp h => ?_)
  obtain ⟨rfl, hu⟩ := hp; rw [hu] at h
  exact k_reti hQ G hret hlocks h (⟨rfl, rfl⟩) (Nat.le_of_ble_eq_true rfl) (Nat.le_of_ble_eq_true rfl) dJ4_length_8abf5_4
set_option maxHeartbeats 4000000 in
set_option maxRecDepth 100000 in
/-- canEncode(c) -/
theorem met_J1_canEncode_fc78d (l : Launch) (V : kEnv) (S : kCs) (q : Nat) (hq : q < 128) : kI l yJ1_canEncode_fc78d cJ1_canEncode_fc78d 1 (some .boolean) { frames := 0, cells := 0, slots := 0, locals := 0 } V (cWs V) [.int (nI (q))] (S) (fun r u => r = nI 1 ∧ u = S) 0 0 := by
  refine kI_of (by decide +kernel) (Nat.le_of_ble_eq_true rfl) ?_
  intro p e s m args below meth c G hret hlocks hC hB h ls hl Q hQ
  have hl : lv_has ls 1 [(0, .int (nI (q)))] := hl
  have hx := G.1
  have hcd := G.2.1
  refine lv_iload_n hx hcd dJ1_canEncode_fc78d_0 rfl (lv_at hl 0 rfl) ?_
  refine lv_sipush (v := nI 255) hx hcd dJ1_canEncode_fc78d_1 (by decide) ?_
  refine lv_icmp_gt (tgt := 11) hx hcd dJ1_canEncode_fc78d_4 (by decide) (fun c_1 => ?_) (fun c_1 => ?_)
  · have c_1 := cLt (tN (n := 255) (by decide)) (tN (n := q) (by omega)) c_1
    exact absurd c_1 (by omega)
  · have c_1 := cNlt (tN (n := 255) (by decide)) (tN (n := q) (by omega)) c_1
    refine lv_iconst (v := nI 1) hx hcd dJ1_canEncode_fc78d_7 (by decide) ?_
    refine lv_goto (tgt := 12) hx hcd dJ1_canEncode_fc78d_8 (by decide) ?_
    exact k_retz hQ G hret hlocks h (Or.inr rfl) (⟨rfl, rfl⟩) (Nat.le_of_ble_eq_true rfl) (Nat.le_of_ble_eq_true rfl) dJ1_canEncode_fc78d_12
set_option maxHeartbeats 4000000 in
set_option maxRecDepth 100000 in
/-- newLength(a, b, c) -/
theorem met_J8_newLength_cabcc (l : Launch) (V : kEnv) (S : kCs) (a b c0 : Nat) (ha : a < 1000) (hb : b < 1000) (hc : c0 < 1000) (hp0 : 0 < c0) : kI l yJ8_newLength_cabcc cJ8_newLength_cabcc 4 (some .int) { frames := 1, cells := 0, slots := 0, locals := 24 } V (cWs V) [.int (nI (a)), .int (nI (b)), .int (nI (c0))] (S) (fun r u => r = nI (a + max b c0) ∧ u = S) 0 0 := by
  refine kI_of (by decide +kernel) (Nat.le_of_ble_eq_true rfl) ?_
  intro p e s m args below meth c G hret hlocks hC hB h ls hl Q hQ
  have hl : lv_has ls 4 [(0, .int (nI (a))), (1, .int (nI (b))), (2, .int (nI (c0)))] := hl
  have hx := G.1
  have hcd := G.2.1
  refine lv_iload_n hx hcd dJ8_newLength_cabcc_0 rfl (lv_at hl 0 rfl) ?_
  refine lv_iload_n hx hcd dJ8_newLength_cabcc_1 rfl (lv_at hl 1 rfl) ?_
  refine lv_iload_n hx hcd dJ8_newLength_cabcc_2 rfl (lv_at hl 2 rfl) ?_
  refine va_mmax hx hcd (by rw [G.2.2.1]; exact hl.1.symm) G.2.2.2.1 (G.2.2.2.2 _ mw_364) (G.2.2.2.2 _ mw_365) (G.2.2.2.2 _ mw_70) (G.2.2.2.2 _ mw_366) (Nat.le_of_ble_eq_true rfl) (Nat.le_of_ble_eq_true rfl) (Nat.le_of_ble_eq_true rfl) (Nat.le_of_ble_eq_true rfl) dJ8_newLength_cabcc_3 ?_
  refine lv_topi (fun z_1 e_z_1 => ?_)
  obtain rfl : z_1 = nI (max b c0) := by rw [e_z_1]; exact n_max (by omega) (by omega)
  refine w_iadd (v := nI (a + (max b c0))) hx hcd dJ8_newLength_cabcc_6 (nI_add _ _) ?_
  refine lv_istore_n (lv' := [(3, .int (nI (a + (max b c0)))), (0, .int (nI (a))), (1, .int (nI (b))), (2, .int (nI (c0)))]) hx hcd dJ8_newLength_cabcc_7 rfl hl (by decide) rfl (fun ls hl => ?_)
  refine lv_iconst (v := nI 0) hx hcd dJ8_newLength_cabcc_8 (by decide) ?_
  refine lv_iload_n hx hcd dJ8_newLength_cabcc_9 rfl (lv_at hl 0 rfl) ?_
  refine lv_icmp_ge (tgt := 21) hx hcd dJ8_newLength_cabcc_10 (by decide) (fun c_3 => ?_) (fun c_3 => ?_)
  · have c_3 := cLe (tN (n := a + (max b c0)) (by omega)) (tN (n := 0) (by decide)) c_3
    exact absurd c_3 (by omega)
  · have c_3 := cNle (tN (n := a + (max b c0)) (by omega)) (tN (n := 0) (by decide)) c_3
    refine lv_iload_n hx hcd dJ8_newLength_cabcc_13 rfl (lv_at hl 0 rfl) ?_
    refine lv_ldc hx hcd G.2.2.2.1 (G.2.2.2.2 _ mwc_367) dJ8_newLength_cabcc_14 ?_
    refine lv_icmp_gt (tgt := 21) hx hcd dJ8_newLength_cabcc_16 (by decide) (fun c_4 => ?_) (fun c_4 => ?_)
    · have c_4 := cLt (by decide : ((2147483639 : Int32)).toInt = (2147483639 : Int)) (tN (n := a + (max b c0)) (by omega)) c_4
      exact absurd c_4 (by omega)
    · have c_4 := cNlt (by decide : ((2147483639 : Int32)).toInt = (2147483639 : Int)) (tN (n := a + (max b c0)) (by omega)) c_4
      refine lv_iload_n hx hcd dJ8_newLength_cabcc_19 rfl (lv_at hl 0 rfl) ?_
      exact k_reti hQ G hret hlocks h (⟨rfl, rfl⟩) (Nat.le_of_ble_eq_true rfl) (Nat.le_of_ble_eq_true rfl) dJ8_newLength_cabcc_20
set_option maxHeartbeats 4000000 in
set_option maxRecDepth 100000 in
/-- newCapacity(q) -/
theorem met_J5_newCapacity_0f7a4 (l : Launch) (V : kEnv) (S : kCs) (k : Nat) (hk : k < 2) (x : kSb) (q : Nat) (hq : x.2.1 < q) (hq2 : q ≤ 60) : kI l yJ5_newCapacity_0f7a4 cJ5_newCapacity_0f7a4 6 (some .int) { frames := 2, cells := 0, slots := 0, locals := 47 } V (cWs V) [.ref (eX V (104 + k)), .int (nI (q))] (uPut S k x) (fun r u => r = nI (ncap q x.2.1) ∧ u = uPut S k x) 0 0 := by
  refine kI_of (by decide +kernel) (Nat.le_of_ble_eq_true rfl) ?_
  intro p e s m args below meth c G hret hlocks hC hB h ls hl Q hQ
  have hl : lv_has ls 6 [(0, .ref (eX V (104 + k))), (1, .int (nI (q)))] := hl
  have hx := G.1
  have hcd := G.2.1
  have hn := ncap_b hq hq2
  unfold ncap at hn
  refine lv_aload_n hx hcd dJ5_newCapacity_0f7a4_0 rfl (lv_at hl 0 rfl) ?_
  refine r_uF G hC h k 0 hk (by decide) mw_202 (v := .ref (x.2.2.1)) (by rw [uPut_at]; rfl) dJ5_newCapacity_0f7a4_1 ?_
  refine r_xN G hC k h hk (v := nI (x.2.1)) rfl dJ5_newCapacity_0f7a4_4 ?_
  refine lv_istore_n (lv' := [(2, .int (nI (x.2.1))), (0, .ref (eX V (104 + k))), (1, .int (nI (q)))]) hx hcd dJ5_newCapacity_0f7a4_5 rfl hl (by decide) rfl (fun ls hl => ?_)
  refine lv_iload_n hx hcd dJ5_newCapacity_0f7a4_6 rfl (lv_at hl 2 rfl) ?_
  refine lv_aload_n hx hcd dJ5_newCapacity_0f7a4_7 rfl (lv_at hl 1 rfl) ?_
  refine r_uF G hC h k 1 hk (by decide) mw_203 (v := .int 0) (by rw [uPut_at]; rfl) dJ5_newCapacity_0f7a4_8 ?_
  refine w_ishl (v := nI (q)) hx hcd dJ5_newCapacity_0f7a4_11 (sb_shl0 _) ?_
  refine lv_istore_n (lv' := [(3, .int (nI (q))), (2, .int (nI (x.2.1))), (0, .ref (eX V (104 + k))), (1, .int (nI (q)))]) hx hcd dJ5_newCapacity_0f7a4_12 rfl hl (by decide) rfl (fun ls hl => ?_)
  refine lv_iload_n hx hcd dJ5_newCapacity_0f7a4_13 rfl (lv_at hl 0 rfl) ?_
  refine lv_iload_n hx hcd dJ5_newCapacity_0f7a4_14 rfl (lv_at hl 1 rfl) ?_
  refine w_isub (v := nI (q - x.2.1)) hx hcd dJ5_newCapacity_0f7a4_15 (pk_sub (by omega)) ?_
  refine lv_istore (lv' := [(4, .int (nI (q - x.2.1))), (3, .int (nI (q))), (2, .int (nI (x.2.1))), (0, .ref (eX V (104 + k))), (1, .int (nI (q)))]) hx hcd dJ5_newCapacity_0f7a4_16 hl (by decide) rfl (fun ls hl => ?_)
  refine lv_iload_n hx hcd dJ5_newCapacity_0f7a4_18 rfl (lv_at hl 2 rfl) ?_
  refine lv_iload hx hcd dJ5_newCapacity_0f7a4_19 (lv_at hl 0 rfl) ?_
  refine lv_iload_n hx hcd dJ5_newCapacity_0f7a4_21 rfl (lv_at hl 2 rfl) ?_
  refine lv_iconst (v := nI 2) hx hcd dJ5_newCapacity_0f7a4_22 (by decide) ?_
  refine lv_aload_n hx hcd dJ5_newCapacity_0f7a4_23 rfl (lv_at hl 3 rfl) ?_
  refine r_uF G hC h k 1 hk (by decide) mw_203 (v := .int 0) (by rw [uPut_at]; rfl) dJ5_newCapacity_0f7a4_24 ?_
  refine w_ishl (v := nI 2) hx hcd dJ5_newCapacity_0f7a4_27 (sb_shl0 _) ?_
  refine w_iadd (v := nI (x.2.1 + 2)) hx hcd dJ5_newCapacity_0f7a4_28 (nI_add _ _) ?_
  refine k_Si (As := [.int (nI (x.2.1)), .int (nI (q - x.2.1)), .int (nI (x.2.1 + 2))]) (rest := []) G hC hB h (met_J8_newLength_cabcc l V (uPut S k x) x.2.1 (q - x.2.1) (x.2.1 + 2) (by omega) (by omega) (by omega) (by omega)) mw_361 ks_J8_newLength_cabcc ⟨rfl, rfl⟩ ⟨Nat.le_of_ble_eq_true rfl, Nat.le_of_ble_eq_true rfl⟩ rfl rfl hl.1 (Nat.le_of_ble_eq_true rfl) dJ5_newCapacity_0f7a4_29 ⟨Nat.le_of_ble_eq_true rfl, Nat.le_of_ble_eq_true rfl⟩ (fun r u H locs hp h => ?_)
  obtain ⟨rfl, hu⟩ := hp; rw [hu] at h
  refine lv_istore (lv' := [(5, .int (nI (x.2.1 + max (q - x.2.1) (x.2.1 + 2)))), (4, .int (nI (q - x.2.1))), (3, .int (nI (q))), (2, .int (nI (x.2.1))), (0, .ref (eX V (104 + k))), (1, .int (nI (q)))]) hx hcd dJ5_newCapacity_0f7a4_32 hl (by decide) rfl (fun ls hl => ?_)
  refine lv_iload hx hcd dJ5_newCapacity_0f7a4_34 (lv_at hl 0 rfl) ?_
  refine lv_ldc hx hcd G.2.2.2.1 (G.2.2.2.2 _ mwc_371) dJ5_newCapacity_0f7a4_36 ?_
  refine lv_icmp_ne (tgt := 51) hx hcd dJ5_newCapacity_0f7a4_38 (by decide) (fun c_3 => ?_) (fun c_3 => ?_)
  · have c_3 := cNe (tN (n := x.2.1 + max (q - x.2.1) (x.2.1 + 2)) (by omega)) (by decide : ((2147483647 : Int32)).toInt = (2147483647 : Int)) c_3
    refine lv_iload hx hcd dJ5_newCapacity_0f7a4_51 (lv_at hl 0 rfl) ?_
    refine lv_aload_n hx hcd dJ5_newCapacity_0f7a4_53 rfl (lv_at hl 4 rfl) ?_
    refine r_uF G hC h k 1 hk (by decide) mw_203 (v := .int 0) (by rw [uPut_at]; rfl) dJ5_newCapacity_0f7a4_54 ?_
    refine w_ishr (v := nI (x.2.1 + max (q - x.2.1) (x.2.1 + 2))) hx hcd dJ5_newCapacity_0f7a4_57 (sb_shr0 _) ?_
    exact k_reti hQ G hret hlocks h (⟨rfl, rfl⟩) (Nat.le_of_ble_eq_true rfl) (Nat.le_of_ble_eq_true rfl) dJ5_newCapacity_0f7a4_58
  · have c_3 := cEq (tN (n := x.2.1 + max (q - x.2.1) (x.2.1 + 2)) (by omega)) (by decide : ((2147483647 : Int32)).toInt = (2147483647 : Int)) c_3
    exact absurd c_3 (by omega)
