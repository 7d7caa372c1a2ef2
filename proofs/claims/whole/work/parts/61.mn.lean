section MT
variable {p : Program} {l : Launch} {e : Env} {R : Room} {s : State} {m : MethodId} {args : Array Value} {below : List Frame} {meth : Method} {c : Code} {H : Heap} {locs : List Loc} {cells slots : Nat} {Q : State → Prop}
variable {cc : ByteArray} {pc nL : Nat} {ls : Array Slot} {rest : List Value} {own : String} {V : kEnv} {S : kMs}
theorem q_cs (G : CallFix p m c cc nL s args LW own) (hC : cSt V s) (h : cH V s H locs (mWs V S)) {index : Nat} (hl : Cond.fieldLink own index "java/lang/String" "COMPACT_STRINGS" "Z" ∈ LW) (hd : decode cc pc = .ok (.getstatic index, 3))
    (kk : W p l e R s m args below meth c H locs cells slots Q (F0 m (pc + 3) ls (.int 1 :: rest))) : W p l e R s m args below meth c H locs cells slots Q (F0 m pc ls rest) :=
  va_gets G.1 G.2.1 hC.2.2.2.2.2.2.1.1 h.2.2 G.2.2.2.1 (G.2.2.2.2 _ hl) (fun _ h => h) hd kk
theorem q_sio (G : CallFix p m c cc nL s args LW own) (hC : cSt V s) (h : cH V s H locs (mWs V S)) {index : Nat} (hl : Cond.fieldLink own index "jdk/internal/util/Preconditions" "SIOOBE_FORMATTER" "Ljava/util/function/BiFunction;" ∈ LW) (hd : decode cc pc = .ok (.getstatic index, 3))
    (kk : ∀ r : Option Nat, W p l e R s m args below meth c H locs cells slots Q (F0 m (pc + 3) ls (va_rf r :: rest))) : W p l e R s m args below meth c H locs cells slots Q (F0 m pc ls rest) := by
  rcases hC.2.2.2.2.2.2.1.2.2.2.2.2.1 with hz | ⟨t, hz⟩
  · exact va_gets G.1 G.2.1 hz h.2.2 G.2.2.2.1 (G.2.2.2.2 _ hl) (fun _ h => h) hd (kk none)
  · exact va_gets G.1 G.2.1 hz h.2.2 G.2.2.2.1 (G.2.2.2.2 _ hl) (fun _ h => h) hd (kk (some t))
theorem q_xV (hC : cSt V s) (h : cH V s H locs (mWs V S)) (i : Nat) (hi : i < 23) : ∃ cell : Cell, H[eX V (200 + i)]? = some cell ∧ cell.vm.isStatics = false ∧ s.vm.findClass RJ0 = some cell.cls := vk_recv (adK := fun i => eX V (200 + i)) (i := i) hC.2.2.2.2.2.1.1 hi h.2.2
theorem q_tF0 (G : CallFix p m c cc nL s args LW own) (hC : cSt V s) (h : cH V s H locs (mWs V S)) (i : Nat) (hi : i < 23) {index : Nat} (hl : Cond.fieldLink own index "java/lang/String" "value" "[B" ∈ LW) (hd : decode cc pc = .ok (.getfield index, 3))
    (kk : W p l e R s m args below meth c H locs cells slots Q (F0 m (pc + 3) ls (.ref (eX V (300 + i)) :: rest))) : W p l e R s m args below meth c H locs cells slots Q (F0 m pc ls (.ref (eX V (200 + i)) :: rest)) :=
  vk_getf G.1 G.2.1 (hC.2.2.2.2.2.1.1.1 i hi).2.2.1 h.2.2 G.2.2.2.1 (G.2.2.2.2 _ hl) (fun _ h => h) hd kk
theorem q_tF1 (G : CallFix p m c cc nL s args LW own) (hC : cSt V s) (h : cH V s H locs (mWs V S)) (i : Nat) (hi : i < 23) {index : Nat} (hl : Cond.fieldLink own index "java/lang/String" "coder" "B" ∈ LW) (hd : decode cc pc = .ok (.getfield index, 3))
    (kk : W p l e R s m args below meth c H locs cells slots Q (F0 m (pc + 3) ls (.int 0 :: rest))) : W p l e R s m args below meth c H locs cells slots Q (F0 m pc ls (.ref (eX V (200 + i)) :: rest)) :=
  vk_getf G.1 G.2.1 (hC.2.2.2.2.2.1.1.1 i hi).2.1 h.2.2 G.2.2.2.1 (G.2.2.2.2 _ hl) (fun _ h => h) hd kk
theorem q_tN (G : CallFix p m c cc nL s args LW own) (hC : cSt V s) (h : cH V s H locs (mWs V S)) (i : Nat) (hi : i < 23) {x : Int32} (hx : nI (kTn.getD i 0) = x) (hd : decode cc pc = .ok (.arraylength, 1))
    (kk : W p l e R s m args below meth c H locs cells slots Q (F0 m (pc + 1) ls (.int x :: rest))) : W p l e R s m args below meth c H locs cells slots Q (F0 m pc ls (.ref (eX V (300 + i)) :: rest)) :=
  va_tlen G.1 G.2.1 (hC.2.2.2.2.2.1.1.1 i hi).2.2.2 h.2.2 hx hd kk
theorem q_tL (G : CallFix p m c cc nL s args LW own) (hC : cSt V s) (h : cH V s H locs (mWs V S)) (i j : Nat) (hi : i < 23) {q : Int32} (hq : q = nI j) (hj : j < (kLs i).length) {x : Int32} (hx : nI ((kLs i).getD j 0) = x) (hd : decode cc pc = .ok (.baload, 1))
    (kk : W p l e R s m args below meth c H locs cells slots Q (F0 m (pc + 1) ls (.int x :: rest))) : W p l e R s m args below meth c H locs cells slots Q (F0 m pc ls (.int q :: .ref (eX V (300 + i)) :: rest)) := by
  obtain ⟨k1, k2, k3, k4⟩ := kTx_ok ⟨i, hi⟩
  simp only at k1 k2 k3 k4
  refine va_tb G.1 G.2.1 (hC.2.2.2.2.2.1.1.1 i hi).2.2.2 h.2.2 (vp_in_ofNat hq (show j < kTn.getD i 0 by rw [k1]; exact hj) (by rw [k1]; omega)) (v := .int x) ?_ hd kk
  rw [cl_ofNat hq (by omega), ← hx]
  exact congrArg Value.int (k3 ⟨j, by omega⟩)
end MT
set_option maxHeartbeats 4000000 in
set_option maxRecDepth 100000 in
theorem mem_J3_checkIndexN (l : Launch) (V : kEnv) (S : kMs) (a b : Nat) (hab : a < b) (hb : b < 2147483648) : kI l yJ3_checkIndex_8e157 cJ3_checkIndex_8e157 3 (some .int) { frames := 0, cells := 0, slots := 0, locals := 0 } V (mWs V) [.int (nI (a)), .int (nI (b)), .null] (S) (fun r u => r = nI a ∧ u = S) 0 0 := by
  refine kI_of (by decide +kernel) (Nat.le_of_ble_eq_true rfl) ?_
  intro p e s m args below meth c G hret hlocks hC hB h ls hl Q hQ
  have hl : lv_has ls 3 [(0, .int (nI (a))), (1, .int (nI (b))), (2, .null)] := hl
  have hx := G.1
  have hcd := G.2.1
  refine lv_iload_n hx hcd dJ3_checkIndex_8e157_0 rfl (lv_at hl 0 rfl) ?_
  refine lv_if_lt (tgt := 9) hx hcd dJ3_checkIndex_8e157_1 (by decide) (fun c_1 => ?_) (fun c_1 => ?_)
  · have c_1 := cLt (tN (n := a) (by omega)) t0 c_1
    exact absurd c_1 (by omega)
  · have c_1 := cNlt (tN (n := a) (by omega)) t0 c_1
    refine lv_iload_n hx hcd dJ3_checkIndex_8e157_4 rfl (lv_at hl 0 rfl) ?_
    refine lv_iload_n hx hcd dJ3_checkIndex_8e157_5 rfl (lv_at hl 1 rfl) ?_
    refine lv_icmp_lt (tgt := 16) hx hcd dJ3_checkIndex_8e157_6 (by decide) (fun c_2 => ?_) (fun c_2 => ?_)
    · have c_2 := cLt (tN (n := a) (by omega)) (tN (n := b) (by omega)) c_2
      refine lv_iload_n hx hcd dJ3_checkIndex_8e157_16 rfl (lv_at hl 0 rfl) ?_
      exact k_reti hQ G hret hlocks h (⟨rfl, rfl⟩) (Nat.le_of_ble_eq_true rfl) (Nat.le_of_ble_eq_true rfl) dJ3_checkIndex_8e157_17
    · have c_2 := cNlt (tN (n := a) (by omega)) (tN (n := b) (by omega)) c_2
      exact absurd c_2 (by omega)
set_option maxHeartbeats 4000000 in
set_option maxRecDepth 100000 in
theorem mem_J3_checkIndexR (l : Launch) (V : kEnv) (S : kMs) (a b : Nat) (hab : a < b) (hb : b < 2147483648) (a9 : Nat) : kI l yJ3_checkIndex_8e157 cJ3_checkIndex_8e157 3 (some .int) { frames := 0, cells := 0, slots := 0, locals := 0 } V (mWs V) [.int (nI (a)), .int (nI (b)), .ref (a9)] (S) (fun r u => r = nI a ∧ u = S) 0 0 := by
  refine kI_of (by decide +kernel) (Nat.le_of_ble_eq_true rfl) ?_
  intro p e s m args below meth c G hret hlocks hC hB h ls hl Q hQ
  have hl : lv_has ls 3 [(0, .int (nI (a))), (1, .int (nI (b))), (2, .ref (a9))] := hl
  have hx := G.1
  have hcd := G.2.1
  refine lv_iload_n hx hcd dJ3_checkIndex_8e157_0 rfl (lv_at hl 0 rfl) ?_
  refine lv_if_lt (tgt := 9) hx hcd dJ3_checkIndex_8e157_1 (by decide) (fun c_1 => ?_) (fun c_1 => ?_)
  · have c_1 := cLt (tN (n := a) (by omega)) t0 c_1
    exact absurd c_1 (by omega)
  · have c_1 := cNlt (tN (n := a) (by omega)) t0 c_1
    refine lv_iload_n hx hcd dJ3_checkIndex_8e157_4 rfl (lv_at hl 0 rfl) ?_
    refine lv_iload_n hx hcd dJ3_checkIndex_8e157_5 rfl (lv_at hl 1 rfl) ?_
    refine lv_icmp_lt (tgt := 16) hx hcd dJ3_checkIndex_8e157_6 (by decide) (fun c_2 => ?_) (fun c_2 => ?_)
    · have c_2 := cLt (tN (n := a) (by omega)) (tN (n := b) (by omega)) c_2
      refine lv_iload_n hx hcd dJ3_checkIndex_8e157_16 rfl (lv_at hl 0 rfl) ?_
      exact k_reti hQ G hret hlocks h (⟨rfl, rfl⟩) (Nat.le_of_ble_eq_true rfl) (Nat.le_of_ble_eq_true rfl) dJ3_checkIndex_8e157_17
    · have c_2 := cNlt (tN (n := a) (by omega)) (tN (n := b) (by omega)) c_2
      exact absurd c_2 (by omega)
set_option maxHeartbeats 4000000 in
set_option maxRecDepth 100000 in
theorem mem_J0_checkIndex_df160 (l : Launch) (V : kEnv) (S : kMs) (a b : Nat) (hab : a < b) (hb : b < 2147483648) : kU l yJ0_checkIndex_df160 cJ0_checkIndex_df160 2 { frames := 1, cells := 0, slots := 0, locals := 22 } V (mWs V) [.int (nI (a)), .int (nI (b))] (S) (fun u => u = S) 0 0 := by
  refine kU_of (by decide +kernel) (Nat.le_of_ble_eq_true rfl) ?_
  intro p e s m args below meth c G hret hlocks hC hB h ls hl Q hQ
  have hl : lv_has ls 2 [(0, .int (nI (a))), (1, .int (nI (b)))] := hl
  have hx := G.1
  have hcd := G.2.1
  refine lv_iload_n hx hcd dJ0_checkIndex_df160_0 rfl (lv_at hl 0 rfl) ?_
  refine lv_iload_n hx hcd dJ0_checkIndex_df160_1 rfl (lv_at hl 1 rfl) ?_
  refine q_sio G hC h mw_405 dJ0_checkIndex_df160_2 (fun r9 => ?_)
  rcases r9 with _ | t9
  · show W p l e _ s m _ below meth c _ _ _ _ Q (F0 m 5 ls (.null :: .int (nI b) :: .int (nI a) :: []))
    refine k_Si (As := [.int (nI (a)), .int (nI (b)), .null]) (rest := []) G hC hB h (mem_J3_checkIndexN l V S a b (by omega) (by omega)) mw_697 ks_J3_checkIndex_8e157 ⟨rfl, rfl⟩ ⟨Nat.le_of_ble_eq_true rfl, Nat.le_of_ble_eq_true rfl⟩ rfl rfl hl.1 (Nat.le_of_ble_eq_true rfl) dJ0_checkIndex_df160_5 ⟨Nat.le_of_ble_eq_true rfl, Nat.le_of_ble_eq_true rfl⟩ (fun r u H locs hp h => ?_)
    obtain ⟨rfl, hu⟩ := hp; rw [hu] at h
    refine lv_pop hx hcd dJ0_checkIndex_df160_8 rfl ?_
    exact k_retv hQ G hret hlocks h (rfl) (Nat.le_of_ble_eq_true rfl) (Nat.le_of_ble_eq_true rfl) dJ0_checkIndex_df160_9
  · show W p l e _ s m _ below meth c _ _ _ _ Q (F0 m 5 ls (.ref (t9) :: .int (nI b) :: .int (nI a) :: []))
    refine k_Si (As := [.int (nI (a)), .int (nI (b)), .ref (t9)]) (rest := []) G hC hB h (mem_J3_checkIndexR l V S a b (by omega) (by omega) t9) mw_697 ks_J3_checkIndex_8e157 ⟨rfl, rfl⟩ ⟨Nat.le_of_ble_eq_true rfl, Nat.le_of_ble_eq_true rfl⟩ rfl rfl hl.1 (Nat.le_of_ble_eq_true rfl) dJ0_checkIndex_df160_5 ⟨Nat.le_of_ble_eq_true rfl, Nat.le_of_ble_eq_true rfl⟩ (fun r u H locs hp h => ?_)
    obtain ⟨rfl, hu⟩ := hp; rw [hu] at h
    refine lv_pop hx hcd dJ0_checkIndex_df160_8 rfl ?_
    exact k_retv hQ G hret hlocks h (rfl) (Nat.le_of_ble_eq_true rfl) (Nat.le_of_ble_eq_true rfl) dJ0_checkIndex_df160_9
set_option maxHeartbeats 4000000 in
set_option maxRecDepth 100000 in
theorem mem_J0_coder_7d493 (l : Launch) (V : kEnv) (S : kMs) (i : Nat) (hi : i < 23) : kI l yJ0_coder_7d493 cJ0_coder_7d493 1 (some .byte) { frames := 0, cells := 0, slots := 0, locals := 0 } V (mWs V) [.ref (eX V (200 + i))] (S) (fun r u => r = 0 ∧ u = S) 0 0 := by
  refine kI_of (by decide +kernel) (Nat.le_of_ble_eq_true rfl) ?_
  intro p e s m args below meth c G hret hlocks hC hB h ls hl Q hQ
  have hl : lv_has ls 1 [(0, .ref (eX V (200 + i)))] := hl
  have hx := G.1
  have hcd := G.2.1
  refine q_cs G hC h mw_427 dJ0_coder_7d493_0 ?_
  refine lv_if_eq (tgt := 13) hx hcd dJ0_coder_7d493_3 (by decide) (fun c_1 => absurd c_1 (by decide)) (fun _ => ?_)
  refine lv_aload_n hx hcd dJ0_coder_7d493_6 rfl (lv_at hl 0 rfl) ?_
  refine q_tF1 G hC h i hi mw_614 dJ0_coder_7d493_7 ?_
  refine lv_goto (tgt := 14) hx hcd dJ0_coder_7d493_10 (by decide) ?_
  exact k_retc hQ G hret hlocks h rfl (⟨rfl, rfl⟩) (Nat.le_of_ble_eq_true rfl) (Nat.le_of_ble_eq_true rfl) dJ0_coder_7d493_14
set_option maxHeartbeats 4000000 in
set_option maxRecDepth 100000 in
theorem mem_J0_isLatin1_aae02 (l : Launch) (V : kEnv) (S : kMs) (i : Nat) (hi : i < 23) : kI l yJ0_isLatin1_aae02 cJ0_isLatin1_aae02 1 (some .boolean) { frames := 0, cells := 0, slots := 0, locals := 0 } V (mWs V) [.ref (eX V (200 + i))] (S) (fun r u => r = nI 1 ∧ u = S) 0 0 := by
  refine kI_of (by decide +kernel) (Nat.le_of_ble_eq_true rfl) ?_
  intro p e s m args below meth c G hret hlocks hC hB h ls hl Q hQ
  have hl : lv_has ls 1 [(0, .ref (eX V (200 + i)))] := hl
  have hx := G.1
  have hcd := G.2.1
  refine q_cs G hC h mw_427 dJ0_isLatin1_aae02_0 ?_
  refine lv_if_eq (tgt := 17) hx hcd dJ0_isLatin1_aae02_3 (by decide) (fun c_1 => absurd c_1 (by decide)) (fun _ => ?_)
  refine lv_aload_n hx hcd dJ0_isLatin1_aae02_6 rfl (lv_at hl 0 rfl) ?_
  refine q_tF1 G hC h i hi mw_614 dJ0_isLatin1_aae02_7 ?_
  refine lv_if_ne (tgt := 17) hx hcd dJ0_isLatin1_aae02_10 (by decide) (fun c_2 => absurd c_2 (by decide)) (fun _ => ?_)
  refine lv_iconst (v := nI 1) hx hcd dJ0_isLatin1_aae02_13 (by decide) ?_
  refine lv_goto (tgt := 18) hx hcd dJ0_isLatin1_aae02_14 (by decide) ?_
  exact k_retz hQ G hret hlocks h (Or.inr rfl) (⟨rfl, rfl⟩) (Nat.le_of_ble_eq_true rfl) (Nat.le_of_ble_eq_true rfl) dJ0_isLatin1_aae02_18
set_option maxHeartbeats 4000000 in
set_option maxRecDepth 100000 in
theorem mem_J0_length_8abf5 (l : Launch) (V : kEnv) (S : kMs) (i : Nat) (hi : i < 23) : kI l yJ0_length_8abf5 cJ0_length_8abf5 1 (some .int) { frames := 1, cells := 0, slots := 0, locals := 20 } V (mWs V) [.ref (eX V (200 + i))] (S) (fun r u => r = nI (kLs i).length ∧ u = S) 0 0 := by
  refine kI_of (by decide +kernel) (Nat.le_of_ble_eq_true rfl) ?_
  intro p e s m args below meth c G hret hlocks hC hB h ls hl Q hQ
  have hl : lv_has ls 1 [(0, .ref (eX V (200 + i)))] := hl
  have hx := G.1
  have hcd := G.2.1
  refine lv_aload_n hx hcd dJ0_length_8abf5_0 rfl (lv_at hl 0 rfl) ?_
  refine q_tF0 G hC h i hi mw_613 dJ0_length_8abf5_1 ?_
  refine q_tN G hC h i hi (x := nI (kLs i).length) (congrArg nI (kTx_ok ⟨i, hi⟩).1) dJ0_length_8abf5_4 ?_
  refine lv_aload_n hx hcd dJ0_length_8abf5_5 rfl (lv_at hl 0 rfl) ?_
  refine k_Vi (As := []) (rest := [.int (nI ((kLs i).length))]) (b := eX V (200 + i)) G hC hB h (mem_J0_coder_7d493 l V S i hi) mw_423 kv_J0_coder_7d493 ⟨rfl, rfl⟩ ⟨Nat.le_of_ble_eq_true rfl, Nat.le_of_ble_eq_true rfl⟩ (q_xV hC h i hi) rfl rfl hl.1 (Nat.le_of_ble_eq_true rfl) dJ0_length_8abf5_6 ⟨Nat.le_of_ble_eq_true rfl, Nat.le_of_ble_eq_true rfl⟩ (fun r u H locs hp h => ?_)
  obtain ⟨rfl, hu⟩ := hp; rw [hu] at h
  refine w_ishr (v := nI ((kLs i).length)) hx hcd dJ0_length_8abf5_9 (sb_shr0 _) ?_
  exact k_reti hQ G hret hlocks h (⟨rfl, rfl⟩) (Nat.le_of_ble_eq_true rfl) (Nat.le_of_ble_eq_true rfl) dJ0_length_8abf5_10
set_option maxHeartbeats 4000000 in
set_option maxRecDepth 100000 in
theorem mem_J1_charAt_3b067 (l : Launch) (V : kEnv) (S : kMs) (i : Nat) (hi : i < 23) (j : Nat) (hj : j < (kLs i).length) : kI l yJ1_charAt_3b067 cJ1_charAt_3b067 2 (some .char) { frames := 2, cells := 0, slots := 0, locals := 43 } V (mWs V) [.ref (eX V (300 + i)), .int (nI (j))] (S) (fun r u => r = nI ((kLs i).getD j 0) ∧ u = S) 0 0 := by
  refine kI_of (by decide +kernel) (Nat.le_of_ble_eq_true rfl) ?_
  intro p e s m args below meth c G hret hlocks hC hB h ls hl Q hQ
  have hl : lv_has ls 2 [(0, .ref (eX V (300 + i))), (1, .int (nI (j)))] := hl
  have hx := G.1
  have hcd := G.2.1
  have k9 := kTx_ok ⟨i, hi⟩
  have hl11 : (kLs i).length ≤ 11 := k9.2.1
  have hc1 : (kLs i).getD j 0 < 128 := k9.2.2.2 ⟨j, by omega⟩
  refine lv_iload_n hx hcd dJ1_charAt_3b067_0 rfl (lv_at hl 1 rfl) ?_
  refine lv_aload_n hx hcd dJ1_charAt_3b067_1 rfl (lv_at hl 0 rfl) ?_
  refine q_tN G hC h i hi (x := nI (kLs i).length) (congrArg nI (kTx_ok ⟨i, hi⟩).1) dJ1_charAt_3b067_2 ?_
  refine k_Sv (As := [.int (nI (j)), .int (nI ((kLs i).length))]) (rest := []) G hC hB h (mem_J0_checkIndex_df160 l V S j ((kLs i).length) (by omega) (by omega)) mw_1398 ks_J0_checkIndex_df160 ⟨rfl, rfl⟩ ⟨Nat.le_of_ble_eq_true rfl, Nat.le_of_ble_eq_true rfl⟩ rfl rfl hl.1 (Nat.le_of_ble_eq_true rfl) dJ1_charAt_3b067_3 ⟨Nat.le_of_ble_eq_true rfl, Nat.le_of_ble_eq_true rfl⟩ (fun u H locs hp h => ?_)
  have hu := hp; rw [hu] at h
  refine lv_aload_n hx hcd dJ1_charAt_3b067_6 rfl (lv_at hl 0 rfl) ?_
  refine lv_iload_n hx hcd dJ1_charAt_3b067_7 rfl (lv_at hl 1 rfl) ?_
  refine q_tL G hC h i (j) hi rfl (by omega) (x := nI ((kLs i).getD (j) 0)) rfl dJ1_charAt_3b067_8 ?_
  refine lv_sipush (v := nI 255) hx hcd dJ1_charAt_3b067_9 (by decide) ?_
  refine w_iand (v := nI ((kLs i).getD j 0)) hx hcd dJ1_charAt_3b067_12 (ch_255 (by first | assumption | omega)) ?_
  refine lv_i2c (v := nI ((kLs i).getD j 0)) hx hcd dJ1_charAt_3b067_13 (ch_i2c (by first | assumption | omega)) ?_
  exact k_retc hQ G hret hlocks h (ch_nc (by first | assumption | omega)) (⟨rfl, rfl⟩) (Nat.le_of_ble_eq_true rfl) (Nat.le_of_ble_eq_true rfl) dJ1_charAt_3b067_14
set_option maxHeartbeats 4000000 in
set_option maxRecDepth 100000 in
theorem mem_J0_charAt_5068e (l : Launch) (V : kEnv) (S : kMs) (i : Nat) (hi : i < 23) (j : Nat) (hj : j < (kLs i).length) : kI l yJ0_charAt_5068e cJ0_charAt_5068e 2 (some .char) { frames := 3, cells := 0, slots := 0, locals := 64 } V (mWs V) [.ref (eX V (200 + i)), .int (nI (j))] (S) (fun r u => r = nI ((kLs i).getD j 0) ∧ u = S) 0 0 := by
  refine kI_of (by decide +kernel) (Nat.le_of_ble_eq_true rfl) ?_
  intro p e s m args below meth c G hret hlocks hC hB h ls hl Q hQ
  have hl : lv_has ls 2 [(0, .ref (eX V (200 + i))), (1, .int (nI (j)))] := hl
  have hx := G.1
  have hcd := G.2.1
  have k9 := kTx_ok ⟨i, hi⟩
  have hl11 : (kLs i).length ≤ 11 := k9.2.1
  have hc1 : (kLs i).getD j 0 < 128 := k9.2.2.2 ⟨j, by omega⟩
  refine lv_aload_n hx hcd dJ0_charAt_5068e_0 rfl (lv_at hl 0 rfl) ?_
  refine k_Vi (As := []) (rest := []) (b := eX V (200 + i)) G hC hB h (mem_J0_isLatin1_aae02 l V S i hi) mw_1391 kv_J0_isLatin1_aae02 ⟨rfl, rfl⟩ ⟨Nat.le_of_ble_eq_true rfl, Nat.le_of_ble_eq_true rfl⟩ (q_xV hC h i hi) rfl rfl hl.1 (Nat.le_of_ble_eq_true rfl) dJ0_charAt_5068e_1 ⟨Nat.le_of_ble_eq_true rfl, Nat.le_of_ble_eq_true rfl⟩ (fun r u H locs hp h => ?_)
  obtain ⟨rfl, hu⟩ := hp; rw [hu] at h
  refine lv_if_eq (tgt := 16) hx hcd dJ0_charAt_5068e_4 (by decide) (fun c_1 => absurd c_1 (by decide)) (fun _ => ?_)
  refine lv_aload_n hx hcd dJ0_charAt_5068e_7 rfl (lv_at hl 0 rfl) ?_
  refine q_tF0 G hC h i hi mw_613 dJ0_charAt_5068e_8 ?_
  refine lv_iload_n hx hcd dJ0_charAt_5068e_11 rfl (lv_at hl 1 rfl) ?_
  refine k_Si (As := [.ref (eX V (300 + i)), .int (nI (j))]) (rest := []) G hC hB h (mem_J1_charAt_3b067 l V S i hi j (by assumption)) mw_1395 ks_J1_charAt_3b067 ⟨rfl, rfl⟩ ⟨Nat.le_of_ble_eq_true rfl, Nat.le_of_ble_eq_true rfl⟩ rfl rfl hl.1 (Nat.le_of_ble_eq_true rfl) dJ0_charAt_5068e_12 ⟨Nat.le_of_ble_eq_true rfl, Nat.le_of_ble_eq_true rfl⟩ (fun r u H locs hp h => ?_)
  obtain ⟨rfl, hu⟩ := hp; rw [hu] at h
  exact k_retc hQ G hret hlocks h (ch_nc (by first | assumption | omega)) (⟨rfl, rfl⟩) (Nat.le_of_ble_eq_true rfl) (Nat.le_of_ble_eq_true rfl) dJ0_charAt_5068e_15
/-! THE REFERENCE READS A TEXT: words. -/
/-- where it stands, how many commands are told, what is told -/
def pW (M : kMs) (a t : Nat) (T : Nat → Int32) : kMs := (va_up (va_up M.1 8 (nI a)) 9 (nI t), va_up M.2 8 T)
theorem pW_a (M : kMs) (a t : Nat) (T : Nat → Int32) (b : Nat) : nPut (pW M a t T) 8 (nI b) = pW M b t T := by
  refine Prod.ext (funext fun r => ?_) rfl
  show va_up (va_up (va_up M.1 8 (nI a)) 9 (nI t)) 8 (nI b) r = va_up (va_up M.1 8 (nI b)) 9 (nI t) r
  simp only [va_up]
  by_cases h : r = 8
  · subst h; rfl
  · rw [if_neg h, if_neg h, if_neg h]
theorem pW_t (M : kMs) (a t : Nat) (T : Nat → Int32) (b : Nat) : nPut (pW M a t T) 9 (nI b) = pW M a b T := by
  refine Prod.ext ?_ rfl
  show va_up (va_up (va_up M.1 8 (nI a)) 9 (nI t)) 9 (nI b) = va_up (va_up M.1 8 (nI a)) 9 (nI b)
  rw [upup]
theorem pW_T (M : kMs) (a t : Nat) (T : Nat → Int32) (j : Nat) (x : Int32) : gPut (pW M a t T) 8 j x = pW M a t (upd T j x) := by
  refine Prod.ext rfl ?_
  show va_up (va_up M.2 8 T) 8 (upd T j x) = va_up M.2 8 (upd T j x)
  rw [upup]
theorem pW_0 (M : kMs) : nPut (nPut M 8 (nI 0)) 9 (nI 0) = pW M 0 0 (M.2 8) := by
  refine Prod.ext rfl ?_
  show M.2 = va_up M.2 8 (M.2 8)
  rw [upself]
theorem updupd (T : Nat → Int32) (j : Nat) (x y : Int32) : upd (upd T j x) j y = upd T j y := by
  funext r
  simp only [upd]
  by_cases h : r = j
  · rw [if_pos h, if_pos h]
  · rw [if_neg h, if_neg h, if_neg h]
theorem drp {l : List Nat} {j : Nat} (h : j < l.length) : l.drop j = l.getD j 0 :: l.drop (j + 1) := by
  rw [List.drop_eq_getElem_cons h, List.getD_eq_getElem?_getD, List.getElem?_eq_getElem h]
  rfl
/-- a word here -/
def mtW (L : List Nat) : List Nat → Nat → Bool × Nat
  | [], a => (true, a)
  | c :: cs, a => if a < L.length ∧ L.getD a 0 = c then mtW L cs (a + 1) else (false, a)
theorem mtW_le (L : List Nat) : ∀ (cs : List Nat) (a : Nat), a ≤ L.length → a ≤ (mtW L cs a).2 ∧ (mtW L cs a).2 ≤ L.length
  | [], a, h => ⟨Nat.le_refl _, h⟩
  | c :: cs, a, h => by
    unfold mtW
    by_cases e : a < L.length ∧ L.getD a 0 = c
    · rw [if_pos e]
      have := mtW_le L cs (a + 1) e.1
      omega
    · rw [if_neg e]; exact ⟨Nat.le_refl _, h⟩
/-- up to so many digits -/
def fgN (L : List Nat) : Nat → Nat → Nat → Nat × Nat
  | 0, acc, a => (acc, a)
  | d + 1, acc, a => if a < L.length ∧ 48 ≤ L.getD a 0 ∧ L.getD a 0 ≤ 57 then fgN L d (10 * acc + L.getD a 0 - 48) (a + 1) else (acc, a)
theorem fgN_le (L : List Nat) : ∀ (d acc a : Nat), a ≤ L.length → a ≤ (fgN L d acc a).2 ∧ (fgN L d acc a).2 ≤ L.length
  | 0, acc, a, h => ⟨Nat.le_refl _, h⟩
  | d + 1, acc, a, h => by
    unfold fgN
    by_cases e : a < L.length ∧ 48 ≤ L.getD a 0 ∧ L.getD a 0 ≤ 57
    · rw [if_pos e]
      have := fgN_le L d (10 * acc + L.getD a 0 - 48) (a + 1) e.1
      omega
    · rw [if_neg e]; exact ⟨Nat.le_refl _, h⟩
/-- a blank and a number -/
def fgM (L : List Nat) (d p a : Nat) (T : Nat → Int32) : Bool × Nat × (Nat → Int32) :=
  if a < L.length ∧ L.getD a 0 = 32 then
    (if a + 1 < L.length ∧ 48 ≤ L.getD (a + 1) 0 ∧ L.getD (a + 1) 0 ≤ 57 then (true, (fgN L d 0 (a + 1)).2, upd T p (nI (fgN L d 0 (a + 1)).1)) else (false, a + 1, T))
  else (false, a, T)
theorem fgM_le (L : List Nat) (d p a : Nat) (T : Nat → Int32) (h : a ≤ L.length) : a ≤ (fgM L d p a T).2.1 ∧ (fgM L d p a T).2.1 ≤ L.length := by
  unfold fgM
  by_cases e : a < L.length ∧ L.getD a 0 = 32
  · rw [if_pos e]
    by_cases e2 : a + 1 < L.length ∧ 48 ≤ L.getD (a + 1) 0 ∧ L.getD (a + 1) 0 ≤ 57
    · rw [if_pos e2]
      have := fgN_le L d 0 (a + 1) e.1
      show a ≤ (fgN L d 0 (a + 1)).2 ∧ (fgN L d 0 (a + 1)).2 ≤ L.length
      omega
    · rw [if_neg e2]; show a ≤ a + 1 ∧ a + 1 ≤ L.length; omega
  · rw [if_neg e]; exact ⟨Nat.le_refl _, h⟩
theorem kv_X4_skips : kV yX4_skips cX4_skips 2 (some .boolean) 1 := ⟨mw_1852, mw_47, mw_64, mw_1853, by decide, by decide, by decide +kernel⟩
set_option maxHeartbeats 4000000 in
set_option maxRecDepth 100000 in
/-- isWord(which, word) -/
theorem met_X4_isWord (l : Launch) (V : kEnv) (M : kMs) (L : List Nat) (hn4 : M.1 4 = nI L.length) (hL60 : L.length ≤ 60) (hL : ∀ j, j < L.length → M.2 4 j = nI (L.getD j 0) ∧ L.getD j 0 < 128) (t : Nat) (ht : t ≤ 30) (T : Nat → Int32) (a : Nat) (hal : a ≤ L.length) (i wh : Nat) (hi : i < 23) : kI l yX4_isWord cX4_isWord 4 (some .boolean) { frames := 4, cells := 0, slots := 0, locals := 85 } V (mWs V) [.ref (eX V 500), .int (nI (wh)), .ref (eX V (200 + i))] (pW M a t T) (fun r u => r = bz (mtW L (kLs i) a).1 ∧ u = pW M (mtW L (kLs i) a).2 t (upd T (4 * t) (nI wh))) 0 0 := by
  refine kI_of (by decide +kernel) (Nat.le_of_ble_eq_true rfl) ?_
  intro pg e s m args below meth c G hret hlocks hC hB h ls hl Q hQ
  have hl : lv_has ls 4 [(0, .ref (eX V 500)), (1, .int (nI (wh))), (2, .ref (eX V (200 + i)))] := hl
  have hx := G.1
  have hcd := G.2.1
  have k9 := kTx_ok ⟨i, hi⟩
  have hl11 : (kLs i).length ≤ 11 := k9.2.1
  refine lv_aload_n hx hcd dX4_isWord_0 rfl (lv_at hl 0 rfl) ?_
  refine r_mA G hC h 8 (by decide) mw_1489 dX4_isWord_1 ?_
  refine lv_iconst (v := nI 4) hx hcd dX4_isWord_4 (by decide) ?_
  refine lv_aload_n hx hcd dX4_isWord_5 rfl (lv_at hl 0 rfl) ?_
  refine r_mN G hC h 9 (by decide) mw_1490 (x := nI (t)) rfl dX4_isWord_6 ?_
  refine w_imul (v := nI (4 * t)) hx hcd dX4_isWord_9 (pk_mul _ _) ?_
  refine lv_iload_n hx hcd dX4_isWord_10 rfl (lv_at hl 1 rfl) ?_
  refine r_mT G hC h 8 (4 * t) (by decide) (by decide) rfl (show 4 * t < 124 by omega) (pW_T _ _ _ _ _ _) dX4_isWord_11 (fun H locs h => ?_)
  refine lv_iconst (v := nI 0) hx hcd dX4_isWord_12 (by decide) ?_
  refine lv_istore_n (lv' := [(3, .int (nI 0)), (0, .ref (eX V 500)), (1, .int (nI (wh))), (2, .ref (eX V (200 + i)))]) hx hcd dX4_isWord_13 rfl hl (by decide) rfl (fun ls hl => ?_)
  have L_2 : ∀ (fu_4 : Nat) (j : Nat) (a9 : Nat) (hj : j ≤ (kLs i).length) (hm9 : mtW L (kLs i) a = mtW L ((kLs i).drop j) a9) (ha9l : a9 ≤ L.length), 12 - j < fu_4 → ∀ (H : Heap) (locs : List Loc), cH V s H locs (mWs V (pW M a9 t (upd T (4 * t) (nI (wh))))) → ∀ ls : Array Slot, lv_has ls 4 [(3, .int (nI (j))), (0, .ref (eX V 500)), (1, .int (nI (wh))), (2, .ref (eX V (200 + i)))] → W pg l e { frames := 4, cells := 0, slots := 0, locals := 85 } s m args below meth c H locs 0 0 Q (F0 m 14 ls []) := by
    intro fu_4
    induction fu_4 with
    | zero => intro j a9 hj hm9 ha9l hmz; exact absurd hmz (Nat.not_lt_zero _)
    | succ fu_4 ih_3 =>
      intro j a9 hj hm9 ha9l hmz H locs h ls hl
      refine lv_iload_n hx hcd dX4_isWord_14 rfl (lv_at hl 0 rfl) ?_
      refine lv_aload_n hx hcd dX4_isWord_15 rfl (lv_at hl 3 rfl) ?_
      refine k_Vi (As := []) (rest := [.int (nI (j))]) (b := eX V (200 + i)) G hC hB h (mem_J0_length_8abf5 l V (pW M a9 t (upd T (4 * t) (nI (wh)))) i hi) mw_1867 kv_J0_length_8abf5 ⟨rfl, rfl⟩ ⟨Nat.le_of_ble_eq_true rfl, Nat.le_of_ble_eq_true rfl⟩ (q_xV hC h i hi) rfl rfl hl.1 (Nat.le_of_ble_eq_true rfl) dX4_isWord_16 ⟨Nat.le_of_ble_eq_true rfl, Nat.le_of_ble_eq_true rfl⟩ (fun r u H locs hp h => ?_)
      obtain ⟨rfl, hu⟩ := hp; rw [hu] at h
      refine lv_icmp_ge (tgt := 42) hx hcd dX4_isWord_19 (by decide) (fun c_5 => ?_) (fun c_5 => ?_)
      · have c_5 := cLe (tN (n := (kLs i).length) (by omega)) (tN (n := j) (by omega)) c_5
        refine lv_iconst (v := nI 1) hx hcd dX4_isWord_42 (by decide) ?_
        exact k_retz hQ G hret hlocks h (Or.inr rfl) (by rw [hm9, List.drop_eq_nil_of_le (by omega)]; exact ⟨rfl, rfl⟩) (Nat.le_of_ble_eq_true rfl) (Nat.le_of_ble_eq_true rfl) dX4_isWord_43
      · have c_5 := cNle (tN (n := (kLs i).length) (by omega)) (tN (n := j) (by omega)) c_5
        refine lv_aload_n hx hcd dX4_isWord_22 rfl (lv_at hl 1 rfl) ?_
        refine lv_aload_n hx hcd dX4_isWord_23 rfl (lv_at hl 3 rfl) ?_
        refine lv_iload_n hx hcd dX4_isWord_24 rfl (lv_at hl 0 rfl) ?_
        refine k_Vi (As := [.int (nI (j))]) (rest := [.ref (eX V 500)]) (b := eX V (200 + i)) G hC hB h (mem_J0_charAt_5068e l V (pW M a9 t (upd T (4 * t) (nI (wh)))) i hi j (by omega)) mw_1868 kv_J0_charAt_5068e ⟨rfl, rfl⟩ ⟨Nat.le_of_ble_eq_true rfl, Nat.le_of_ble_eq_true rfl⟩ (q_xV hC h i hi) rfl rfl hl.1 (Nat.le_of_ble_eq_true rfl) dX4_isWord_25 ⟨Nat.le_of_ble_eq_true rfl, Nat.le_of_ble_eq_true rfl⟩ (fun r u H locs hp h => ?_)
        obtain ⟨rfl, hu⟩ := hp; rw [hu] at h
        have hc1 : (kLs i).getD j 0 < 128 := k9.2.2.2 ⟨j, by omega⟩
        refine k_Vi (As := [.int (nI ((kLs i).getD j 0))]) (rest := []) (b := eX V 500) G hC hB h (met_X4_skips l V (pW M a9 t (upd T (4 * t) (nI (wh)))) L hn4 hL60 hL a9 rfl (by omega) ((kLs i).getD j 0) (by omega)) mw_1850 kv_X4_skips ⟨rfl, rfl⟩ ⟨Nat.le_of_ble_eq_true rfl, Nat.le_of_ble_eq_true rfl⟩ (r_mV hC h) rfl rfl hl.1 (Nat.le_of_ble_eq_true rfl) dX4_isWord_28 ⟨Nat.le_of_ble_eq_true rfl, Nat.le_of_ble_eq_true rfl⟩ (fun r u H locs hp h => ?_)
        rcases hp with ⟨⟨hs_6, hs_7⟩, rfl, hu9⟩ | ⟨hs_6, rfl, hu9⟩
        · skip
          rw [hu9, pW_a] at h
          refine lv_if_ne (tgt := 36) hx hcd dX4_isWord_31 (by decide) (fun _ => ?_) (fun c_8 => absurd c_8 (by decide))
          refine lv_iinc (v := nI (j + 1)) (lv' := [(3, .int (nI (j + 1))), (0, .ref (eX V 500)), (1, .int (nI (wh))), (2, .ref (eX V (200 + i)))]) hx hcd dX4_isWord_36 hl (k := 0) rfl (by exact nI_add (j) 1) (by decide) rfl (fun ls hl => ?_)
          refine lv_goto (tgt := 14) hx hcd dX4_isWord_39 (by decide) ?_
          exact ih_3 (j + 1) (a9 + 1) (by omega) (by rw [hm9, drp (by omega), mtW, if_pos ⟨hs_6, hs_7⟩]) (by omega) (by omega) _ _ h _ (lv_sub hl [0, 1, 2, 3] rfl)
        · skip
          rw [hu9] at h
          refine lv_if_ne (tgt := 36) hx hcd dX4_isWord_31 (by decide) (fun c_9 => absurd c_9 (by decide)) (fun _ => ?_)
          refine lv_iconst (v := nI 0) hx hcd dX4_isWord_34 (by decide) ?_
          exact k_retz hQ G hret hlocks h (Or.inl rfl) (by rw [hm9, drp (by omega), mtW, if_neg hs_6]; exact ⟨rfl, rfl⟩) (Nat.le_of_ble_eq_true rfl) (Nat.le_of_ble_eq_true rfl) dX4_isWord_35
  exact L_2 (12 + 1) 0 a (by omega) rfl hal (by omega) _ _ h _ (lv_sub hl [0, 1, 2, 3] rfl)
set_option maxHeartbeats 4000000 in
set_option maxRecDepth 100000 in
/-- figures(place, digits) -/
theorem met_X4_figures (l : Launch) (V : kEnv) (M : kMs) (L : List Nat) (hn4 : M.1 4 = nI L.length) (hL60 : L.length ≤ 60) (hL : ∀ j, j < L.length → M.2 4 j = nI (L.getD j 0) ∧ L.getD j 0 < 128) (t : Nat) (ht : t ≤ 30) (T : Nat → Int32) (a : Nat) (hal : a ≤ L.length) (p dg : Nat) (hp9 : p < 124) (hdg : dg ≤ 2) : kI l yX4_figures cX4_figures 4 (some .boolean) { frames := 2, cells := 0, slots := 0, locals := 41 } V (mWs V) [.ref (eX V 500), .int (nI (p)), .int (nI (dg))] (pW M a t T) (fun r u => r = bz (fgM L dg p a T).1 ∧ u = pW M (fgM L dg p a T).2.1 t (fgM L dg p a T).2.2) 0 0 := by
  refine kI_of (by decide +kernel) (Nat.le_of_ble_eq_true rfl) ?_
  intro pg e s m args below meth c G hret hlocks hC hB h ls hl Q hQ
  have hl : lv_has ls 4 [(0, .ref (eX V 500)), (1, .int (nI (p))), (2, .int (nI (dg)))] := hl
  have hx := G.1
  have hcd := G.2.1
  refine lv_aload_n hx hcd dX4_figures_0 rfl (lv_at hl 0 rfl) ?_
  refine lv_bipush (v := nI 32) hx hcd dX4_figures_1 (by decide) ?_
  refine k_Vi (As := [.int (nI 32)]) (rest := []) (b := eX V 500) G hC hB h (met_X4_skips l V (pW M a t T) L hn4 hL60 hL a rfl (by omega) 32 (by omega)) mw_1850 kv_X4_skips ⟨rfl, rfl⟩ ⟨Nat.le_of_ble_eq_true rfl, Nat.le_of_ble_eq_true rfl⟩ (r_mV hC h) rfl rfl hl.1 (Nat.le_of_ble_eq_true rfl) dX4_figures_3 ⟨Nat.le_of_ble_eq_true rfl, Nat.le_of_ble_eq_true rfl⟩ (fun r u H locs hp h => ?_)
  rcases hp with ⟨⟨hs_1, hs_2⟩, rfl, hu9⟩ | ⟨hs_1, rfl, hu9⟩
  · skip
    rw [hu9, pW_a] at h
    refine lv_if_eq (tgt := 23) hx hcd dX4_figures_6 (by decide) (fun c_3 => absurd c_3 (by decide)) (fun _ => ?_)
    refine lv_aload_n hx hcd dX4_figures_9 rfl (lv_at hl 0 rfl) ?_
    refine k_Vi (As := []) (rest := []) (b := eX V 500) G hC hB h (met_X4_here l V (pW M (a + 1) t T) L hn4 hL60 hL (a + 1) rfl (by omega)) mw_1854 kv_X4_here ⟨rfl, rfl⟩ ⟨Nat.le_of_ble_eq_true rfl, Nat.le_of_ble_eq_true rfl⟩ (r_mV hC h) rfl rfl hl.1 (Nat.le_of_ble_eq_true rfl) dX4_figures_10 ⟨Nat.le_of_ble_eq_true rfl, Nat.le_of_ble_eq_true rfl⟩ (fun r u H locs hp h => ?_)
    obtain ⟨hp9, hu9⟩ := hp
    rw [hu9] at h
    rcases hp9 with ⟨hl_5, rfl⟩ | ⟨hl_5, rfl⟩
    · skip
      have q_4 := (hL (a + 1) hl_5).2
      refine lv_bipush (v := nI 48) hx hcd dX4_figures_13 (by decide) ?_
      refine lv_bipush (v := nI 57) hx hcd dX4_figures_15 (by decide) ?_
      refine k_Si (As := [.int (nI (L.getD (a + 1) 0)), .int (nI 48), .int (nI 57)]) (rest := []) G hC hB h (met_X4_in l V (pW M (a + 1) t T) (nI (L.getD (a + 1) 0)) (nI 48) (nI 57) (48) (57) (tN (n := 48) (by decide)) (tN (n := 57) (by decide))) mw_1542 ks_X4_in ⟨rfl, rfl⟩ ⟨Nat.le_of_ble_eq_true rfl, Nat.le_of_ble_eq_true rfl⟩ rfl rfl hl.1 (Nat.le_of_ble_eq_true rfl) dX4_figures_17 ⟨Nat.le_of_ble_eq_true rfl, Nat.le_of_ble_eq_true rfl⟩ (fun r u H locs hp h => ?_)
      obtain ⟨hr9, hu9⟩ := hp
      rw [hu9] at h
      rcases bsp (decide (48 ≤ (nI (L.getD (a + 1) 0) : Int32).toInt ∧ (nI (L.getD (a + 1) 0) : Int32).toInt ≤ 57)) with c9 | c9
      · skip
        obtain rfl : r = nI 1 := (hr9.trans ((congrArg bz c9).trans (by decide)))
        have q_6 := of_decide_eq_true c9
        rw [tN (n := L.getD (a + 1) 0) (by omega)] at q_6
        refine lv_if_ne (tgt := 25) hx hcd dX4_figures_20 (by decide) (fun _ => ?_) (fun c_7 => absurd c_7 (by decide))
        refine lv_aload_n hx hcd dX4_figures_25 rfl (lv_at hl 0 rfl) ?_
        refine r_mA G hC h 8 (by decide) mw_1489 dX4_figures_26 ?_
        refine lv_iload_n hx hcd dX4_figures_29 rfl (lv_at hl 1 rfl) ?_
        refine lv_iconst (v := nI 0) hx hcd dX4_figures_30 (by decide) ?_
        refine r_mT G hC h 8 (p) (by decide) (by decide) rfl (show p < 124 by omega) (pW_T _ _ _ _ _ _) dX4_figures_31 (fun H locs h => ?_)
        refine lv_iconst (v := nI 0) hx hcd dX4_figures_32 (by decide) ?_
        refine lv_istore_n (lv' := [(3, .int (nI 0)), (0, .ref (eX V 500)), (1, .int (nI (p))), (2, .int (nI (dg)))]) hx hcd dX4_figures_33 rfl hl (by decide) rfl (fun ls hl => ?_)
        have L_8 : ∀ (fu_10 : Nat) (j : Nat) (acc : Nat) (a9 : Nat) (hj : j ≤ dg) (hf9 : fgN L dg 0 (a + 1) = fgN L (dg - j) acc a9) (hac : acc ≤ 99 ∧ (j ≤ 1 → acc ≤ 9) ∧ (j = 0 → acc = 0)) (ha9l : a9 ≤ L.length), dg - j < fu_10 → ∀ (H : Heap) (locs : List Loc), cH V s H locs (mWs V (pW M a9 t (upd T p (nI acc)))) → ∀ ls : Array Slot, lv_has ls 4 [(3, .int (nI (j))), (0, .ref (eX V 500)), (1, .int (nI (p))), (2, .int (nI (dg)))] → W pg l e { frames := 2, cells := 0, slots := 0, locals := 41 } s m args below meth c H locs 0 0 Q (F0 m 34 ls []) := by
          intro fu_10
          induction fu_10 with
          | zero => intro j acc a9 hj hf9 hac ha9l hmz; exact absurd hmz (Nat.not_lt_zero _)
          | succ fu_10 ih_9 =>
            intro j acc a9 hj hf9 hac ha9l hmz H locs h ls hl
            refine lv_iload_n hx hcd dX4_figures_34 rfl (lv_at hl 0 rfl) ?_
            refine lv_iload_n hx hcd dX4_figures_35 rfl (lv_at hl 3 rfl) ?_
            refine lv_icmp_ge (tgt := 92) hx hcd dX4_figures_36 (by decide) (fun c_11 => ?_) (fun c_11 => ?_)
            · have c_11 := cLe (tN (n := dg) (by omega)) (tN (n := j) (by omega)) c_11
              refine lv_iconst (v := nI 1) hx hcd dX4_figures_92 (by decide) ?_
              exact k_retz hQ G hret hlocks h (Or.inr rfl) (by rw [show fgM L dg p a T = (true, a9, upd T p (nI acc)) from by unfold fgM; rw [if_pos ⟨hs_1, hs_2⟩, if_pos (by omega), show fgN L dg 0 (a + 1) = (acc, a9) from by rw [hf9, show dg - j = 0 by omega]; rfl]]; exact ⟨rfl, rfl⟩) (Nat.le_of_ble_eq_true rfl) (Nat.le_of_ble_eq_true rfl) dX4_figures_93
            · have c_11 := cNle (tN (n := dg) (by omega)) (tN (n := j) (by omega)) c_11
              refine lv_aload_n hx hcd dX4_figures_39 rfl (lv_at hl 1 rfl) ?_
              refine k_Vi (As := []) (rest := []) (b := eX V 500) G hC hB h (met_X4_here l V (pW M a9 t (upd T p (nI acc))) L hn4 hL60 hL a9 rfl (by omega)) mw_1854 kv_X4_here ⟨rfl, rfl⟩ ⟨Nat.le_of_ble_eq_true rfl, Nat.le_of_ble_eq_true rfl⟩ (r_mV hC h) rfl rfl hl.1 (Nat.le_of_ble_eq_true rfl) dX4_figures_40 ⟨Nat.le_of_ble_eq_true rfl, Nat.le_of_ble_eq_true rfl⟩ (fun r u H locs hp h => ?_)
              obtain ⟨hp9, hu9⟩ := hp
              rw [hu9] at h
              rcases hp9 with ⟨hl_13, rfl⟩ | ⟨hl_13, rfl⟩
              · skip
                have q_12 := (hL a9 hl_13).2
                refine lv_bipush (v := nI 48) hx hcd dX4_figures_43 (by decide) ?_
                refine lv_bipush (v := nI 57) hx hcd dX4_figures_45 (by decide) ?_
                refine k_Si (As := [.int (nI (L.getD a9 0)), .int (nI 48), .int (nI 57)]) (rest := []) G hC hB h (met_X4_in l V (pW M a9 t (upd T p (nI acc))) (nI (L.getD a9 0)) (nI 48) (nI 57) (48) (57) (tN (n := 48) (by decide)) (tN (n := 57) (by decide))) mw_1542 ks_X4_in ⟨rfl, rfl⟩ ⟨Nat.le_of_ble_eq_true rfl, Nat.le_of_ble_eq_true rfl⟩ rfl rfl hl.1 (Nat.le_of_ble_eq_true rfl) dX4_figures_47 ⟨Nat.le_of_ble_eq_true rfl, Nat.le_of_ble_eq_true rfl⟩ (fun r u H locs hp h => ?_)
                obtain ⟨hr9, hu9⟩ := hp
                rw [hu9] at h
                rcases bsp (decide (48 ≤ (nI (L.getD a9 0) : Int32).toInt ∧ (nI (L.getD a9 0) : Int32).toInt ≤ 57)) with c9 | c9
                · skip
                  obtain rfl : r = nI 1 := (hr9.trans ((congrArg bz c9).trans (by decide)))
                  have q_14 := of_decide_eq_true c9
                  rw [tN (n := L.getD a9 0) (by omega)] at q_14
                  refine lv_if_eq (tgt := 92) hx hcd dX4_figures_50 (by decide) (fun c_15 => absurd c_15 (by decide)) (fun _ => ?_)
                  refine lv_aload_n hx hcd dX4_figures_53 rfl (lv_at hl 1 rfl) ?_
                  refine r_mA G hC h 8 (by decide) mw_1489 dX4_figures_54 ?_
                  refine lv_iload_n hx hcd dX4_figures_57 rfl (lv_at hl 2 rfl) ?_
                  refine lv_bipush (v := nI 10) hx hcd dX4_figures_58 (by decide) ?_
                  refine lv_aload_n hx hcd dX4_figures_60 rfl (lv_at hl 1 rfl) ?_
                  refine r_mA G hC h 8 (by decide) mw_1489 dX4_figures_61 ?_
                  refine lv_iload_n hx hcd dX4_figures_64 rfl (lv_at hl 2 rfl) ?_
                  refine r_mL G hC h 8 (p) (by decide) (by decide) rfl (show p < 124 by omega) (x := nI (acc)) (upd_at _ _ _) dX4_figures_65 ?_
                  refine w_imul (v := nI (10 * acc)) hx hcd dX4_figures_66 (pk_mul _ _) ?_
                  refine lv_aload_n hx hcd dX4_figures_67 rfl (lv_at hl 1 rfl) ?_
                  refine k_Vi (As := []) (rest := [.int (nI (10 * acc)), .int (nI (p)), .ref (eX V (501 + 8))]) (b := eX V 500) G hC hB h (met_X4_here l V (pW M a9 t (upd T p (nI acc))) L hn4 hL60 hL a9 rfl (by omega)) mw_1854 kv_X4_here ⟨rfl, rfl⟩ ⟨Nat.le_of_ble_eq_true rfl, Nat.le_of_ble_eq_true rfl⟩ (r_mV hC h) rfl rfl hl.1 (Nat.le_of_ble_eq_true rfl) dX4_figures_68 ⟨Nat.le_of_ble_eq_true rfl, Nat.le_of_ble_eq_true rfl⟩ (fun r u H locs hp h => ?_)
                  obtain ⟨hp9, hu9⟩ := hp
                  rw [hu9] at h
                  rcases hp9 with ⟨hl_18, rfl⟩ | ⟨hl_18, rfl⟩
                  · skip
                    have q_17 := (hL a9 hl_18).2
                    refine w_iadd (v := nI ((10 * acc) + (L.getD a9 0))) hx hcd dX4_figures_71 (nI_add _ _) ?_
                    refine lv_bipush (v := nI 48) hx hcd dX4_figures_72 (by decide) ?_
                    refine w_isub (v := nI (((10 * acc) + (L.getD a9 0)) - 48)) hx hcd dX4_figures_74 (pk_sub (by omega)) ?_
                    refine r_mT G hC h 8 (p) (by decide) (by decide) rfl (show p < 124 by omega) (pW_T _ _ _ _ _ _) dX4_figures_75 (fun H locs h => ?_)
                    refine lv_aload_n hx hcd dX4_figures_76 rfl (lv_at hl 1 rfl) ?_
                    refine lv_dup hx hcd dX4_figures_77 rfl ?_
                    refine r_mN G hC h 8 (by decide) mw_1488 (x := nI (a9)) rfl dX4_figures_78 ?_
                    refine lv_iconst (v := nI 1) hx hcd dX4_figures_81 (by decide) ?_
                    refine w_iadd (v := nI (a9 + 1)) hx hcd dX4_figures_82 (nI_add _ _) ?_
                    refine r_mP G hC h 8 (by decide) mw_1488 (fun z => absurd z (by decide)) (pW_a _ _ _ _ _) dX4_figures_83 (fun H locs h => ?_)
                    refine lv_iinc (v := nI (j + 1)) (lv' := [(3, .int (nI (j + 1))), (0, .ref (eX V 500)), (1, .int (nI (p))), (2, .int (nI (dg)))]) hx hcd dX4_figures_86 hl (k := 0) rfl (by exact nI_add (j) 1) (by decide) rfl (fun ls hl => ?_)
                    refine lv_goto (tgt := 34) hx hcd dX4_figures_89 (by decide) ?_
                    exact ih_9 (j + 1) (10 * acc + L.getD a9 0 - 48) (a9 + 1) (by omega) (by rw [hf9, show dg - j = (dg - (j + 1)) + 1 by omega, fgN, if_pos (by omega)]) (by omega) (by omega) (by omega) _ _ (by rw [updupd] at h; exact h) _ (lv_sub hl [0, 1, 2, 3] rfl)
                  · skip
                    exact absurd hl_18 (by omega)
                · skip
                  obtain rfl : r = nI 0 := (hr9.trans ((congrArg bz c9).trans (by decide)))
                  have q_14 := of_decide_eq_false c9
                  rw [tN (n := L.getD a9 0) (by omega)] at q_14
                  refine lv_if_eq (tgt := 92) hx hcd dX4_figures_50 (by decide) (fun _ => ?_) (fun c_22 => absurd c_22 (by decide))
                  refine lv_iconst (v := nI 1) hx hcd dX4_figures_92 (by decide) ?_
                  exact k_retz hQ G hret hlocks h (Or.inr rfl) (by rw [show fgM L dg p a T = (true, a9, upd T p (nI acc)) from by unfold fgM; rw [if_pos ⟨hs_1, hs_2⟩, if_pos (by omega), show fgN L dg 0 (a + 1) = (acc, a9) from by rw [hf9, show dg - j = (dg - (j + 1)) + 1 by omega, fgN, if_neg (by omega)]]]; exact ⟨rfl, rfl⟩) (Nat.le_of_ble_eq_true rfl) (Nat.le_of_ble_eq_true rfl) dX4_figures_93
              · skip
                refine lv_bipush (v := nI 48) hx hcd dX4_figures_43 (by decide) ?_
                refine lv_bipush (v := nI 57) hx hcd dX4_figures_45 (by decide) ?_
                refine k_Si (As := [.int (-1), .int (nI 48), .int (nI 57)]) (rest := []) G hC hB h (met_X4_in l V (pW M a9 t (upd T p (nI acc))) (-1) (nI 48) (nI 57) (48) (57) (tN (n := 48) (by decide)) (tN (n := 57) (by decide))) mw_1542 ks_X4_in ⟨rfl, rfl⟩ ⟨Nat.le_of_ble_eq_true rfl, Nat.le_of_ble_eq_true rfl⟩ rfl rfl hl.1 (Nat.le_of_ble_eq_true rfl) dX4_figures_47 ⟨Nat.le_of_ble_eq_true rfl, Nat.le_of_ble_eq_true rfl⟩ (fun r u H locs hp h => ?_)
                obtain ⟨hr9, hu9⟩ := hp
                rw [hu9] at h
                obtain rfl : r = nI 0 := hr9.trans (by decide)
                · skip
                  refine lv_if_eq (tgt := 92) hx hcd dX4_figures_50 (by decide) (fun _ => ?_) (fun c_24 => absurd c_24 (by decide))
                  refine lv_iconst (v := nI 1) hx hcd dX4_figures_92 (by decide) ?_
                  exact k_retz hQ G hret hlocks h (Or.inr rfl) (by rw [show fgM L dg p a T = (true, a9, upd T p (nI acc)) from by unfold fgM; rw [if_pos ⟨hs_1, hs_2⟩, if_pos (by omega), show fgN L dg 0 (a + 1) = (acc, a9) from by rw [hf9, show dg - j = (dg - (j + 1)) + 1 by omega, fgN, if_neg (by omega)]]]; exact ⟨rfl, rfl⟩) (Nat.le_of_ble_eq_true rfl) (Nat.le_of_ble_eq_true rfl) dX4_figures_93
        exact L_8 (dg + 1) 0 0 (a + 1) (by omega) rfl (by omega) (by omega) (by omega) _ _ h _ (lv_sub hl [0, 1, 2, 3] rfl)
      · skip
        obtain rfl : r = nI 0 := (hr9.trans ((congrArg bz c9).trans (by decide)))
        have q_6 := of_decide_eq_false c9
        rw [tN (n := L.getD (a + 1) 0) (by omega)] at q_6
        refine lv_if_ne (tgt := 25) hx hcd dX4_figures_20 (by decide) (fun c_25 => absurd c_25 (by decide)) (fun _ => ?_)
        refine lv_iconst (v := nI 0) hx hcd dX4_figures_23 (by decide) ?_
        exact k_retz hQ G hret hlocks h (Or.inl rfl) (by rw [show fgM L dg p a T = (false, a + 1, T) from by unfold fgM; rw [if_pos ⟨hs_1, hs_2⟩, if_neg (by omega)]]; exact ⟨rfl, rfl⟩) (Nat.le_of_ble_eq_true rfl) (Nat.le_of_ble_eq_true rfl) dX4_figures_24
    · skip
      refine lv_bipush (v := nI 48) hx hcd dX4_figures_13 (by decide) ?_
      refine lv_bipush (v := nI 57) hx hcd dX4_figures_15 (by decide) ?_
      refine k_Si (As := [.int (-1), .int (nI 48), .int (nI 57)]) (rest := []) G hC hB h (met_X4_in l V (pW M (a + 1) t T) (-1) (nI 48) (nI 57) (48) (57) (tN (n := 48) (by decide)) (tN (n := 57) (by decide))) mw_1542 ks_X4_in ⟨rfl, rfl⟩ ⟨Nat.le_of_ble_eq_true rfl, Nat.le_of_ble_eq_true rfl⟩ rfl rfl hl.1 (Nat.le_of_ble_eq_true rfl) dX4_figures_17 ⟨Nat.le_of_ble_eq_true rfl, Nat.le_of_ble_eq_true rfl⟩ (fun r u H locs hp h => ?_)
      obtain ⟨hr9, hu9⟩ := hp
      rw [hu9] at h
      obtain rfl : r = nI 0 := hr9.trans (by decide)
      · skip
        refine lv_if_ne (tgt := 25) hx hcd dX4_figures_20 (by decide) (fun c_27 => absurd c_27 (by decide)) (fun _ => ?_)
        refine lv_iconst (v := nI 0) hx hcd dX4_figures_23 (by decide) ?_
        exact k_retz hQ G hret hlocks h (Or.inl rfl) (by rw [show fgM L dg p a T = (false, a + 1, T) from by unfold fgM; rw [if_pos ⟨hs_1, hs_2⟩, if_neg (by omega)]]; exact ⟨rfl, rfl⟩) (Nat.le_of_ble_eq_true rfl) (Nat.le_of_ble_eq_true rfl) dX4_figures_24
  · skip
    rw [hu9] at h
    refine lv_if_eq (tgt := 23) hx hcd dX4_figures_6 (by decide) (fun _ => ?_) (fun c_28 => absurd c_28 (by decide))
    refine lv_iconst (v := nI 0) hx hcd dX4_figures_23 (by decide) ?_
    exact k_retz hQ G hret hlocks h (Or.inl rfl) (by rw [show fgM L dg p a T = (false, a, T) from by unfold fgM; rw [if_neg hs_1]]; exact ⟨rfl, rfl⟩) (Nat.le_of_ble_eq_true rfl) (Nat.le_of_ble_eq_true rfl) dX4_figures_24
