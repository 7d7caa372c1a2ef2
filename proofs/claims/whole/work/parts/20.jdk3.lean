theorem sb_app1 {x : kSb} {L : List Nat} {c : Nat} (hR : sbR x L) (h1 : L.length < x.2.1) (hc : c < 128) : sbR (upd x.1 L.length (nI c), x.2.1, x.2.2.1, L.length + 1, x.2.2.2.2) (L ++ [c]) := by
  obtain ⟨r1, r2, r3, r4, r5⟩ := hR
  refine ⟨by simp, by show (L ++ [c]).length ≤ x.2.1; simp; omega, r3, fun j hj => ?_, sb_fitU r5 (ch_fit hc)⟩
  rw [List.length_append] at hj
  simp only [List.length_cons, List.length_nil] at hj
  show _ ∧ upd x.1 L.length (nI c) j = _
  unfold upd
  by_cases h : j = L.length
  · subst h
    rw [if_pos rfl, List.getD_eq_getElem?_getD, List.getElem?_append_right (Nat.le_refl _), Nat.sub_self]
    exact ⟨hc, rfl⟩
  · rw [if_neg h, List.getD_eq_getElem?_getD, List.getElem?_append_left (by omega), ← List.getD_eq_getElem?_getD]
    exact r4 j (by omega)
theorem dgs_lt {v : Nat} (hv : v < 1000) : ∀ c ∈ dgs v, c < 128 := by
  unfold dgs
  split
  · intro c h; simp at h; omega
  · split
    · intro c h; simp at h; omega
    · intro c h; simp at h; omega
theorem upd_at (a : Nat → Int32) (k : Nat) (y : Int32) : upd a k y k = y := by simp [upd]
theorem upd_ne (a : Nat → Int32) {k j : Nat} (y : Int32) (h : j ≠ k) : upd a k y j = a j := by simp [upd, h]
theorem gch_at {v : Nat} (hv : v < 1000) (n : Nat) (a : Nat → Int32) : (∀ j, j < n → gch v (n + (dgs v).length) a j = a j) ∧ ∀ j, j < (dgs v).length → gch v (n + (dgs v).length) a (n + j) = nI ((dgs v).getD j 0) := by
  unfold gch dgs
  by_cases h1 : v < 10
  · simp only [h1, if_true, List.length_cons, List.length_nil]
    refine ⟨fun j hj => upd_ne _ _ (by omega), fun j hj => ?_⟩
    obtain rfl : j = 0 := by omega
    rw [show n + 0 = n + (0 + 1) - 1 by omega, upd_at, show v % 10 = v by omega]
    rfl
  · by_cases h2 : v < 100
    · simp only [h1, h2, if_true, if_false, List.length_cons, List.length_nil]
      refine ⟨fun j hj => by rw [upd_ne _ _ (by omega), upd_ne _ _ (by omega)], fun j hj => ?_⟩
      match j, hj with
      | 0, _ => rw [show n + 0 = n + (0 + 1 + 1) - 1 - 1 by omega, upd_at]; rfl
      | 1, _ => rw [upd_ne _ _ (by omega), show n + 1 = n + (0 + 1 + 1) - 1 by omega, upd_at]; rfl
      | j + 2, h => omega
    · simp only [h1, h2, if_false, List.length_cons, List.length_nil]
      refine ⟨fun j hj => by rw [upd_ne _ _ (by omega), upd_ne _ _ (by omega), upd_ne _ _ (by omega)], fun j hj => ?_⟩
      match j, hj with
      | 0, _ => rw [show n + 0 = n + (0 + 1 + 1 + 1) - 1 - 1 - 1 by omega, upd_at, show v / 100 % 10 = v / 100 by omega]; rfl
      | 1, _ => rw [upd_ne _ _ (by omega), show n + 1 = n + (0 + 1 + 1 + 1) - 1 - 1 by omega, upd_at]; rfl
      | 2, _ => rw [upd_ne _ _ (by omega), upd_ne _ _ (by omega), show n + 2 = n + (0 + 1 + 1 + 1) - 1 by omega, upd_at]; rfl
      | j + 3, h => omega
theorem gch_fit {v : Nat} (hv : v < 1000) (q : Nat) {a : Nat → Int32} (h : sb_Fit a) : sb_Fit (gch v q a) := by
  unfold gch
  split
  · exact sb_fitU h (ch_fit (by omega))
  · split
    · exact sb_fitU (sb_fitU h (ch_fit (by omega))) (ch_fit (by omega))
    · exact sb_fitU (sb_fitU (sb_fitU h (ch_fit (by omega))) (ch_fit (by omega))) (ch_fit (by omega))
theorem sb_appI {x : kSb} {L : List Nat} {v : Nat} (hR : sbR x L) (hv : v < 1000) (h1 : L.length + (dgs v).length ≤ x.2.1) : sbR (gch v (L.length + (dgs v).length) x.1, x.2.1, x.2.2.1, L.length + (dgs v).length, x.2.2.2.2) (L ++ dgs v) := by
  obtain ⟨r1, r2, r3, r4, r5⟩ := hR
  obtain ⟨g1, g2⟩ := gch_at hv L.length x.1
  refine ⟨by simp, by show (L ++ dgs v).length ≤ x.2.1; rw [List.length_append]; exact h1, r3, fun j hj => ?_, gch_fit hv _ r5⟩
  rw [List.length_append] at hj
  show _ ∧ gch v (L.length + (dgs v).length) x.1 j = _
  by_cases h : j < L.length
  · rw [g1 j h, List.getD_eq_getElem?_getD, List.getElem?_append_left h, ← List.getD_eq_getElem?_getD]
    exact r4 j h
  · have e : L.length + (j - L.length) = j := by omega
    have hj2 : j - L.length < (dgs v).length := by omega
    have h9 := g2 (j - L.length) hj2
    rw [e] at h9
    rw [h9, List.getD_eq_getElem?_getD, List.getElem?_append_right (by omega), ← List.getD_eq_getElem?_getD]
    refine ⟨dgs_lt hv _ ?_, rfl⟩
    rw [List.getD_eq_getElem?_getD, List.getElem?_eq_getElem hj2]
    exact List.getElem_mem hj2
theorem sb_zero {x : kSb} {L : List Nat} (hR : sbR x L) (ml : Int32) : sbR (x.1, x.2.1, x.2.2.1, 0, ml) [] :=
  ⟨rfl, Nat.zero_le _, hR.2.2.1, fun j hj => absurd hj (Nat.not_lt_zero _), hR.2.2.2.2⟩
theorem mwx_390 : (Jvm.Cond.sameMethod "java/lang/AbstractStringBuilder" "java/lang/AbstractStringBuilder" "isLatin1" "()Z") ∈ LW := lwm 390 (by decide +kernel) rfl
theorem mwx_391 : (Jvm.Cond.selects "java/lang/StringBuilder" ({ cls := "java/lang/AbstractStringBuilder", name := "isLatin1", desc := "()Z" } : Jvm.MethodName) ({ cls := "java/lang/AbstractStringBuilder", name := "isLatin1", desc := "()Z" } : Jvm.MethodName)) ∈ LW := lwm 391 (by decide +kernel) rfl
theorem mwx_1929 : (Jvm.Cond.sameMethod "java/lang/AbstractStringBuilder" "java/lang/AbstractStringBuilder" "setLength" "(I)V") ∈ LW := lwm 1929 (by decide +kernel) rfl
theorem mwx_1932 : (Jvm.Cond.sameMethod "java/lang/AbstractStringBuilder" "java/lang/AbstractStringBuilder" "ensureCapacityInternal" "(I)V") ∈ LW := lwm 1932 (by decide +kernel) rfl
theorem mwx_1937 : (Jvm.Cond.sameMethod "java/lang/AbstractStringBuilder" "java/lang/AbstractStringBuilder" "append" "(I)Ljava/lang/AbstractStringBuilder;") ∈ LW := lwm 1937 (by decide +kernel) rfl
theorem mwx_1939 : (Jvm.Cond.sameMethod "java/lang/AbstractStringBuilder" "java/lang/AbstractStringBuilder" "append" "(C)Ljava/lang/AbstractStringBuilder;") ∈ LW := lwm 1939 (by decide +kernel) rfl
theorem ks_J1_canEncode_fc78d : kSt yJ1_canEncode_fc78d cJ1_canEncode_fc78d 1 (some .boolean) 1 := ⟨mw_686, mw_83, mw_687, by decide, by decide, by decide +kernel⟩
theorem ks_J6_getChars_ba4f3 : kSt yJ6_getChars_ba4f3 cJ6_getChars_ba4f3 7 (some .int) 3 := ⟨mw_473, mw_75, mw_474, by decide, by decide, by decide +kernel⟩
theorem ks_J6_stringSize_0f7a4 : kSt yJ6_stringSize_0f7a4 cJ6_stringSize_0f7a4 4 (some .int) 1 := ⟨mw_470, mw_75, mw_471, by decide, by decide, by decide +kernel⟩
theorem kp_J5_append_3fe6f : kVp RJ4 yJ5_append_3fe6f cJ5_append_3fe6f 2 (some (.object "java/lang/AbstractStringBuilder")) 1 := ⟨mwx_1939, mwx_215, mw_683, mw_60, mw_684, by decide, by decide +kernel⟩
theorem kp_J5_append_c97b9 : kVp RJ4 yJ5_append_c97b9 cJ5_append_c97b9 4 (some (.object "java/lang/AbstractStringBuilder")) 1 := ⟨mwx_1937, mwx_215, mw_467, mw_60, mw_468, by decide, by decide +kernel⟩
theorem kw_J5_ensureCapacityInternal_d00df : kVw yJ5_ensureCapacityInternal_d00df cJ5_ensureCapacityInternal_d00df 3 none 1 := ⟨mwx_1932, by decide +kernel, mw_355, mw_60, mw_356, by decide, by decide, by decide +kernel⟩
theorem ku_J5_isLatin1_aae02 : kVu RJ4 yJ5_isLatin1_aae02 cJ5_isLatin1_aae02 1 (some .boolean) 0 := ⟨mwx_390, mwx_391, mw_389, mw_60, mw_392, by decide, by decide, by decide +kernel⟩
theorem kp_J5_setLength_d00df : kVp RJ4 yJ5_setLength_d00df cJ5_setLength_d00df 2 none 1 := ⟨mwx_1929, mwx_215, mw_332, mw_60, mw_333, by decide, by decide +kernel⟩
set_option maxHeartbeats 4000000 in
set_option maxRecDepth 100000 in
/-- append(char) -/
theorem met_J5_append_3fe6f (l : Launch) (V : kEnv)  (hV : kOk V) (S : kCs) (k : Nat) (hk : k < 2) (x : kSb) (L : List Nat) (hR : sbR x L) (q : Nat) (hq : q < 128) (hL : L.length < 60) : kR l yJ5_append_3fe6f cJ5_append_3fe6f 2 (some (.object "java/lang/AbstractStringBuilder")) { frames := 4, cells := 1, slots := 120, locals := 112 } V (cWs V) [.ref (eX V (104 + k)), .int (nI (q))] (uPut S k x) (fun u => ∃ y, sbR y (L ++ [q]) ∧ u = uPut S k y) (eX V (104 + k)) 1 120 := by
  refine kR_of (by decide +kernel) (Nat.le_of_ble_eq_true rfl) ?_
  intro p e s m args below meth c G hret hlocks hC hB h ls hl Q hQ
  have hl : lv_has ls 2 [(0, .ref (eX V (104 + k))), (1, .int (nI (q)))] := hl
  have hx := G.1
  have hcd := G.2.1
  have hR0 := hR
  obtain ⟨r1, r2, r3, r4, r5⟩ := hR0
  refine lv_aload_n hx hcd dJ5_append_3fe6f_0 rfl (lv_at hl 0 rfl) ?_
  refine lv_aload_n hx hcd dJ5_append_3fe6f_1 rfl (lv_at hl 0 rfl) ?_
  refine r_uF G hC h k 3 hk (by decide) mw_206 (v := .int (nI (x.2.2.2.1))) (by rw [uPut_at]; rfl) dJ5_append_3fe6f_2 ?_
  refine lv_iconst (v := nI 1) hx hcd dJ5_append_3fe6f_5 (by decide) ?_
  refine w_iadd (v := nI (x.2.2.2.1 + 1)) hx hcd dJ5_append_3fe6f_6 (nI_add _ _) ?_
  refine k_Wv (As := [.int (nI (x.2.2.2.1 + 1))]) (rest := []) (b := eX V (104 + k)) G hC hB h (met_J5_ensureCapacityInternal_d00df l V hV S k hk x L hR (x.2.2.2.1 + 1) (by omega)) mw_353 kw_J5_ensureCapacityInternal_d00df ⟨rfl, rfl⟩ ⟨Nat.le_of_ble_eq_true rfl, Nat.le_of_ble_eq_true rfl⟩ (r_uV hC h k hk) rfl rfl hl.1 (Nat.le_of_ble_eq_true rfl) dJ5_append_3fe6f_7 ⟨Nat.le_of_ble_eq_true rfl, Nat.le_of_ble_eq_true rfl⟩ (fun u H locs hp h => ?_)
  obtain ⟨y_2, hRy, hqy, rfl⟩ := hp
  have hRy0 := hRy
  obtain ⟨r1, r2, r3, r4, r5⟩ := hRy0
  refine lv_aload_n hx hcd dJ5_append_3fe6f_10 rfl (lv_at hl 0 rfl) ?_
  refine k_Ui (C := RJ4) (As := []) (rest := []) (b := eX V (104 + k)) G hC hB h (met_J5_isLatin1_aae02 l V (uPut S k y_2) k hk) mw_388 ku_J5_isLatin1_aae02 ⟨rfl, rfl⟩ ⟨Nat.le_of_ble_eq_true rfl, Nat.le_of_ble_eq_true rfl⟩ (r_uV hC h k hk) rfl rfl hl.1 (Nat.le_of_ble_eq_true rfl) dJ5_append_3fe6f_11 ⟨Nat.le_of_ble_eq_true rfl, Nat.le_of_ble_eq_true rfl⟩ (fun r u H locs hp h => ?_)
  obtain ⟨rfl, hu⟩ := hp; rw [hu] at h
  refine lv_if_eq (tgt := 45) hx hcd dJ5_append_3fe6f_14 (by decide) (fun c_3 => absurd c_3 (by decide)) (fun _ => ?_)
  refine lv_iload_n hx hcd dJ5_append_3fe6f_17 rfl (lv_at hl 1 rfl) ?_
  refine k_Si (As := [.int (nI (q))]) (rest := []) G hC hB h (met_J1_canEncode_fc78d l V (uPut S k y_2) q (by first | assumption | omega)) mw_685 ks_J1_canEncode_fc78d ⟨rfl, rfl⟩ ⟨Nat.le_of_ble_eq_true rfl, Nat.le_of_ble_eq_true rfl⟩ rfl rfl hl.1 (Nat.le_of_ble_eq_true rfl) dJ5_append_3fe6f_18 ⟨Nat.le_of_ble_eq_true rfl, Nat.le_of_ble_eq_true rfl⟩ (fun r u H locs hp h => ?_)
  obtain ⟨rfl, hu⟩ := hp; rw [hu] at h
  refine lv_if_eq (tgt := 45) hx hcd dJ5_append_3fe6f_21 (by decide) (fun c_4 => absurd c_4 (by decide)) (fun _ => ?_)
  have hcy := hRy.2.2.1
  refine lv_aload_n hx hcd dJ5_append_3fe6f_24 rfl (lv_at hl 0 rfl) ?_
  refine r_uF G hC h k 0 hk (by decide) mw_202 (v := .ref (y_2.2.2.1)) (by rw [uPut_at]; rfl) dJ5_append_3fe6f_25 ?_
  refine lv_aload_n hx hcd dJ5_append_3fe6f_28 rfl (lv_at hl 0 rfl) ?_
  refine lv_dup hx hcd dJ5_append_3fe6f_29 rfl ?_
  refine r_uF G hC h k 3 hk (by decide) mw_206 (v := .int (nI (y_2.2.2.2.1))) (by rw [uPut_at]; rfl) dJ5_append_3fe6f_30 ?_
  refine lv_dup_x1 hx hcd dJ5_append_3fe6f_33 rfl rfl ?_
  refine lv_iconst (v := nI 1) hx hcd dJ5_append_3fe6f_34 (by decide) ?_
  refine w_iadd (v := nI (y_2.2.2.2.1 + 1)) hx hcd dJ5_append_3fe6f_35 (nI_add _ _) ?_
  refine r_uP G hC h k 3 hk (by decide) mw_206 (y := (y_2.1, y_2.2.1, y_2.2.2.1, y_2.2.2.2.1 + 1, y_2.2.2.2.2)) (fun z => absurd z (by decide)) (by rw [uPut_at]) (by rw [uPut_at]) (by rw [uPut_at]) (by rw [uPut_at]; rfl) (uPut_set _ _ _ _) dJ5_append_3fe6f_36 (fun H locs h => ?_)
  refine lv_iload_n hx hcd dJ5_append_3fe6f_39 rfl (lv_at hl 1 rfl) ?_
  refine lv_i2b (v := nI (q)) hx hcd dJ5_append_3fe6f_40 (ch_i2b (by first | assumption | omega)) ?_
  refine r_xT G hC k (y_2.2.2.2.1) h hk rfl (by show y_2.2.2.2.1 < y_2.2.1; omega) (by show y_2.2.1 < 2 ^ 31; omega) (y := nI (q)) (ch_nb (by first | assumption | omega)) dJ5_append_3fe6f_41 (fun H locs h => ?_)
  refine lv_goto (tgt := 75) hx hcd dJ5_append_3fe6f_42 (by decide) ?_
  refine lv_aload_n hx hcd dJ5_append_3fe6f_75 rfl (lv_at hl 0 rfl) ?_
  exact k_reta hQ G hret hlocks h (⟨_, sb_app1 hRy (by omega) hq, congrArg (uPut S k) (by rw [r1])⟩) (Nat.le_of_ble_eq_true rfl) (Nat.le_of_ble_eq_true rfl) dJ5_append_3fe6f_76
set_option maxHeartbeats 4000000 in
set_option maxRecDepth 100000 in
/-- StringBuilder.append(char) -/
theorem met_J4_append_cf468 (l : Launch) (V : kEnv)  (hV : kOk V) (S : kCs) (k : Nat) (hk : k < 2) (x : kSb) (L : List Nat) (hR : sbR x L) (q : Nat) (hq : q < 128) (hL : L.length < 60) : kR l yJ4_append_cf468 cJ4_append_cf468 2 (some (.object "java/lang/StringBuilder")) { frames := 5, cells := 1, slots := 120, locals := 133 } V (cWs V) [.ref (eX V (104 + k)), .int (nI (q))] (uPut S k x) (fun u => ∃ y, sbR y (L ++ [q]) ∧ u = uPut S k y) (eX V (104 + k)) 1 120 := by
  refine kR_of (by decide +kernel) (Nat.le_of_ble_eq_true rfl) ?_
  intro p e s m args below meth c G hret hlocks hC hB h ls hl Q hQ
  have hl : lv_has ls 2 [(0, .ref (eX V (104 + k))), (1, .int (nI (q)))] := hl
  have hx := G.1
  have hcd := G.2.1
  refine lv_aload_n hx hcd dJ4_append_cf468_0 rfl (lv_at hl 0 rfl) ?_
  refine lv_iload_n hx hcd dJ4_append_cf468_1 rfl (lv_at hl 1 rfl) ?_
  refine k_Pr (As := [.int (nI (q))]) (rest := []) (b := eX V (104 + k)) ((hC.1.1 1 _ rfl).2) G hC hB h (met_J5_append_3fe6f l V hV S k hk x L hR q hq hL) mw_682 kp_J5_append_3fe6f ⟨rfl, rfl⟩ ⟨Nat.le_of_ble_eq_true rfl, Nat.le_of_ble_eq_true rfl⟩ (r_uV hC h k hk) rfl rfl hl.1 (Nat.le_of_ble_eq_true rfl) dJ4_append_cf468_2 ⟨Nat.le_of_ble_eq_true rfl, Nat.le_of_ble_eq_true rfl⟩ (fun u H locs hp h => ?_)
  obtain ⟨y_1, hRy, rfl⟩ := hp
  refine lv_pop hx hcd dJ4_append_cf468_5 rfl ?_
  refine lv_aload_n hx hcd dJ4_append_cf468_6 rfl (lv_at hl 0 rfl) ?_
  exact k_reta hQ G hret hlocks h (⟨_, hRy, rfl⟩) (Nat.le_of_ble_eq_true rfl) (Nat.le_of_ble_eq_true rfl) dJ4_append_cf468_7
set_option maxHeartbeats 4000000 in
set_option maxRecDepth 100000 in
/-- Integer.stringSize(v) -/
theorem met_J6_stringSize_0f7a4 (l : Launch) (V : kEnv) (S : kCs) (v0 : Nat) (hv : v0 < 1000) : kI l yJ6_stringSize_0f7a4 cJ6_stringSize_0f7a4 4 (some .int) { frames := 0, cells := 0, slots := 0, locals := 0 } V (cWs V) [.int (nI (v0))] (S) (fun r u => r = nI (dgs v0).length ∧ u = S) 0 0 := by
  refine kI_of (by decide +kernel) (Nat.le_of_ble_eq_true rfl) ?_
  intro p e s m args below meth c G hret hlocks hC hB h ls hl Q hQ
  have hl : lv_has ls 4 [(0, .int (nI (v0)))] := hl
  have hx := G.1
  have hcd := G.2.1
  refine lv_iconst (v := nI 1) hx hcd dJ6_stringSize_0f7a4_0 (by decide) ?_
  refine lv_istore_n (lv' := [(1, .int (nI 1)), (0, .int (nI (v0)))]) hx hcd dJ6_stringSize_0f7a4_1 rfl hl (by decide) rfl (fun ls hl => ?_)
  refine lv_iload_n hx hcd dJ6_stringSize_0f7a4_2 rfl (lv_at hl 1 rfl) ?_
  refine lv_if_lt (tgt := 11) hx hcd dJ6_stringSize_0f7a4_3 (by decide) (fun c_1 => ?_) (fun c_1 => ?_)
  · have c_1 := cLt (tN (n := v0) (by omega)) t0 c_1
    exact absurd c_1 (by omega)
  · have c_1 := cNlt (tN (n := v0) (by omega)) t0 c_1
    refine lv_iconst (v := nI 0) hx hcd dJ6_stringSize_0f7a4_6 (by decide) ?_
    refine lv_istore_n (lv' := [(1, .int (nI 0)), (0, .int (nI (v0)))]) hx hcd dJ6_stringSize_0f7a4_7 rfl hl (by decide) rfl (fun ls hl => ?_)
    refine lv_iload_n hx hcd dJ6_stringSize_0f7a4_8 rfl (lv_at hl 1 rfl) ?_
    refine lv_ineg hx hcd dJ6_stringSize_0f7a4_9 ?_
    refine lv_istore_n (lv' := [(0, .int (-nI (v0))), (1, .int (nI 0))]) hx hcd dJ6_stringSize_0f7a4_10 rfl hl (by decide) rfl (fun ls hl => ?_)
    refine lv_bipush (v := (-10)) hx hcd dJ6_stringSize_0f7a4_11 (by decide) ?_
    refine lv_istore_n (lv' := [(2, .int ((-10))), (0, .int (-nI (v0))), (1, .int (nI 0))]) hx hcd dJ6_stringSize_0f7a4_13 rfl hl (by decide) rfl (fun ls hl => ?_)
    refine lv_iconst (v := nI 1) hx hcd dJ6_stringSize_0f7a4_14 (by decide) ?_
    refine lv_istore_n (lv' := [(3, .int (nI 1)), (2, .int ((-10))), (0, .int (-nI (v0))), (1, .int (nI 0))]) hx hcd dJ6_stringSize_0f7a4_15 rfl hl (by decide) rfl (fun ls hl => ?_)
    refine lv_iload_n hx hcd dJ6_stringSize_0f7a4_16 rfl (lv_at hl 0 rfl) ?_
    refine lv_bipush (v := nI 10) hx hcd dJ6_stringSize_0f7a4_17 (by decide) ?_
    refine lv_icmp_ge (tgt := 42) hx hcd dJ6_stringSize_0f7a4_19 (by decide) (fun c_2 => absurd c_2 (by decide)) (fun _ => ?_)
    refine lv_iload_n hx hcd dJ6_stringSize_0f7a4_22 rfl (lv_at hl 2 rfl) ?_
    refine lv_iload_n hx hcd dJ6_stringSize_0f7a4_23 rfl (lv_at hl 1 rfl) ?_
    refine lv_icmp_le (tgt := 31) hx hcd dJ6_stringSize_0f7a4_24 (by decide) (fun c_3 => ?_) (fun c_3 => ?_)
    · have c_3 := cLe (sb_negT (w := v0) (by omega)) (by decide : ((-10 : Int32)).toInt = (-10 : Int)) c_3
      refine lv_bipush (v := nI 10) hx hcd dJ6_stringSize_0f7a4_31 (by decide) ?_
      refine lv_iload_n hx hcd dJ6_stringSize_0f7a4_33 rfl (lv_at hl 1 rfl) ?_
      refine w_imul (v := (-100)) hx hcd dJ6_stringSize_0f7a4_34 (by decide) ?_
      refine lv_istore_n (lv' := [(2, .int ((-100))), (3, .int (nI 1)), (0, .int (-nI (v0))), (1, .int (nI 0))]) hx hcd dJ6_stringSize_0f7a4_35 rfl hl (by decide) rfl (fun ls hl => ?_)
      refine lv_iinc (v := nI 2) (lv' := [(3, .int (nI 2)), (2, .int ((-100))), (0, .int (-nI (v0))), (1, .int (nI 0))]) hx hcd dJ6_stringSize_0f7a4_36 hl (k := 1) rfl (by decide) (by decide) rfl (fun ls hl => ?_)
      refine lv_goto (tgt := 16) hx hcd dJ6_stringSize_0f7a4_39 (by decide) ?_
      refine lv_iload_n hx hcd dJ6_stringSize_0f7a4_16 rfl (lv_at hl 0 rfl) ?_
      refine lv_bipush (v := nI 10) hx hcd dJ6_stringSize_0f7a4_17 (by decide) ?_
      refine lv_icmp_ge (tgt := 42) hx hcd dJ6_stringSize_0f7a4_19 (by decide) (fun c_4 => absurd c_4 (by decide)) (fun _ => ?_)
      refine lv_iload_n hx hcd dJ6_stringSize_0f7a4_22 rfl (lv_at hl 2 rfl) ?_
      refine lv_iload_n hx hcd dJ6_stringSize_0f7a4_23 rfl (lv_at hl 1 rfl) ?_
      refine lv_icmp_le (tgt := 31) hx hcd dJ6_stringSize_0f7a4_24 (by decide) (fun c_5 => ?_) (fun c_5 => ?_)
      · have c_5 := cLe (sb_negT (w := v0) (by omega)) (by decide : ((-100 : Int32)).toInt = (-100 : Int)) c_5
        refine lv_bipush (v := nI 10) hx hcd dJ6_stringSize_0f7a4_31 (by decide) ?_
        refine lv_iload_n hx hcd dJ6_stringSize_0f7a4_33 rfl (lv_at hl 1 rfl) ?_
        refine w_imul (v := (-1000)) hx hcd dJ6_stringSize_0f7a4_34 (by decide) ?_
        refine lv_istore_n (lv' := [(2, .int ((-1000))), (3, .int (nI 2)), (0, .int (-nI (v0))), (1, .int (nI 0))]) hx hcd dJ6_stringSize_0f7a4_35 rfl hl (by decide) rfl (fun ls hl => ?_)
        refine lv_iinc (v := nI 3) (lv' := [(3, .int (nI 3)), (2, .int ((-1000))), (0, .int (-nI (v0))), (1, .int (nI 0))]) hx hcd dJ6_stringSize_0f7a4_36 hl (k := 1) rfl (by decide) (by decide) rfl (fun ls hl => ?_)
        refine lv_goto (tgt := 16) hx hcd dJ6_stringSize_0f7a4_39 (by decide) ?_
        refine lv_iload_n hx hcd dJ6_stringSize_0f7a4_16 rfl (lv_at hl 0 rfl) ?_
        refine lv_bipush (v := nI 10) hx hcd dJ6_stringSize_0f7a4_17 (by decide) ?_
        refine lv_icmp_ge (tgt := 42) hx hcd dJ6_stringSize_0f7a4_19 (by decide) (fun c_6 => absurd c_6 (by decide)) (fun _ => ?_)
        refine lv_iload_n hx hcd dJ6_stringSize_0f7a4_22 rfl (lv_at hl 2 rfl) ?_
        refine lv_iload_n hx hcd dJ6_stringSize_0f7a4_23 rfl (lv_at hl 1 rfl) ?_
        refine lv_icmp_le (tgt := 31) hx hcd dJ6_stringSize_0f7a4_24 (by decide) (fun c_7 => ?_) (fun c_7 => ?_)
        · have c_7 := cLe (sb_negT (w := v0) (by omega)) (by decide : ((-1000 : Int32)).toInt = (-1000 : Int)) c_7
          exact absurd c_7 (by omega)
        · have c_7 := cNle (sb_negT (w := v0) (by omega)) (by decide : ((-1000 : Int32)).toInt = (-1000 : Int)) c_7
          refine lv_iload_n hx hcd dJ6_stringSize_0f7a4_27 rfl (lv_at hl 0 rfl) ?_
          refine lv_iload_n hx hcd dJ6_stringSize_0f7a4_28 rfl (lv_at hl 3 rfl) ?_
          refine w_iadd (v := nI 3) hx hcd dJ6_stringSize_0f7a4_29 (by decide) ?_
          exact k_reti hQ G hret hlocks h (⟨by unfold dgs; (repeat' split) <;> first | rfl | (exfalso; omega), rfl⟩) (Nat.le_of_ble_eq_true rfl) (Nat.le_of_ble_eq_true rfl) dJ6_stringSize_0f7a4_30
      · have c_5 := cNle (sb_negT (w := v0) (by omega)) (by decide : ((-100 : Int32)).toInt = (-100 : Int)) c_5
        refine lv_iload_n hx hcd dJ6_stringSize_0f7a4_27 rfl (lv_at hl 0 rfl) ?_
        refine lv_iload_n hx hcd dJ6_stringSize_0f7a4_28 rfl (lv_at hl 3 rfl) ?_
        refine w_iadd (v := nI 2) hx hcd dJ6_stringSize_0f7a4_29 (by decide) ?_
        exact k_reti hQ G hret hlocks h (⟨by unfold dgs; (repeat' split) <;> first | rfl | (exfalso; omega), rfl⟩) (Nat.le_of_ble_eq_true rfl) (Nat.le_of_ble_eq_true rfl) dJ6_stringSize_0f7a4_30
    · have c_3 := cNle (sb_negT (w := v0) (by omega)) (by decide : ((-10 : Int32)).toInt = (-10 : Int)) c_3
      refine lv_iload_n hx hcd dJ6_stringSize_0f7a4_27 rfl (lv_at hl 0 rfl) ?_
      refine lv_iload_n hx hcd dJ6_stringSize_0f7a4_28 rfl (lv_at hl 3 rfl) ?_
      refine w_iadd (v := nI 1) hx hcd dJ6_stringSize_0f7a4_29 (by decide) ?_
      exact k_reti hQ G hret hlocks h (⟨by unfold dgs; (repeat' split) <;> first | rfl | (exfalso; omega), rfl⟩) (Nat.le_of_ble_eq_true rfl) (Nat.le_of_ble_eq_true rfl) dJ6_stringSize_0f7a4_30
set_option maxHeartbeats 4000000 in
set_option maxRecDepth 100000 in
/-- Integer.getChars(v, q, bytes) -/
theorem met_J6_getChars_ba4f3 (l : Launch) (V : kEnv) (S : kCs) (k : Nat) (hk : k < 2) (x : kSb) (v0 q : Nat) (hv : v0 < 1000) (hq : (dgs v0).length ≤ q) (hq2 : q ≤ x.2.1) (hx2 : x.2.1 ≤ 120) : kI l yJ6_getChars_ba4f3 cJ6_getChars_ba4f3 7 (some .int) { frames := 1, cells := 0, slots := 0, locals := 24 } V (cWs V) [.int (nI (v0)), .int (nI (q)), .ref (x.2.2.1)] (uPut S k x) (fun r u => u = uPut S k (gch v0 q x.1, x.2)) 0 0 := by
  refine kI_of (by decide +kernel) (Nat.le_of_ble_eq_true rfl) ?_
  intro p e s m args below meth c G hret hlocks hC hB h ls hl Q hQ
  have hl : lv_has ls 7 [(0, .int (nI (v0))), (1, .int (nI (q))), (2, .ref (x.2.2.1))] := hl
  have hx := G.1
  have hcd := G.2.1
  unfold dgs at hq
  refine lv_iload_n hx hcd dJ6_getChars_ba4f3_0 rfl (lv_at hl 1 rfl) ?_
  refine lv_istore (lv' := [(5, .int (nI (q))), (0, .int (nI (v0))), (1, .int (nI (q))), (2, .ref (x.2.2.1))]) hx hcd dJ6_getChars_ba4f3_1 hl (by decide) rfl (fun ls hl => ?_)
  refine lv_iload_n hx hcd dJ6_getChars_ba4f3_3 rfl (lv_at hl 1 rfl) ?_
  refine lv_if_ge (tgt := 11) hx hcd dJ6_getChars_ba4f3_4 (by decide) (fun c_1 => ?_) (fun c_1 => ?_)
  · have c_1 := cLe t0 (tN (n := v0) (by omega)) c_1
    refine lv_iconst (v := nI 0) hx hcd dJ6_getChars_ba4f3_11 (by decide) ?_
    refine lv_istore (lv' := [(6, .int (nI 0)), (5, .int (nI (q))), (0, .int (nI (v0))), (1, .int (nI (q))), (2, .ref (x.2.2.1))]) hx hcd dJ6_getChars_ba4f3_12 hl (by decide) rfl (fun ls hl => ?_)
    refine lv_iload hx hcd dJ6_getChars_ba4f3_14 (lv_at hl 0 rfl) ?_
    refine lv_if_ne (tgt := 22) hx hcd dJ6_getChars_ba4f3_16 (by decide) (fun c_2 => absurd c_2 (by decide)) (fun _ => ?_)
    refine lv_iload_n hx hcd dJ6_getChars_ba4f3_19 rfl (lv_at hl 2 rfl) ?_
    refine lv_ineg hx hcd dJ6_getChars_ba4f3_20 ?_
    refine lv_istore_n (lv' := [(0, .int (-nI (v0))), (6, .int (nI 0)), (5, .int (nI (q))), (1, .int (nI (q))), (2, .ref (x.2.2.1))]) hx hcd dJ6_getChars_ba4f3_21 rfl hl (by decide) rfl (fun ls hl => ?_)
    refine lv_iload_n hx hcd dJ6_getChars_ba4f3_22 rfl (lv_at hl 0 rfl) ?_
    refine lv_bipush (v := (-100)) hx hcd dJ6_getChars_ba4f3_23 (by decide) ?_
    refine lv_icmp_gt (tgt := 72) hx hcd dJ6_getChars_ba4f3_25 (by decide) (fun c_3 => ?_) (fun c_3 => ?_)
    · have c_3 := cLt (by decide : ((-100 : Int32)).toInt = (-100 : Int)) (sb_negT (w := v0) (by omega)) c_3
      have hq1 : 1 ≤ q := by (repeat' split at hq) <;> (try simp at hq) <;> omega
      refine lv_aload_n hx hcd dJ6_getChars_ba4f3_72 rfl (lv_at hl 4 rfl) ?_
      refine lv_iinc (v := nI (q - 1)) (lv' := [(5, .int (nI (q - 1))), (0, .int (-nI (v0))), (6, .int (nI 0)), (1, .int (nI (q))), (2, .ref (x.2.2.1))]) hx hcd dJ6_getChars_ba4f3_73 hl (k := 2) rfl (n_dec (by omega)) (by decide) rfl (fun ls hl => ?_)
      refine lv_iload hx hcd dJ6_getChars_ba4f3_76 (lv_at hl 0 rfl) ?_
      refine r_dO G hC h mw_475 dJ6_getChars_ba4f3_78 ?_
      refine lv_iload_n hx hcd dJ6_getChars_ba4f3_81 rfl (lv_at hl 1 rfl) ?_
      refine lv_ineg hx hcd dJ6_getChars_ba4f3_82 ?_
      rw [show (-(-nI (v0)) : Int32) = nI (v0) from (n_nn _)]
      refine r_dOL G hC h (v0) rfl (by omega) (x := nI (48 + (v0) % 10)) rfl dJ6_getChars_ba4f3_83 ?_
      refine r_xT G hC k (q - 1) h hk rfl (by show q - 1 < x.2.1; omega) (by show x.2.1 < 2 ^ 31; omega) (y := nI (48 + v0 % 10)) (ch_nb (by first | assumption | omega)) dJ6_getChars_ba4f3_84 (fun H locs h => ?_)
      refine lv_iload_n hx hcd dJ6_getChars_ba4f3_85 rfl (lv_at hl 1 rfl) ?_
      refine lv_bipush (v := (-9)) hx hcd dJ6_getChars_ba4f3_86 (by decide) ?_
      refine lv_icmp_ge (tgt := 104) hx hcd dJ6_getChars_ba4f3_88 (by decide) (fun c_4 => ?_) (fun c_4 => ?_)
      · have c_4 := cLe (by decide : ((-9 : Int32)).toInt = (-9 : Int)) (sb_negT (w := v0) (by omega)) c_4
        refine lv_iload hx hcd dJ6_getChars_ba4f3_104 (lv_at hl 2 rfl) ?_
        refine lv_if_eq (tgt := 118) hx hcd dJ6_getChars_ba4f3_106 (by decide) (fun _ => ?_) (fun c_5 => absurd c_5 (by decide))
        refine lv_iload hx hcd dJ6_getChars_ba4f3_118 (lv_at hl 0 rfl) ?_
        exact k_reti hQ G hret hlocks h (congrArg (uPut S k) (Prod.ext (by unfold gch; first | (rw [if_pos (by omega)]; done) | (rw [if_neg (by omega), if_pos (by omega)]; done) | (rw [if_neg (by omega), if_neg (by omega)]; done)) rfl)) (Nat.le_of_ble_eq_true rfl) (Nat.le_of_ble_eq_true rfl) dJ6_getChars_ba4f3_120
      · have c_4 := cNle (by decide : ((-9 : Int32)).toInt = (-9 : Int)) (sb_negT (w := v0) (by omega)) c_4
        have hq2 : 2 ≤ q := by (repeat' split at hq) <;> (try simp at hq) <;> omega
        refine lv_aload_n hx hcd dJ6_getChars_ba4f3_91 rfl (lv_at hl 4 rfl) ?_
        refine lv_iinc (v := nI ((q - 1) - 1)) (lv' := [(5, .int (nI ((q - 1) - 1))), (0, .int (-nI (v0))), (6, .int (nI 0)), (1, .int (nI (q))), (2, .ref (x.2.2.1))]) hx hcd dJ6_getChars_ba4f3_92 hl (k := 0) rfl (n_dec (by omega)) (by decide) rfl (fun ls hl => ?_)
        refine lv_iload hx hcd dJ6_getChars_ba4f3_95 (lv_at hl 0 rfl) ?_
        refine r_dT G hC h mw_477 dJ6_getChars_ba4f3_97 ?_
        refine lv_iload_n hx hcd dJ6_getChars_ba4f3_100 rfl (lv_at hl 1 rfl) ?_
        refine lv_ineg hx hcd dJ6_getChars_ba4f3_101 ?_
        rw [show (-(-nI (v0)) : Int32) = nI (v0) from (n_nn _)]
        refine r_dTL G hC h (v0) rfl (by omega) (x := nI (48 + (v0) / 10)) rfl dJ6_getChars_ba4f3_102 ?_
        refine r_xT G hC k ((q - 1) - 1) h hk rfl (by show (q - 1) - 1 < x.2.1; omega) (by show x.2.1 < 2 ^ 31; omega) (y := nI (48 + v0 / 10)) (ch_nb (by first | assumption | omega)) dJ6_getChars_ba4f3_103 (fun H locs h => ?_)
        refine lv_iload hx hcd dJ6_getChars_ba4f3_104 (lv_at hl 2 rfl) ?_
        refine lv_if_eq (tgt := 118) hx hcd dJ6_getChars_ba4f3_106 (by decide) (fun _ => ?_) (fun c_6 => absurd c_6 (by decide))
        refine lv_iload hx hcd dJ6_getChars_ba4f3_118 (lv_at hl 0 rfl) ?_
        exact k_reti hQ G hret hlocks h (congrArg (uPut S k) (Prod.ext (by unfold gch; first | (rw [if_pos (by omega)]; done) | (rw [if_neg (by omega), if_pos (by omega)]; done) | (rw [if_neg (by omega), if_neg (by omega)]; done)) rfl)) (Nat.le_of_ble_eq_true rfl) (Nat.le_of_ble_eq_true rfl) dJ6_getChars_ba4f3_120
    · have c_3 := cNlt (by decide : ((-100 : Int32)).toInt = (-100 : Int)) (sb_negT (w := v0) (by omega)) c_3
      try simp only [show ¬ v0 < 10 by omega, show ¬ v0 < 100 by omega, if_false, List.length_cons, List.length_nil] at hq
      refine lv_iload_n hx hcd dJ6_getChars_ba4f3_28 rfl (lv_at hl 0 rfl) ?_
      refine lv_bipush (v := nI 100) hx hcd dJ6_getChars_ba4f3_29 (by decide) ?_
      refine w_idiv (v := -nI (v0 / 100)) hx hcd dJ6_getChars_ba4f3_31 (by decide) (sb_ndiv (w := v0) (by omega)) ?_
      refine lv_istore_n (lv' := [(3, .int (-nI (v0 / 100))), (0, .int (-nI (v0))), (6, .int (nI 0)), (5, .int (nI (q))), (1, .int (nI (q))), (2, .ref (x.2.2.1))]) hx hcd dJ6_getChars_ba4f3_32 rfl hl (by decide) rfl (fun ls hl => ?_)
      refine lv_iload_n hx hcd dJ6_getChars_ba4f3_33 rfl (lv_at hl 0 rfl) ?_
      refine lv_bipush (v := nI 100) hx hcd dJ6_getChars_ba4f3_34 (by decide) ?_
      refine w_imul (v := (-nI (v0 / 100)) * 100) hx hcd dJ6_getChars_ba4f3_36 rfl ?_
      refine lv_iload_n hx hcd dJ6_getChars_ba4f3_37 rfl (lv_at hl 1 rfl) ?_
      refine w_isub (v := nI (v0 % 100)) hx hcd dJ6_getChars_ba4f3_38 (sb_nrem (w := v0) (by omega)) ?_
      refine lv_istore (lv' := [(4, .int (nI (v0 % 100))), (3, .int (-nI (v0 / 100))), (0, .int (-nI (v0))), (6, .int (nI 0)), (5, .int (nI (q))), (1, .int (nI (q))), (2, .ref (x.2.2.1))]) hx hcd dJ6_getChars_ba4f3_39 hl (by decide) rfl (fun ls hl => ?_)
      refine lv_iload_n hx hcd dJ6_getChars_ba4f3_41 rfl (lv_at hl 1 rfl) ?_
      refine lv_istore_n (lv' := [(0, .int (-nI (v0 / 100))), (4, .int (nI (v0 % 100))), (3, .int (-nI (v0 / 100))), (6, .int (nI 0)), (5, .int (nI (q))), (1, .int (nI (q))), (2, .ref (x.2.2.1))]) hx hcd dJ6_getChars_ba4f3_42 rfl hl (by decide) rfl (fun ls hl => ?_)
      refine lv_aload_n hx hcd dJ6_getChars_ba4f3_43 rfl (lv_at hl 6 rfl) ?_
      refine lv_iinc (v := nI (q - 1)) (lv' := [(5, .int (nI (q - 1))), (0, .int (-nI (v0 / 100))), (4, .int (nI (v0 % 100))), (3, .int (-nI (v0 / 100))), (6, .int (nI 0)), (1, .int (nI (q))), (2, .ref (x.2.2.1))]) hx hcd dJ6_getChars_ba4f3_44 hl (k := 4) rfl (n_dec (by omega)) (by decide) rfl (fun ls hl => ?_)
      refine lv_iload hx hcd dJ6_getChars_ba4f3_47 (lv_at hl 0 rfl) ?_
      refine r_dO G hC h mw_475 dJ6_getChars_ba4f3_49 ?_
      refine lv_iload hx hcd dJ6_getChars_ba4f3_52 (lv_at hl 2 rfl) ?_
      refine r_dOL G hC h (v0 % 100) rfl (by omega) (x := nI (48 + (v0 % 100) % 10)) rfl dJ6_getChars_ba4f3_54 ?_
      refine r_xT G hC k (q - 1) h hk rfl (by show q - 1 < x.2.1; omega) (by show x.2.1 < 2 ^ 31; omega) (y := nI (48 + (v0 % 100) % 10)) (ch_nb (by first | assumption | omega)) dJ6_getChars_ba4f3_55 (fun H locs h => ?_)
      refine lv_aload_n hx hcd dJ6_getChars_ba4f3_56 rfl (lv_at hl 6 rfl) ?_
      refine lv_iinc (v := nI ((q - 1) - 1)) (lv' := [(5, .int (nI ((q - 1) - 1))), (0, .int (-nI (v0 / 100))), (4, .int (nI (v0 % 100))), (3, .int (-nI (v0 / 100))), (6, .int (nI 0)), (1, .int (nI (q))), (2, .ref (x.2.2.1))]) hx hcd dJ6_getChars_ba4f3_57 hl (k := 0) rfl (n_dec (by omega)) (by decide) rfl (fun ls hl => ?_)
      refine lv_iload hx hcd dJ6_getChars_ba4f3_60 (lv_at hl 0 rfl) ?_
      refine r_dT G hC h mw_477 dJ6_getChars_ba4f3_62 ?_
      refine lv_iload hx hcd dJ6_getChars_ba4f3_65 (lv_at hl 2 rfl) ?_
      refine r_dTL G hC h (v0 % 100) rfl (by omega) (x := nI (48 + (v0 % 100) / 10)) rfl dJ6_getChars_ba4f3_67 ?_
      refine r_xT G hC k ((q - 1) - 1) h hk rfl (by show (q - 1) - 1 < x.2.1; omega) (by show x.2.1 < 2 ^ 31; omega) (y := nI (48 + (v0 % 100) / 10)) (ch_nb (by first | assumption | omega)) dJ6_getChars_ba4f3_68 (fun H locs h => ?_)
      refine lv_goto (tgt := 22) hx hcd dJ6_getChars_ba4f3_69 (by decide) ?_
      refine lv_iload_n hx hcd dJ6_getChars_ba4f3_22 rfl (lv_at hl 1 rfl) ?_
      refine lv_bipush (v := (-100)) hx hcd dJ6_getChars_ba4f3_23 (by decide) ?_
      refine lv_icmp_gt (tgt := 72) hx hcd dJ6_getChars_ba4f3_25 (by decide) (fun c_8 => ?_) (fun c_8 => ?_)
      · have c_8 := cLt (by decide : ((-100 : Int32)).toInt = (-100 : Int)) (sb_negT (w := v0 / 100) (by omega)) c_8
        have hq1 : 1 ≤ q := by (repeat' split at hq) <;> (try simp at hq) <;> omega
        refine lv_aload_n hx hcd dJ6_getChars_ba4f3_72 rfl (lv_at hl 6 rfl) ?_
        refine lv_iinc (v := nI (((q - 1) - 1) - 1)) (lv' := [(5, .int (nI (((q - 1) - 1) - 1))), (0, .int (-nI (v0 / 100))), (4, .int (nI (v0 % 100))), (3, .int (-nI (v0 / 100))), (6, .int (nI 0)), (1, .int (nI (q))), (2, .ref (x.2.2.1))]) hx hcd dJ6_getChars_ba4f3_73 hl (k := 0) rfl (n_dec (by omega)) (by decide) rfl (fun ls hl => ?_)
        refine lv_iload hx hcd dJ6_getChars_ba4f3_76 (lv_at hl 0 rfl) ?_
        refine r_dO G hC h mw_475 dJ6_getChars_ba4f3_78 ?_
        refine lv_iload_n hx hcd dJ6_getChars_ba4f3_81 rfl (lv_at hl 1 rfl) ?_
        refine lv_ineg hx hcd dJ6_getChars_ba4f3_82 ?_
        rw [show (-(-nI (v0 / 100)) : Int32) = nI (v0 / 100) from (n_nn _)]
        refine r_dOL G hC h (v0 / 100) rfl (by omega) (x := nI (48 + (v0 / 100) % 10)) rfl dJ6_getChars_ba4f3_83 ?_
        refine r_xT G hC k (((q - 1) - 1) - 1) h hk rfl (by show ((q - 1) - 1) - 1 < x.2.1; omega) (by show x.2.1 < 2 ^ 31; omega) (y := nI (48 + (v0 / 100) % 10)) (ch_nb (by first | assumption | omega)) dJ6_getChars_ba4f3_84 (fun H locs h => ?_)
        refine lv_iload_n hx hcd dJ6_getChars_ba4f3_85 rfl (lv_at hl 1 rfl) ?_
        refine lv_bipush (v := (-9)) hx hcd dJ6_getChars_ba4f3_86 (by decide) ?_
        refine lv_icmp_ge (tgt := 104) hx hcd dJ6_getChars_ba4f3_88 (by decide) (fun c_9 => ?_) (fun c_9 => ?_)
        · have c_9 := cLe (by decide : ((-9 : Int32)).toInt = (-9 : Int)) (sb_negT (w := v0 / 100) (by omega)) c_9
          refine lv_iload hx hcd dJ6_getChars_ba4f3_104 (lv_at hl 4 rfl) ?_
          refine lv_if_eq (tgt := 118) hx hcd dJ6_getChars_ba4f3_106 (by decide) (fun _ => ?_) (fun c_10 => absurd c_10 (by decide))
          refine lv_iload hx hcd dJ6_getChars_ba4f3_118 (lv_at hl 0 rfl) ?_
          exact k_reti hQ G hret hlocks h (congrArg (uPut S k) (Prod.ext (by unfold gch; first | (rw [if_pos (by omega)]; done) | (rw [if_neg (by omega), if_pos (by omega)]; done) | (rw [if_neg (by omega), if_neg (by omega)]; done)) rfl)) (Nat.le_of_ble_eq_true rfl) (Nat.le_of_ble_eq_true rfl) dJ6_getChars_ba4f3_120
        · have c_9 := cNle (by decide : ((-9 : Int32)).toInt = (-9 : Int)) (sb_negT (w := v0 / 100) (by omega)) c_9
          have hq2 : 2 ≤ q := by (repeat' split at hq) <;> (try simp at hq) <;> omega
          exact absurd c_9 (by omega)
      · have c_8 := cNlt (by decide : ((-100 : Int32)).toInt = (-100 : Int)) (sb_negT (w := v0 / 100) (by omega)) c_8
        try simp only [show ¬ v0 < 10 by omega, show ¬ v0 < 100 by omega, if_false, List.length_cons, List.length_nil] at hq
        exact absurd c_8 (by omega)
  · have c_1 := cNle t0 (tN (n := v0) (by omega)) c_1
    exact absurd c_1 (by omega)
set_option maxHeartbeats 4000000 in
set_option maxRecDepth 100000 in
/-- append(int) -/
theorem met_J5_append_c97b9 (l : Launch) (V : kEnv)  (hV : kOk V) (S : kCs) (k : Nat) (hk : k < 2) (x : kSb) (L : List Nat) (hR : sbR x L) (q : Nat) (hq : q < 1000) (hL : L.length + 3 ≤ 60) : kR l yJ5_append_c97b9 cJ5_append_c97b9 4 (some (.object "java/lang/AbstractStringBuilder")) { frames := 4, cells := 1, slots := 120, locals := 112 } V (cWs V) [.ref (eX V (104 + k)), .int (nI (q))] (uPut S k x) (fun u => ∃ y, sbR y (L ++ dgs q) ∧ u = uPut S k y) (eX V (104 + k)) 1 120 := by
  refine kR_of (by decide +kernel) (Nat.le_of_ble_eq_true rfl) ?_
  intro p e s m args below meth c G hret hlocks hC hB h ls hl Q hQ
  have hl : lv_has ls 4 [(0, .ref (eX V (104 + k))), (1, .int (nI (q)))] := hl
  have hx := G.1
  have hcd := G.2.1
  have hR0 := hR
  obtain ⟨r1, r2, r3, r4, r5⟩ := hR0
  have e1 : x.2.2.2.1 = L.length := hR.1
  have hdl := dgs_len q
  refine lv_aload_n hx hcd dJ5_append_c97b9_0 rfl (lv_at hl 0 rfl) ?_
  refine r_uF G hC h k 3 hk (by decide) mw_206 (v := .int (nI (x.2.2.2.1))) (by rw [uPut_at]; rfl) dJ5_append_c97b9_1 ?_
  refine lv_istore_n (lv' := [(2, .int (nI (x.2.2.2.1))), (0, .ref (eX V (104 + k))), (1, .int (nI (q)))]) hx hcd dJ5_append_c97b9_4 rfl hl (by decide) rfl (fun ls hl => ?_)
  refine lv_iload_n hx hcd dJ5_append_c97b9_5 rfl (lv_at hl 0 rfl) ?_
  refine lv_iload_n hx hcd dJ5_append_c97b9_6 rfl (lv_at hl 2 rfl) ?_
  refine k_Si (As := [.int (nI (q))]) (rest := [.int (nI (x.2.2.2.1))]) G hC hB h (met_J6_stringSize_0f7a4 l V (uPut S k x) q (by first | assumption | omega)) mw_469 ks_J6_stringSize_0f7a4 ⟨rfl, rfl⟩ ⟨Nat.le_of_ble_eq_true rfl, Nat.le_of_ble_eq_true rfl⟩ rfl rfl hl.1 (Nat.le_of_ble_eq_true rfl) dJ5_append_c97b9_7 ⟨Nat.le_of_ble_eq_true rfl, Nat.le_of_ble_eq_true rfl⟩ (fun r u H locs hp h => ?_)
  obtain ⟨rfl, hu⟩ := hp; rw [hu] at h
  refine w_iadd (v := nI (x.2.2.2.1 + ((dgs q).length))) hx hcd dJ5_append_c97b9_10 (nI_add _ _) ?_
  refine lv_istore_n (lv' := [(3, .int (nI (x.2.2.2.1 + ((dgs q).length)))), (2, .int (nI (x.2.2.2.1))), (0, .ref (eX V (104 + k))), (1, .int (nI (q)))]) hx hcd dJ5_append_c97b9_11 rfl hl (by decide) rfl (fun ls hl => ?_)
  refine lv_aload_n hx hcd dJ5_append_c97b9_12 rfl (lv_at hl 2 rfl) ?_
  refine lv_iload_n hx hcd dJ5_append_c97b9_13 rfl (lv_at hl 0 rfl) ?_
  refine k_Wv (As := [.int (nI (x.2.2.2.1 + ((dgs q).length)))]) (rest := []) (b := eX V (104 + k)) G hC hB h (met_J5_ensureCapacityInternal_d00df l V hV S k hk x L hR (x.2.2.2.1 + ((dgs q).length)) (by omega)) mw_353 kw_J5_ensureCapacityInternal_d00df ⟨rfl, rfl⟩ ⟨Nat.le_of_ble_eq_true rfl, Nat.le_of_ble_eq_true rfl⟩ (r_uV hC h k hk) rfl rfl hl.1 (Nat.le_of_ble_eq_true rfl) dJ5_append_c97b9_14 ⟨Nat.le_of_ble_eq_true rfl, Nat.le_of_ble_eq_true rfl⟩ (fun u H locs hp h => ?_)
  obtain ⟨y_2, hRy, hqy, rfl⟩ := hp
  have hRy0 := hRy
  obtain ⟨r1, r2, r3, r4, r5⟩ := hRy0
  refine lv_aload_n hx hcd dJ5_append_c97b9_17 rfl (lv_at hl 2 rfl) ?_
  refine k_Ui (C := RJ4) (As := []) (rest := []) (b := eX V (104 + k)) G hC hB h (met_J5_isLatin1_aae02 l V (uPut S k y_2) k hk) mw_388 ku_J5_isLatin1_aae02 ⟨rfl, rfl⟩ ⟨Nat.le_of_ble_eq_true rfl, Nat.le_of_ble_eq_true rfl⟩ (r_uV hC h k hk) rfl rfl hl.1 (Nat.le_of_ble_eq_true rfl) dJ5_append_c97b9_18 ⟨Nat.le_of_ble_eq_true rfl, Nat.le_of_ble_eq_true rfl⟩ (fun r u H locs hp h => ?_)
  obtain ⟨rfl, hu⟩ := hp; rw [hu] at h
  refine lv_if_eq (tgt := 37) hx hcd dJ5_append_c97b9_21 (by decide) (fun c_3 => absurd c_3 (by decide)) (fun _ => ?_)
  refine lv_iload_n hx hcd dJ5_append_c97b9_24 rfl (lv_at hl 3 rfl) ?_
  refine lv_iload_n hx hcd dJ5_append_c97b9_25 rfl (lv_at hl 0 rfl) ?_
  refine lv_aload_n hx hcd dJ5_append_c97b9_26 rfl (lv_at hl 2 rfl) ?_
  refine r_uF G hC h k 0 hk (by decide) mw_202 (v := .ref (y_2.2.2.1)) (by rw [uPut_at]; rfl) dJ5_append_c97b9_27 ?_
  refine k_Si (As := [.int (nI (q)), .int (nI (x.2.2.2.1 + ((dgs q).length))), .ref (y_2.2.2.1)]) (rest := []) G hC hB h (met_J6_getChars_ba4f3 l V S k hk y_2 q (x.2.2.2.1 + ((dgs q).length)) (by first | assumption | omega) (by omega) (by omega) (by omega)) mw_472 ks_J6_getChars_ba4f3 ⟨rfl, rfl⟩ ⟨Nat.le_of_ble_eq_true rfl, Nat.le_of_ble_eq_true rfl⟩ rfl rfl hl.1 (Nat.le_of_ble_eq_true rfl) dJ5_append_c97b9_30 ⟨Nat.le_of_ble_eq_true rfl, Nat.le_of_ble_eq_true rfl⟩ (fun r u H locs hp h => ?_)
  obtain rfl := hp
  refine lv_pop hx hcd dJ5_append_c97b9_33 rfl ?_
  refine lv_goto (tgt := 48) hx hcd dJ5_append_c97b9_34 (by decide) ?_
  refine lv_aload_n hx hcd dJ5_append_c97b9_48 rfl (lv_at hl 2 rfl) ?_
  refine lv_iload_n hx hcd dJ5_append_c97b9_49 rfl (lv_at hl 0 rfl) ?_
  refine r_uP G hC h k 3 hk (by decide) mw_206 (y := (gch q (x.2.2.2.1 + ((dgs q).length)) y_2.1, y_2.2.1, y_2.2.2.1, x.2.2.2.1 + ((dgs q).length), y_2.2.2.2.2)) (fun z => absurd z (by decide)) (by rw [uPut_at]) (by rw [uPut_at]) (by rw [uPut_at]) (by rw [uPut_at]; rfl) (uPut_set _ _ _ _) dJ5_append_c97b9_50 (fun H locs h => ?_)
  refine lv_aload_n hx hcd dJ5_append_c97b9_53 rfl (lv_at hl 2 rfl) ?_
  exact k_reta hQ G hret hlocks h (⟨_, sb_appI hRy hq (by omega), congrArg (uPut S k) (by rw [e1])⟩) (Nat.le_of_ble_eq_true rfl) (Nat.le_of_ble_eq_true rfl) dJ5_append_c97b9_54
set_option maxHeartbeats 4000000 in
set_option maxRecDepth 100000 in
/-- StringBuilder.append(int) -/
theorem met_J4_append_bf812 (l : Launch) (V : kEnv)  (hV : kOk V) (S : kCs) (k : Nat) (hk : k < 2) (x : kSb) (L : List Nat) (hR : sbR x L) (q : Nat) (hq : q < 1000) (hL : L.length + 3 ≤ 60) : kR l yJ4_append_bf812 cJ4_append_bf812 2 (some (.object "java/lang/StringBuilder")) { frames := 5, cells := 1, slots := 120, locals := 135 } V (cWs V) [.ref (eX V (104 + k)), .int (nI (q))] (uPut S k x) (fun u => ∃ y, sbR y (L ++ dgs q) ∧ u = uPut S k y) (eX V (104 + k)) 1 120 := by
  refine kR_of (by decide +kernel) (Nat.le_of_ble_eq_true rfl) ?_
  intro p e s m args below meth c G hret hlocks hC hB h ls hl Q hQ
  have hl : lv_has ls 2 [(0, .ref (eX V (104 + k))), (1, .int (nI (q)))] := hl
  have hx := G.1
  have hcd := G.2.1
  refine lv_aload_n hx hcd dJ4_append_bf812_0 rfl (lv_at hl 0 rfl) ?_
  refine lv_iload_n hx hcd dJ4_append_bf812_1 rfl (lv_at hl 1 rfl) ?_
  refine k_Pr (As := [.int (nI (q))]) (rest := []) (b := eX V (104 + k)) ((hC.1.1 1 _ rfl).2) G hC hB h (met_J5_append_c97b9 l V hV S k hk x L hR q hq hL) mw_466 kp_J5_append_c97b9 ⟨rfl, rfl⟩ ⟨Nat.le_of_ble_eq_true rfl, Nat.le_of_ble_eq_true rfl⟩ (r_uV hC h k hk) rfl rfl hl.1 (Nat.le_of_ble_eq_true rfl) dJ4_append_bf812_2 ⟨Nat.le_of_ble_eq_true rfl, Nat.le_of_ble_eq_true rfl⟩ (fun u H locs hp h => ?_)
  obtain ⟨y_1, hRy, rfl⟩ := hp
  refine lv_pop hx hcd dJ4_append_bf812_5 rfl ?_
  refine lv_aload_n hx hcd dJ4_append_bf812_6 rfl (lv_at hl 0 rfl) ?_
  exact k_reta hQ G hret hlocks h (⟨_, hRy, rfl⟩) (Nat.le_of_ble_eq_true rfl) (Nat.le_of_ble_eq_true rfl) dJ4_append_bf812_7
set_option maxHeartbeats 4000000 in
set_option maxRecDepth 100000 in
/-- setLength(0) -/
theorem met_J5_setLength_d00df (l : Launch) (V : kEnv)  (hV : kOk V) (S : kCs) (k : Nat) (hk : k < 2) (x : kSb) (L : List Nat) (hR : sbR x L) : kU l yJ5_setLength_d00df cJ5_setLength_d00df 2 { frames := 4, cells := 1, slots := 120, locals := 112 } V (cWs V) [.ref (eX V (104 + k)), .int (nI 0)] (uPut S k x) (fun u => ∃ y, sbR y [] ∧ u = uPut S k y) 1 120 := by
  refine kU_of (by decide +kernel) (Nat.le_of_ble_eq_true rfl) ?_
  intro p e s m args below meth c G hret hlocks hC hB h ls hl Q hQ
  have hl : lv_has ls 2 [(0, .ref (eX V (104 + k))), (1, .int (nI 0))] := hl
  have hx := G.1
  have hcd := G.2.1
  have hR0 := hR
  obtain ⟨r1, r2, r3, r4, r5⟩ := hR0
  refine lv_iload_n hx hcd dJ5_setLength_d00df_0 rfl (lv_at hl 1 rfl) ?_
  refine lv_if_ge (tgt := 13) hx hcd dJ5_setLength_d00df_1 (by decide) (fun _ => ?_) (fun c_1 => absurd c_1 (by decide))
  refine lv_aload_n hx hcd dJ5_setLength_d00df_13 rfl (lv_at hl 0 rfl) ?_
  refine lv_iload_n hx hcd dJ5_setLength_d00df_14 rfl (lv_at hl 1 rfl) ?_
  refine k_Wv (As := [.int (nI 0)]) (rest := []) (b := eX V (104 + k)) G hC hB h (met_J5_ensureCapacityInternal_d00df l V hV S k hk x L hR 0 (by omega)) mw_353 kw_J5_ensureCapacityInternal_d00df ⟨rfl, rfl⟩ ⟨Nat.le_of_ble_eq_true rfl, Nat.le_of_ble_eq_true rfl⟩ (r_uV hC h k hk) rfl rfl hl.1 (Nat.le_of_ble_eq_true rfl) dJ5_setLength_d00df_15 ⟨Nat.le_of_ble_eq_true rfl, Nat.le_of_ble_eq_true rfl⟩ (fun u H locs hp h => ?_)
  obtain ⟨y_2, hRy, hqy, rfl⟩ := hp
  have hRy0 := hRy
  obtain ⟨r1, r2, r3, r4, r5⟩ := hRy0
  refine lv_aload_n hx hcd dJ5_setLength_d00df_18 rfl (lv_at hl 0 rfl) ?_
  refine r_uF G hC h k 3 hk (by decide) mw_206 (v := .int (nI (y_2.2.2.2.1))) (by rw [uPut_at]; rfl) dJ5_setLength_d00df_19 ?_
  refine lv_iload_n hx hcd dJ5_setLength_d00df_22 rfl (lv_at hl 1 rfl) ?_
  refine lv_icmp_ge (tgt := 63) hx hcd dJ5_setLength_d00df_23 (by decide) (fun c_3 => ?_) (fun c_3 => ?_)
  · have c_3 := cLe (tN (n := 0) (by decide)) (tN (n := y_2.2.2.2.1) (by omega)) c_3
    refine lv_aload_n hx hcd dJ5_setLength_d00df_63 rfl (lv_at hl 0 rfl) ?_
    refine r_uF G hC h k 3 hk (by decide) mw_206 (v := .int (nI (y_2.2.2.2.1))) (by rw [uPut_at]; rfl) dJ5_setLength_d00df_64 ?_
    refine lv_iload_n hx hcd dJ5_setLength_d00df_67 rfl (lv_at hl 1 rfl) ?_
    refine lv_icmp_le (tgt := 76) hx hcd dJ5_setLength_d00df_68 (by decide) (fun c_4 => ?_) (fun c_4 => ?_)
    · have c_4 := cLe (tN (n := y_2.2.2.2.1) (by omega)) (tN (n := 0) (by decide)) c_4
      refine lv_aload_n hx hcd dJ5_setLength_d00df_76 rfl (lv_at hl 0 rfl) ?_
      refine lv_iload_n hx hcd dJ5_setLength_d00df_77 rfl (lv_at hl 1 rfl) ?_
      refine r_uP G hC h k 3 hk (by decide) mw_206 (y := (y_2.1, y_2.2.1, y_2.2.2.1, 0, y_2.2.2.2.2)) (fun z => absurd z (by decide)) (by rw [uPut_at]) (by rw [uPut_at]) (by rw [uPut_at]) (by rw [uPut_at]; rfl) (uPut_set _ _ _ _) dJ5_setLength_d00df_78 (fun H locs h => ?_)
      exact k_retv hQ G hret hlocks h (⟨_, sb_zero hRy _, rfl⟩) (Nat.le_of_ble_eq_true rfl) (Nat.le_of_ble_eq_true rfl) dJ5_setLength_d00df_81
    · have c_4 := cNle (tN (n := y_2.2.2.2.1) (by omega)) (tN (n := 0) (by decide)) c_4
      refine lv_aload_n hx hcd dJ5_setLength_d00df_71 rfl (lv_at hl 0 rfl) ?_
      refine lv_iconst (v := nI 1) hx hcd dJ5_setLength_d00df_72 (by decide) ?_
      refine r_uP G hC h k 2 hk (by decide) mw_204 (y := (y_2.1, y_2.2.1, y_2.2.2.1, y_2.2.2.2.1, nI 1)) (fun _ => Or.inr rfl) (by rw [uPut_at]) (by rw [uPut_at]) (by rw [uPut_at]) (by rw [uPut_at]; rfl) (uPut_set _ _ _ _) dJ5_setLength_d00df_73 (fun H locs h => ?_)
      refine lv_aload_n hx hcd dJ5_setLength_d00df_76 rfl (lv_at hl 0 rfl) ?_
      refine lv_iload_n hx hcd dJ5_setLength_d00df_77 rfl (lv_at hl 1 rfl) ?_
      refine r_uP G hC h k 3 hk (by decide) mw_206 (y := (y_2.1, y_2.2.1, y_2.2.2.1, 0, nI 1)) (fun z => absurd z (by decide)) (by rw [uPut_at]) (by rw [uPut_at]) (by rw [uPut_at]) (by rw [uPut_at]; rfl) (uPut_set _ _ _ _) dJ5_setLength_d00df_78 (fun H locs h => ?_)
      exact k_retv hQ G hret hlocks h (⟨_, sb_zero hRy _, rfl⟩) (Nat.le_of_ble_eq_true rfl) (Nat.le_of_ble_eq_true rfl) dJ5_setLength_d00df_81
  · have c_3 := cNle (tN (n := 0) (by decide)) (tN (n := y_2.2.2.2.1) (by omega)) c_3
    exact absurd c_3 (by omega)
set_option maxHeartbeats 4000000 in
set_option maxRecDepth 100000 in
/-- StringBuilder.setLength(0) -/
theorem met_J4_setLength_d00df (l : Launch) (V : kEnv)  (hV : kOk V) (S : kCs) (k : Nat) (hk : k < 2) (x : kSb) (L : List Nat) (hR : sbR x L) : kU l yJ4_setLength_d00df cJ4_setLength_d00df 2 { frames := 5, cells := 1, slots := 120, locals := 133 } V (cWs V) [.ref (eX V (104 + k)), .int (nI 0)] (uPut S k x) (fun u => ∃ y, sbR y [] ∧ u = uPut S k y) 1 120 := by
  refine kU_of (by decide +kernel) (Nat.le_of_ble_eq_true rfl) ?_
  intro p e s m args below meth c G hret hlocks hC hB h ls hl Q hQ
  have hl : lv_has ls 2 [(0, .ref (eX V (104 + k))), (1, .int (nI 0))] := hl
  have hx := G.1
  have hcd := G.2.1
  refine lv_aload_n hx hcd dJ4_setLength_d00df_0 rfl (lv_at hl 0 rfl) ?_
  refine lv_iload_n hx hcd dJ4_setLength_d00df_1 rfl (lv_at hl 1 rfl) ?_
  refine k_Pv (As := [.int (nI 0)]) (rest := []) (b := eX V (104 + k)) ((hC.1.1 1 _ rfl).2) G hC hB h (met_J5_setLength_d00df l V hV S k hk x L hR ) mw_331 kp_J5_setLength_d00df ⟨rfl, rfl⟩ ⟨Nat.le_of_ble_eq_true rfl, Nat.le_of_ble_eq_true rfl⟩ (r_uV hC h k hk) rfl rfl hl.1 (Nat.le_of_ble_eq_true rfl) dJ4_setLength_d00df_2 ⟨Nat.le_of_ble_eq_true rfl, Nat.le_of_ble_eq_true rfl⟩ (fun u H locs hp h => ?_)
  obtain ⟨y_1, hRy, rfl⟩ := hp
  exact k_retv hQ G hret hlocks h (⟨_, hRy, rfl⟩) (Nat.le_of_ble_eq_true rfl) (Nat.le_of_ble_eq_true rfl) dJ4_setLength_d00df_5
