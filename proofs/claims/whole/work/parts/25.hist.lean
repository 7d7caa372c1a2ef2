def histS (S : kCs) (a nx sz : Nat) : kCs := sPut (sPut (setB S (4 + nx % 8) (S.1 a)) 3 (nI (nx + 1))) 4 (nI (min (sz + 1) 8))
def tbkS (S : kCs) (a nx sz : Nat) : kCs := sPut (sPut (setB S a (S.1 (4 + (nx - 1) % 8))) 3 (nI (nx - 1))) 4 (nI (sz - 1))
/-- the closure row: its first i places hold c -/
def clW (T : kCs) (i : Nat) (c : Nat → Nat) : kCs := (T.1, T.2.1, va_up T.2.2.1 0 (fun k => if k < i then nI (c k) else T.2.2.1 0 k), T.2.2.2)
theorem clW_0 (T : kCs) (c : Nat → Nat) : clW T 0 c = T := by
  unfold clW
  have : va_up T.2.2.1 0 (fun k => if k < 0 then nI (c k) else T.2.2.1 0 k) = T.2.2.1 := by
    funext j
    simp only [va_up]
    split
    · rename_i h; subst h; funext k; rw [if_neg (Nat.not_lt_zero _)]
    · rfl
  rw [this]
theorem clW_s (T : kCs) (i : Nat) (c : Nat → Nat) : aPut (clW T i c) 0 i (nI (c i)) = clW T (i + 1) c := by
  unfold aPut clW
  refine congrArg (fun z : Nat → Nat → Int32 => (T.1, T.2.1, z, T.2.2.2)) (funext fun j => ?_)
  simp only [va_up]
  by_cases h : j = 0
  · rw [if_pos h, if_pos h]
    funext k
    show (if k = i then nI (c i) else if k < i then nI (c k) else T.2.2.1 0 k) = if k < i + 1 then nI (c k) else T.2.2.1 0 k
    by_cases h1 : k = i
    · subst h1; rw [if_pos rfl, if_pos (by omega)]
    · rw [if_neg h1]
      by_cases h2 : k < i
      · rw [if_pos h2, if_pos (by omega)]
      · rw [if_neg h2, if_neg (by omega)]
  · rw [if_neg h, if_neg h, if_neg h]
theorem clW_t (T : kCs) (c : Nat → Nat) {j : Nat} (hj : j < 16) (v : Nat) : aPut (clW T 16 c) 0 j (nI v) = clW T 16 (va_up c j v) := by
  unfold aPut clW
  refine congrArg (fun z : Nat → Nat → Int32 => (T.1, T.2.1, z, T.2.2.2)) (funext fun i => ?_)
  simp only [va_up]
  by_cases h : i = 0
  · rw [if_pos h, if_pos h]
    funext k
    show (if k = j then nI v else if k < 16 then nI (c k) else T.2.2.1 0 k) = if k < 16 then nI (if k = j then v else c k) else T.2.2.1 0 k
    by_cases h1 : k = j
    · subst h1; rw [if_pos rfl, if_pos hj, if_pos rfl]
    · rw [if_neg h1, if_neg h1]
  · rw [if_neg h, if_neg h, if_neg h]
theorem clW_at (T : kCs) (c : Nat → Nat) {i j : Nat} (hj : j < i) : (clW T i c).2.2.1 0 j = nI (c j) := if_pos hj
theorem cH_c {V : kEnv} {s : State} {H : Heap} {locs : List Loc} {T : kCs} (c : Nat → Nat) (h : cH V s H locs (cWs V T)) : cH V s H locs (cWs V (clW T 0 c)) := by rw [clW_0]; exact h
/-- one middle, the stories one by one; then all middles -/
def wsI (c : Nat → Nat) (m : Nat) : Nat → Nat → Nat
  | 0 => c
  | j + 1 => if (wsI c m j j).testBit m then va_up (wsI c m j) j (wsI c m j j ||| wsI c m j m) else wsI c m j
def wsO (B : kBd) : Nat → Nat → Nat
  | 0 => B.1 2
  | m + 1 => wsI (wsO B m) m 16
theorem up_lt {c : Nat → Nat} (hc : ∀ k, c k < 65536) (j : Nat) {v : Nat} (hv : v < 65536) : ∀ k, va_up c j v k < 65536 := by
  intro k
  simp only [va_up]
  split
  · exact hv
  · exact hc k
theorem ks_J9_floorMod_7cf53 : kSt yJ9_floorMod_7cf53 cJ9_floorMod_7cf53 3 (some .int) 2 := ⟨mw_828, mw_70, mw_829, by decide, by decide, by decide +kernel⟩
theorem kv_X0_copyFrom : kV yX0_copyFrom cX0_copyFrom 2 none 1 := ⟨mw_738, mw_739, mw_57, mw_740, by decide, by decide, by decide +kernel⟩
set_option maxHeartbeats 4000000 in
set_option maxRecDepth 100000 in
/-- forgetAll() -/
theorem met_X2_forgetAll (l : Launch) (V : kEnv) (S : kCs) : kU l yX2_forgetAll cX2_forgetAll 1 { frames := 0, cells := 0, slots := 0, locals := 0 } V (cWs V) [.ref (eX V 97)] (S) (fun u => u = sPut S 4 (nI 0)) 0 0 := by
  refine kU_of (by decide +kernel) (Nat.le_of_ble_eq_true rfl) ?_
  intro pg e s m args below meth c G hret hlocks hC hB h ls hl Q hQ
  have hl : lv_has ls 1 [(0, .ref (eX V 97))] := hl
  have hx := G.1
  have hcd := G.2.1
  refine lv_aload_n hx hcd dX2_forgetAll_0 rfl (lv_at hl 0 rfl) ?_
  refine lv_iconst (v := nI 0) hx hcd dX2_forgetAll_1 (by decide) ?_
  refine r_hP G hC h 4 (by decide) mw_169 rfl dX2_forgetAll_2 (fun H locs h => ?_)
  exact k_retv hQ G hret hlocks h (rfl) (Nat.le_of_ble_eq_true rfl) (Nat.le_of_ble_eq_true rfl) dX2_forgetAll_5
set_option maxHeartbeats 4000000 in
set_option maxRecDepth 100000 in
/-- keep(board a) -/
theorem met_X2_keep (l : Launch) (V : kEnv) (S : kCs) (a : Nat) (ha : a < 4) (nx sz : Nat) (hnx : S.2.1 3 = nI nx) (hsz : S.2.1 4 = nI sz) (hx5 : nx < 60000) (hs5 : sz ≤ 8) (hza : kSm (S.1 a)) (ha3 : (S.1 a).2 3 < 2) (hna : bN (S.1 a)) (hnb : bN (S.1 (4 + nx % 8))) : kU l yX2_keep cX2_keep 3 { frames := 2, cells := 0, slots := 0, locals := 43 } V (cWs V) [.ref (eX V 97), .ref (eX V (8 * a))] (S) (fun u => u = histS S a nx sz) 0 0 := by
  refine kU_of (by decide +kernel) (Nat.le_of_ble_eq_true rfl) ?_
  intro pg e s m args below meth c G hret hlocks hC hB h ls hl Q hQ
  have hl : lv_has ls 3 [(0, .ref (eX V 97)), (1, .ref (eX V (8 * a)))] := hl
  have hx := G.1
  have hcd := G.2.1
  refine lv_aload_n hx hcd dX2_keep_0 rfl (lv_at hl 0 rfl) ?_
  refine va_get (D := eD V) (ci := 6) (v := .ref (eX V 98)) (C := RX2) (T := TX2) (N := 3) hx hcd G.2.2.2.2 iwX2 G.2.2.2.1 hC.1 h.1 (96 + 1) (cF_at V _ (i := 1) (by decide)) rfl 0 (by decide) (G.2.2.2.2 _ mw_167) (fun y h9 => h9) rfl dX2_keep_1 ?_
  refine lv_aload_n hx hcd dX2_keep_4 rfl (lv_at hl 0 rfl) ?_
  refine va_get (D := eD V) (ci := 6) (v := .int (nI (nx))) (C := RX2) (T := TX2) (N := 3) hx hcd G.2.2.2.2 iwX2 G.2.2.2.1 hC.1 h.1 (96 + 1) (cF_at V _ (i := 1) (by decide)) rfl 1 (by decide) (G.2.2.2.2 _ mw_168) (fun y h9 => h9) (congrArg (fun z => some (Value.int z)) (hnx)) dX2_keep_5 ?_
  refine lv_bipush (v := nI 8) hx hcd dX2_keep_8 (by decide) ?_
  refine k_Si (As := [.int (nI (nx)), .int (nI 8)]) (rest := [.ref (eX V 98)]) G hC hB h (met_J9_floorMod_7cf53 l V S nx (by omega)) mw_827 ks_J9_floorMod_7cf53 ⟨rfl, rfl⟩ ⟨Nat.le_of_ble_eq_true rfl, Nat.le_of_ble_eq_true rfl⟩ rfl rfl hl.1 (Nat.le_of_ble_eq_true rfl) dX2_keep_10 ⟨Nat.le_of_ble_eq_true rfl, Nat.le_of_ble_eq_true rfl⟩ (fun r u H locs hp h => ?_)
  obtain ⟨rfl, hu⟩ := hp
  rw [hu] at h
  refine r_hL G hC h (nx % 8) (by omega) rfl dX2_keep_13 ?_
  refine lv_astore_n (lv' := [(2, .ref (eX V (8 * (4 + nx % 8)))), (0, .ref (eX V 97)), (1, .ref (eX V (8 * a)))]) hx hcd dX2_keep_14 rfl hl (by decide) rfl (fun ls hl => ?_)
  refine lv_aload_n hx hcd dX2_keep_15 rfl (lv_at hl 0 rfl) ?_
  refine lv_ifnull hx hcd dX2_keep_16 ?_
  refine lv_aload_n hx hcd dX2_keep_19 rfl (lv_at hl 0 rfl) ?_
  refine lv_aload_n hx hcd dX2_keep_20 rfl (lv_at hl 2 rfl) ?_
  have h := cH_b (4 + nx % 8) h
  refine k_Vv (As := [.ref (eX V (8 * a))]) (rest := []) (b := eX V (8 * (4 + nx % 8))) G hC hB h (met_X0_copyFrom l V S (4 + nx % 8) (S.1 (4 + nx % 8)) (by omega) a (by omega) (by first | assumption | decide | omega) hza ha3 hna hnb) mw_830 kv_X0_copyFrom ⟨rfl, rfl⟩ ⟨Nat.le_of_ble_eq_true rfl, Nat.le_of_ble_eq_true rfl⟩ (r_bV hC h (4 + nx % 8) (by omega)) rfl rfl hl.1 (Nat.le_of_ble_eq_true rfl) dX2_keep_21 ⟨Nat.le_of_ble_eq_true rfl, Nat.le_of_ble_eq_true rfl⟩ (fun u H locs hp h => ?_)
  obtain rfl := hp
  refine lv_aload_n hx hcd dX2_keep_24 rfl (lv_at hl 1 rfl) ?_
  refine lv_dup hx hcd dX2_keep_25 rfl ?_
  refine va_get (D := eD V) (ci := 6) (v := .int (nI (nx))) (C := RX2) (T := TX2) (N := 3) hx hcd G.2.2.2.2 iwX2 G.2.2.2.1 hC.1 h.1 (96 + 1) (cF_at V _ (i := 1) (by decide)) rfl 1 (by decide) (G.2.2.2.2 _ mw_168) (fun y h9 => h9) (congrArg (fun z => some (Value.int z)) (hnx)) dX2_keep_26 ?_
  refine lv_iconst (v := nI 1) hx hcd dX2_keep_29 (by decide) ?_
  refine w_iadd (v := nI (nx + 1)) hx hcd dX2_keep_30 (nI_add _ _) ?_
  refine r_hP G hC h 3 (by decide) mw_168 rfl dX2_keep_31 (fun H locs h => ?_)
  refine lv_aload_n hx hcd dX2_keep_34 rfl (lv_at hl 1 rfl) ?_
  refine lv_aload_n hx hcd dX2_keep_35 rfl (lv_at hl 1 rfl) ?_
  refine va_get (D := eD V) (ci := 6) (v := .int (nI (sz))) (C := RX2) (T := TX2) (N := 3) hx hcd G.2.2.2.2 iwX2 G.2.2.2.1 hC.1 h.1 (96 + 1) (cF_at V _ (i := 1) (by decide)) rfl 2 (by decide) (G.2.2.2.2 _ mw_169) (fun y h9 => h9) (congrArg (fun z => some (Value.int z)) (hsz)) dX2_keep_36 ?_
  refine lv_iconst (v := nI 1) hx hcd dX2_keep_39 (by decide) ?_
  refine w_iadd (v := nI (sz + 1)) hx hcd dX2_keep_40 (nI_add _ _) ?_
  refine lv_bipush (v := nI 8) hx hcd dX2_keep_41 (by decide) ?_
  refine va_mmin hx hcd (by rw [G.2.2.1]; exact hl.1.symm) G.2.2.2.1 (G.2.2.2.2 _ mw_831) (G.2.2.2.2 _ mw_383) (G.2.2.2.2 _ mw_70) (G.2.2.2.2 _ mw_384) (Nat.le_of_ble_eq_true rfl) (Nat.le_of_ble_eq_true rfl) (Nat.le_of_ble_eq_true rfl) (Nat.le_of_ble_eq_true rfl) dX2_keep_43 ?_
  refine lv_topi (fun z_3 e_z_3 => ?_)
  obtain rfl : z_3 = nI (min (sz + 1) 8) := by rw [e_z_3]; exact n_min (by omega) (by omega)
  refine r_hP G hC h 4 (by decide) mw_169 rfl dX2_keep_46 (fun H locs h => ?_)
  exact k_retv hQ G hret hlocks h (rfl) (Nat.le_of_ble_eq_true rfl) (Nat.le_of_ble_eq_true rfl) dX2_keep_49
set_option maxHeartbeats 4000000 in
set_option maxRecDepth 100000 in
/-- takeBackInto(board a) -/
theorem met_X2_takeBackInto (l : Launch) (V : kEnv) (S : kCs) (a : Nat) (ha : a < 4) (nx sz : Nat) (hnx : S.2.1 3 = nI nx) (hsz : S.2.1 4 = nI sz) (hx5 : nx < 60000) (hs5 : sz ≤ 8) (hn1 : 1 ≤ nx) (hs1 : 1 ≤ sz) (hza : kSm (S.1 (4 + (nx - 1) % 8))) (ha3 : (S.1 (4 + (nx - 1) % 8)).2 3 < 2) (hna : bN (S.1 (4 + (nx - 1) % 8))) (hnb : bN (S.1 a)) : kU l yX2_takeBackInto cX2_takeBackInto 3 { frames := 2, cells := 0, slots := 0, locals := 43 } V (cWs V) [.ref (eX V 97), .ref (eX V (8 * a))] (S) (fun u => u = tbkS S a nx sz) 0 0 := by
  refine kU_of (by decide +kernel) (Nat.le_of_ble_eq_true rfl) ?_
  intro pg e s m args below meth c G hret hlocks hC hB h ls hl Q hQ
  have hl : lv_has ls 3 [(0, .ref (eX V 97)), (1, .ref (eX V (8 * a)))] := hl
  have hx := G.1
  have hcd := G.2.1
  refine lv_aload_n hx hcd dX2_takeBackInto_0 rfl (lv_at hl 0 rfl) ?_
  refine va_get (D := eD V) (ci := 6) (v := .ref (eX V 98)) (C := RX2) (T := TX2) (N := 3) hx hcd G.2.2.2.2 iwX2 G.2.2.2.1 hC.1 h.1 (96 + 1) (cF_at V _ (i := 1) (by decide)) rfl 0 (by decide) (G.2.2.2.2 _ mw_167) (fun y h9 => h9) rfl dX2_takeBackInto_1 ?_
  refine lv_aload_n hx hcd dX2_takeBackInto_4 rfl (lv_at hl 0 rfl) ?_
  refine va_get (D := eD V) (ci := 6) (v := .int (nI (nx))) (C := RX2) (T := TX2) (N := 3) hx hcd G.2.2.2.2 iwX2 G.2.2.2.1 hC.1 h.1 (96 + 1) (cF_at V _ (i := 1) (by decide)) rfl 1 (by decide) (G.2.2.2.2 _ mw_168) (fun y h9 => h9) (congrArg (fun z => some (Value.int z)) (hnx)) dX2_takeBackInto_5 ?_
  refine lv_iconst (v := nI 1) hx hcd dX2_takeBackInto_8 (by decide) ?_
  refine w_isub (v := nI (nx - 1)) hx hcd dX2_takeBackInto_9 (pk_sub (by omega)) ?_
  refine lv_bipush (v := nI 8) hx hcd dX2_takeBackInto_10 (by decide) ?_
  refine k_Si (As := [.int (nI (nx - 1)), .int (nI 8)]) (rest := [.ref (eX V 98)]) G hC hB h (met_J9_floorMod_7cf53 l V S (nx - 1) (by omega)) mw_827 ks_J9_floorMod_7cf53 ⟨rfl, rfl⟩ ⟨Nat.le_of_ble_eq_true rfl, Nat.le_of_ble_eq_true rfl⟩ rfl rfl hl.1 (Nat.le_of_ble_eq_true rfl) dX2_takeBackInto_12 ⟨Nat.le_of_ble_eq_true rfl, Nat.le_of_ble_eq_true rfl⟩ (fun r u H locs hp h => ?_)
  obtain ⟨rfl, hu⟩ := hp
  rw [hu] at h
  refine r_hL G hC h ((nx - 1) % 8) (by omega) rfl dX2_takeBackInto_15 ?_
  refine lv_astore_n (lv' := [(2, .ref (eX V (8 * (4 + (nx - 1) % 8)))), (0, .ref (eX V 97)), (1, .ref (eX V (8 * a)))]) hx hcd dX2_takeBackInto_16 rfl hl (by decide) rfl (fun ls hl => ?_)
  refine lv_aload_n hx hcd dX2_takeBackInto_17 rfl (lv_at hl 0 rfl) ?_
  refine lv_ifnull hx hcd dX2_takeBackInto_18 ?_
  refine lv_aload_n hx hcd dX2_takeBackInto_21 rfl (lv_at hl 1 rfl) ?_
  refine va_get (D := eD V) (ci := 6) (v := .int (nI (sz))) (C := RX2) (T := TX2) (N := 3) hx hcd G.2.2.2.2 iwX2 G.2.2.2.1 hC.1 h.1 (96 + 1) (cF_at V _ (i := 1) (by decide)) rfl 2 (by decide) (G.2.2.2.2 _ mw_169) (fun y h9 => h9) (congrArg (fun z => some (Value.int z)) (hsz)) dX2_takeBackInto_22 ?_
  refine lv_if_le (tgt := 53) hx hcd dX2_takeBackInto_25 (by decide) (fun c_2 => ?_) (fun c_2 => ?_)
  · have c_2 := cLe (tN (n := sz) (by omega)) t0 c_2
    exact absurd c_2 (by omega)
  · have c_2 := cNle (tN (n := sz) (by omega)) t0 c_2
    refine lv_aload_n hx hcd dX2_takeBackInto_28 rfl (lv_at hl 2 rfl) ?_
    refine lv_aload_n hx hcd dX2_takeBackInto_29 rfl (lv_at hl 0 rfl) ?_
    have h := cH_b a h
    refine k_Vv (As := [.ref (eX V (8 * (4 + (nx - 1) % 8)))]) (rest := []) (b := eX V (8 * a)) G hC hB h (met_X0_copyFrom l V S a (S.1 a) (by omega) (4 + (nx - 1) % 8) (by omega) (by first | assumption | decide | omega) hza ha3 hna hnb) mw_830 kv_X0_copyFrom ⟨rfl, rfl⟩ ⟨Nat.le_of_ble_eq_true rfl, Nat.le_of_ble_eq_true rfl⟩ (r_bV hC h a (by omega)) rfl rfl hl.1 (Nat.le_of_ble_eq_true rfl) dX2_takeBackInto_30 ⟨Nat.le_of_ble_eq_true rfl, Nat.le_of_ble_eq_true rfl⟩ (fun u H locs hp h => ?_)
    obtain rfl := hp
    refine lv_aload_n hx hcd dX2_takeBackInto_33 rfl (lv_at hl 1 rfl) ?_
    refine lv_dup hx hcd dX2_takeBackInto_34 rfl ?_
    refine va_get (D := eD V) (ci := 6) (v := .int (nI (nx))) (C := RX2) (T := TX2) (N := 3) hx hcd G.2.2.2.2 iwX2 G.2.2.2.1 hC.1 h.1 (96 + 1) (cF_at V _ (i := 1) (by decide)) rfl 1 (by decide) (G.2.2.2.2 _ mw_168) (fun y h9 => h9) (congrArg (fun z => some (Value.int z)) (hnx)) dX2_takeBackInto_35 ?_
    refine lv_iconst (v := nI 1) hx hcd dX2_takeBackInto_38 (by decide) ?_
    refine w_isub (v := nI (nx - 1)) hx hcd dX2_takeBackInto_39 (pk_sub (by omega)) ?_
    refine r_hP G hC h 3 (by decide) mw_168 rfl dX2_takeBackInto_40 (fun H locs h => ?_)
    refine lv_aload_n hx hcd dX2_takeBackInto_43 rfl (lv_at hl 1 rfl) ?_
    refine lv_dup hx hcd dX2_takeBackInto_44 rfl ?_
    refine va_get (D := eD V) (ci := 6) (v := .int (nI (sz))) (C := RX2) (T := TX2) (N := 3) hx hcd G.2.2.2.2 iwX2 G.2.2.2.1 hC.1 h.1 (96 + 1) (cF_at V _ (i := 1) (by decide)) rfl 2 (by decide) (G.2.2.2.2 _ mw_169) (fun y h9 => h9) (congrArg (fun z => some (Value.int z)) (hsz)) dX2_takeBackInto_45 ?_
    refine lv_iconst (v := nI 1) hx hcd dX2_takeBackInto_48 (by decide) ?_
    refine w_isub (v := nI (sz - 1)) hx hcd dX2_takeBackInto_49 (pk_sub (by omega)) ?_
    refine r_hP G hC h 4 (by decide) mw_169 rfl dX2_takeBackInto_50 (fun H locs h => ?_)
    exact k_retv hQ G hret hlocks h (rfl) (Nat.le_of_ble_eq_true rfl) (Nat.le_of_ble_eq_true rfl) dX2_takeBackInto_53
set_option maxHeartbeats 4000000 in
set_option maxRecDepth 100000 in
/-- copyRow(blockerSets, closure) -/
theorem met_X0_copyRowC (l : Launch) (V : kEnv) (S : kCs) (b : Nat) (B : kBd) (hb : b < 12) (hz : kSm B) : kU l yX0_copyRow cX0_copyRow 3 { frames := 0, cells := 0, slots := 0, locals := 0 } V (cWs V) [.ref (eX V (8 * b + (2 + 1))), .ref (eX V (100 + 0))] (clW (setB S b B) 0 (B.1 2)) (fun u => u = clW (setB S b B) 16 (B.1 2)) 0 0 := by
  refine kU_of (by decide +kernel) (Nat.le_of_ble_eq_true rfl) ?_
  intro pg e s m args below meth c G hret hlocks hC hB h ls hl Q hQ
  have hl : lv_has ls 3 [(0, .ref (eX V (8 * b + (2 + 1)))), (1, .ref (eX V (100 + 0)))] := hl
  have hx := G.1
  have hcd := G.2.1
  refine lv_iconst (v := nI 0) hx hcd dX0_copyRow_0 (by decide) ?_
  refine lv_istore_n (lv' := [(2, .int (nI 0)), (0, .ref (eX V (8 * b + (2 + 1)))), (1, .ref (eX V (100 + 0)))]) hx hcd dX0_copyRow_1 rfl hl (by decide) rfl (fun ls hl => ?_)
  have L_1 : ∀ (fu_3 : Nat) (i : Nat) (hi : i ≤ 16), 16 - i < fu_3 → ∀ (H : Heap) (locs : List Loc), cH V s H locs (cWs V (clW (setB S b B) i (B.1 2))) → ∀ ls : Array Slot, lv_has ls 3 [(2, .int (nI (i))), (0, .ref (eX V (8 * b + (2 + 1)))), (1, .ref (eX V (100 + 0)))] → W pg l e { frames := 0, cells := 0, slots := 0, locals := 0 } s m args below meth c H locs 0 0 Q (F0 m 2 ls []) := by
    intro fu_3
    induction fu_3 with
    | zero => intro i hi hm; exact absurd hm (Nat.not_lt_zero _)
    | succ fu_3 ih_2 =>
      intro i hi hm H locs h ls hl
      refine lv_iload_n hx hcd dX0_copyRow_2 rfl (lv_at hl 0 rfl) ?_
      refine lv_aload_n hx hcd dX0_copyRow_3 rfl (lv_at hl 1 rfl) ?_
      refine r_bN G hC h b 2 hb (by decide) (x := nI (16)) rfl dX0_copyRow_4 ?_
      refine lv_icmp_ge (tgt := 26) hx hcd dX0_copyRow_5 (by decide) (fun c_4 => ?_) (fun c_4 => ?_)
      · have c_4 := cLe (tN (n := 16) (by decide)) (tN (n := i) (by omega)) c_4
        exact k_retv hQ G hret hlocks h (by rw [show (16 : Nat) = i by omega]) (Nat.le_of_ble_eq_true rfl) (Nat.le_of_ble_eq_true rfl) dX0_copyRow_26
      · have c_4 := cNle (tN (n := 16) (by decide)) (tN (n := i) (by omega)) c_4
        refine lv_iload_n hx hcd dX0_copyRow_8 rfl (lv_at hl 0 rfl) ?_
        refine lv_aload_n hx hcd dX0_copyRow_9 rfl (lv_at hl 2 rfl) ?_
        refine r_aN G hC h 0 (by decide) (x := nI 16) rfl dX0_copyRow_10 ?_
        refine lv_icmp_ge (tgt := 26) hx hcd dX0_copyRow_11 (by decide) (fun c_5 => ?_) (fun c_5 => ?_)
        · have c_5 := cLe (tN (n := 16) (by decide)) (tN (n := i) (by omega)) c_5
          exact absurd c_5 (by omega)
        · have c_5 := cNle (tN (n := 16) (by decide)) (tN (n := i) (by omega)) c_5
          refine lv_aload_n hx hcd dX0_copyRow_14 rfl (lv_at hl 2 rfl) ?_
          refine lv_iload_n hx hcd dX0_copyRow_15 rfl (lv_at hl 0 rfl) ?_
          refine lv_aload_n hx hcd dX0_copyRow_16 rfl (lv_at hl 1 rfl) ?_
          refine lv_iload_n hx hcd dX0_copyRow_17 rfl (lv_at hl 0 rfl) ?_
          refine r_bL G hC h b 2 i hb (by decide) (setB_at _ _ _) rfl (show i < 16 by omega) (x := nI (B.1 2 (i))) rfl dX0_copyRow_18 ?_
          have q_6 := hz.1 2 (i)
          refine r_aT G hC h 0 (i) (by decide) rfl (show i < 16 by omega) (clW_s _ _ _) dX0_copyRow_19 (fun H locs h => ?_)
          refine lv_iinc (v := nI (i + 1)) (lv' := [(2, .int (nI (i + 1))), (0, .ref (eX V (8 * b + (2 + 1)))), (1, .ref (eX V (100 + 0)))]) hx hcd dX0_copyRow_20 hl (k := 0) rfl (by exact nI_add (i) 1) (by decide) rfl (fun ls hl => ?_)
          refine lv_goto (tgt := 2) hx hcd dX0_copyRow_23 (by decide) ?_
          exact ih_2 (i + 1) (by omega) (by omega) _ _ h _ (lv_sub hl [0, 1, 2] rfl)
  exact L_1 (16 + 1) 0 (by omega) (by omega) _ _ h _ (lv_sub hl [0, 1, 2] rfl)
set_option maxHeartbeats 4000000 in
set_option maxRecDepth 100000 in
/-- closeInto(closure) -/
theorem met_X0_closeInto (l : Launch) (V : kEnv) (S : kCs) (b : Nat) (B : kBd) (hb : b < 12) (hz : kSm B) : kU l yX0_closeInto cX0_closeInto 4 { frames := 1, cells := 0, slots := 0, locals := 22 } V (cWs V) [.ref (eX V (8 * b)), .ref (eX V (100 + 0))] (setB S b B) (fun u => u = clW (setB S b B) 16 (wsO B 16)) 0 0 := by
  refine kU_of (by decide +kernel) (Nat.le_of_ble_eq_true rfl) ?_
  intro pg e s m args below meth c G hret hlocks hC hB h ls hl Q hQ
  have hl : lv_has ls 4 [(0, .ref (eX V (8 * b))), (1, .ref (eX V (100 + 0)))] := hl
  have hx := G.1
  have hcd := G.2.1
  refine lv_aload_n hx hcd dX0_closeInto_0 rfl (lv_at hl 0 rfl) ?_
  refine r_bA G hC h b 2 hb (by decide) mw_102 dX0_closeInto_1 ?_
  refine lv_aload_n hx hcd dX0_closeInto_4 rfl (lv_at hl 1 rfl) ?_
  have h := cH_c (B.1 2) h
  refine k_Sv (As := [.ref (eX V (8 * b + (2 + 1))), .ref (eX V (100 + 0))]) (rest := []) G hC hB h (met_X0_copyRowC l V S b B hb hz) mw_710 ks_X0_copyRow ⟨rfl, rfl⟩ ⟨Nat.le_of_ble_eq_true rfl, Nat.le_of_ble_eq_true rfl⟩ rfl rfl hl.1 (Nat.le_of_ble_eq_true rfl) dX0_closeInto_5 ⟨Nat.le_of_ble_eq_true rfl, Nat.le_of_ble_eq_true rfl⟩ (fun u H locs hp h => ?_)
  obtain rfl := hp
  refine lv_iconst (v := nI 0) hx hcd dX0_closeInto_8 (by decide) ?_
  refine lv_istore_n (lv' := [(2, .int (nI 0)), (0, .ref (eX V (8 * b))), (1, .ref (eX V (100 + 0)))]) hx hcd dX0_closeInto_9 rfl hl (by decide) rfl (fun ls hl => ?_)
  have L_1 : ∀ (fu_3 : Nat) (m9 : Nat) (c9 : Nat → Nat) (hm9 : m9 ≤ 16) (hc9 : ∀ k, c9 k < 65536) (hO : c9 = wsO B m9), 17 - m9 < fu_3 → ∀ (H : Heap) (locs : List Loc), cH V s H locs (cWs V (clW (setB S b B) 16 c9)) → ∀ ls : Array Slot, lv_has ls 4 [(2, .int (nI (m9))), (0, .ref (eX V (8 * b))), (1, .ref (eX V (100 + 0)))] → W pg l e { frames := 1, cells := 0, slots := 0, locals := 22 } s m args below meth c H locs 0 0 Q (F0 m 10 ls []) := by
    intro fu_3
    induction fu_3 with
    | zero => intro m9 c9 hm9 hc9 hO hm; exact absurd hm (Nat.not_lt_zero _)
    | succ fu_3 ih_2 =>
      intro m9 c9 hm9 hc9 hO hm H locs h ls hl
      refine lv_iload_n hx hcd dX0_closeInto_10 rfl (lv_at hl 0 rfl) ?_
      refine lv_aload_n hx hcd dX0_closeInto_11 rfl (lv_at hl 2 rfl) ?_
      refine r_aN G hC h 0 (by decide) (x := nI 16) rfl dX0_closeInto_12 ?_
      refine lv_icmp_ge (tgt := 55) hx hcd dX0_closeInto_13 (by decide) (fun c_4 => ?_) (fun c_4 => ?_)
      · have c_4 := cLe (tN (n := 16) (by decide)) (tN (n := m9) (by omega)) c_4
        exact k_retv hQ G hret hlocks h (by rw [hO, show m9 = 16 by omega]) (Nat.le_of_ble_eq_true rfl) (Nat.le_of_ble_eq_true rfl) dX0_closeInto_55
      · have c_4 := cNle (tN (n := 16) (by decide)) (tN (n := m9) (by omega)) c_4
        refine lv_iconst (v := nI 0) hx hcd dX0_closeInto_16 (by decide) ?_
        refine lv_istore_n (lv' := [(3, .int (nI 0)), (2, .int (nI (m9))), (0, .ref (eX V (8 * b))), (1, .ref (eX V (100 + 0)))]) hx hcd dX0_closeInto_17 rfl hl (by decide) rfl (fun ls hl => ?_)
        have L_5 : ∀ (fu_7 : Nat) (j : Nat) (c2 : Nat → Nat) (hj : j ≤ 16) (hc2 : ∀ k, c2 k < 65536) (hI : c2 = wsI c9 m9 j), 17 - j < fu_7 → ∀ (H : Heap) (locs : List Loc), cH V s H locs (cWs V (clW (setB S b B) 16 c2)) → ∀ ls : Array Slot, lv_has ls 4 [(3, .int (nI (j))), (0, .ref (eX V (8 * b))), (1, .ref (eX V (100 + 0))), (2, .int (nI (m9)))] → W pg l e { frames := 1, cells := 0, slots := 0, locals := 22 } s m args below meth c H locs 0 0 Q (F0 m 18 ls []) := by
          intro fu_7
          induction fu_7 with
          | zero => intro j c2 hj hc2 hI hm; exact absurd hm (Nat.not_lt_zero _)
          | succ fu_7 ih_6 =>
            intro j c2 hj hc2 hI hm H locs h ls hl
            refine lv_iload_n hx hcd dX0_closeInto_18 rfl (lv_at hl 0 rfl) ?_
            refine lv_aload_n hx hcd dX0_closeInto_19 rfl (lv_at hl 2 rfl) ?_
            refine r_aN G hC h 0 (by decide) (x := nI 16) rfl dX0_closeInto_20 ?_
            refine lv_icmp_ge (tgt := 49) hx hcd dX0_closeInto_21 (by decide) (fun c_8 => ?_) (fun c_8 => ?_)
            · have c_8 := cLe (tN (n := 16) (by decide)) (tN (n := j) (by omega)) c_8
              refine lv_iinc (v := nI (m9 + 1)) (lv' := [(2, .int (nI (m9 + 1))), (3, .int (nI (j))), (0, .ref (eX V (8 * b))), (1, .ref (eX V (100 + 0)))]) hx hcd dX0_closeInto_49 hl (k := 3) rfl (by exact nI_add (m9) 1) (by decide) rfl (fun ls hl => ?_)
              refine lv_goto (tgt := 10) hx hcd dX0_closeInto_52 (by decide) ?_
              exact ih_2 (m9 + 1) c2 (by omega) hc2 (by rw [hI, show j = 16 by omega, hO]; rfl) (by omega) _ _ h _ (lv_sub hl [0, 2, 3] rfl)
            · have c_8 := cNle (tN (n := 16) (by decide)) (tN (n := j) (by omega)) c_8
              refine lv_aload_n hx hcd dX0_closeInto_24 rfl (lv_at hl 2 rfl) ?_
              refine lv_iload_n hx hcd dX0_closeInto_25 rfl (lv_at hl 0 rfl) ?_
              refine r_aL G hC h 0 (j) (by decide) rfl (show j < 16 by omega) (x := nI (c2 (j))) (clW_at _ _ (by omega)) dX0_closeInto_26 ?_
              have q_9 := hc2 (j)
              refine lv_iload_n hx hcd dX0_closeInto_27 rfl (lv_at hl 3 rfl) ?_
              refine k_Ni (As := [.int (nI (c2 (j))), .int (nI (m9))]) (rest := []) G hC hB h (met_X3_holds l V (clW (setB S b B) 16 c2) (c2 (j)) m9 (by omega) (by omega)) hC.2.1.2.1 ks_X3_holds ⟨rfl, rfl⟩ ⟨Nat.le_of_ble_eq_true rfl, Nat.le_of_ble_eq_true rfl⟩ rfl rfl hl.1 (Nat.le_of_ble_eq_true rfl) dX0_closeInto_28 ⟨Nat.le_of_ble_eq_true rfl, Nat.le_of_ble_eq_true rfl⟩ (fun r u H locs hp h => ?_)
              obtain ⟨rfl, hu⟩ := hp
              rw [hu] at h
              refine lv_if_eq (tgt := 43) hx hcd dX0_closeInto_31 (by decide) (fun c_10 => ?_) (fun c_10 => ?_)
              · have c_10 := bz0 c_10
                refine lv_iinc (v := nI (j + 1)) (lv' := [(3, .int (nI (j + 1))), (0, .ref (eX V (8 * b))), (1, .ref (eX V (100 + 0))), (2, .int (nI (m9)))]) hx hcd dX0_closeInto_43 hl (k := 0) rfl (by exact nI_add (j) 1) (by decide) rfl (fun ls hl => ?_)
                refine lv_goto (tgt := 18) hx hcd dX0_closeInto_46 (by decide) ?_
                exact ih_6 (j + 1) c2 (by omega) hc2 (by rw [hI, wsI, if_neg (by rw [Bool.not_eq_true, ← hI]; assumption)]) (by omega) _ _ h _ (lv_sub hl [0, 1, 2, 3] rfl)
              · have c_10 := bz1 c_10
                refine lv_aload_n hx hcd dX0_closeInto_34 rfl (lv_at hl 2 rfl) ?_
                refine lv_iload_n hx hcd dX0_closeInto_35 rfl (lv_at hl 0 rfl) ?_
                refine lv_dup2_11 hx hcd dX0_closeInto_36 rfl rfl ?_
                refine r_aL G hC h 0 (j) (by decide) rfl (show j < 16 by omega) (x := nI (c2 (j))) (clW_at _ _ (by omega)) dX0_closeInto_37 ?_
                have q_11 := hc2 (j)
                refine lv_aload_n hx hcd dX0_closeInto_38 rfl (lv_at hl 2 rfl) ?_
                refine lv_iload_n hx hcd dX0_closeInto_39 rfl (lv_at hl 3 rfl) ?_
                refine r_aL G hC h 0 (m9) (by decide) rfl (show m9 < 16 by omega) (x := nI (c2 (m9))) (clW_at _ _ (by omega)) dX0_closeInto_40 ?_
                have q_12 := hc2 (m9)
                refine w_ior (v := nI ((c2 (j)) ||| (c2 (m9)))) hx hcd dX0_closeInto_41 (n_or _ _) ?_
                have q_13 : (c2 (j)) ||| (c2 (m9)) < 65536 := or16 (by first | omega | exact p16 (by omega) | assumption) (by first | omega | exact p16 (by omega) | assumption)
                refine r_aT G hC h 0 (j) (by decide) rfl (show j < 16 by omega) (clW_t _ _ (by omega) _) dX0_closeInto_42 (fun H locs h => ?_)
                refine lv_iinc (v := nI (j + 1)) (lv' := [(3, .int (nI (j + 1))), (0, .ref (eX V (8 * b))), (1, .ref (eX V (100 + 0))), (2, .int (nI (m9)))]) hx hcd dX0_closeInto_43 hl (k := 0) rfl (by exact nI_add (j) 1) (by decide) rfl (fun ls hl => ?_)
                refine lv_goto (tgt := 18) hx hcd dX0_closeInto_46 (by decide) ?_
                exact ih_6 (j + 1) (va_up c2 (j) ((c2 (j)) ||| (c2 (m9)))) (by omega) (up_lt hc2 j (or16 (hc2 _) (hc2 _))) (by rw [hI, wsI, if_pos (by rw [← hI]; assumption)]) (by omega) _ _ h _ (lv_sub hl [0, 1, 2, 3] rfl)
        exact L_5 (17 + 1) 0 c9 (by omega) hc9 rfl (by omega) _ _ h _ (lv_sub hl [0, 2, 3, 1] rfl)
  exact L_1 (17 + 1) 0 (B.1 2) (by omega) (fun k => hz.1 2 k) rfl (by omega) _ _ h _ (lv_sub hl [0, 1, 2] rfl)
