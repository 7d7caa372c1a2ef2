theorem lnA (S : kCs) (y : kSb) (B : kBd) : (setB (uPut S 0 y) 0 B).2.2.2 0 = y := uPut_at S 0 y
theorem bdl_end {B : kBd} {i : Nat} (h1 : i = 0 ∨ (B.2 3 ≠ 0 ∧ i ≤ B.2 5 + 1)) (h2 : B.2 3 ≠ 0 → ¬ i ≤ B.2 5) : (if B.2 3 = 0 then [] else bdl B (B.2 5 + 1)) = bdl B i := by
  by_cases h0 : B.2 3 = 0
  · rw [if_pos h0, show i = 0 by rcases h1 with h1 | h1; exact h1; exact absurd h0 h1.1]
    rfl
  · have := h2 h0
    rw [if_neg h0]
    congr 1
    rcases h1 with h1 | h1
    · omega
    · omega
theorem kv_J4_append_bf812 : kV yJ4_append_bf812 cJ4_append_bf812 2 (some (.object "java/lang/StringBuilder")) 1 := ⟨mw_463, mw_464, mw_61, mw_465, by decide, by decide, by decide +kernel⟩
theorem kv_X1_append : kV yX1_append cX1_append 2 (some .int) 1 := ⟨mw_1339, mw_1340, mw_59, mw_1341, by decide, by decide, by decide +kernel⟩
theorem kv_X1_hasRoom : kV yX1_hasRoom cX1_hasRoom 1 (some .boolean) 0 := ⟨mw_1334, mw_1335, mw_59, mw_1336, by decide, by decide, by decide +kernel⟩
set_option maxHeartbeats 4000000 in
set_option maxRecDepth 100000 in
/-- writeStory -/
theorem met_X3_writeStory (l : Launch) (hst : l.stackTraces = false) (V : kEnv) (S : kCs) (B : kBd) (hI : bI B) (hV : kOk V) (L0 : List Nat) (hR0 : sbR (S.2.2.2 0) L0) (x : Int32) : kX l yX3_writeStory cX3_writeStory 3 (some .int) { frames := 8, cells := 12, slots := 1300, locals := 156 } V (cWs V) [.ref (eX V 96), .int (x)] (setB S 0 B) (fun r u => ∃ j : Nat, x = nI j ∧ j < B.2 0 ∧ r = nI (lnS B j).length ∧ ∃ y, sbR y (lnS B j) ∧ u = setB (uPut S 0 y) 0 B) (fun E u => (E = "java/lang/IndexOutOfBoundsException" ∧ inR (B.2 0) x = false ∧ u = setB S 0 B)) 12 1300 := by
  refine kX_of (by decide +kernel) (Nat.le_of_ble_eq_true rfl) ?_
  intro pg e s m args below meth c G hret hlocks htab hC hB h ls hl Q hQ
  have hl : lv_has ls 3 [(0, .ref (eX V 96)), (1, .int (x))] := hl
  have hx := G.1
  have hcd := G.2.1
  have hI0 := hI
  obtain ⟨hz, hbn, hn, hm, h3, h54, h4, h7, hr, he, ha, hact, h5⟩ := hI
  refine lv_aload_n hx hcd dX3_writeStory_0 rfl (lv_at hl 0 rfl) ?_
  refine lv_iload_n hx hcd dX3_writeStory_1 rfl (lv_at hl 1 rfl) ?_
  refine kx_Vv (As := [.int (x)]) (rest := []) (b := eX V 96) G hC hB h (met_X3_requireStory l hst V S B hI0 x) mw_846 kv_X3_requireStory ⟨rfl, rfl⟩ ⟨Nat.le_of_ble_eq_true rfl, Nat.le_of_ble_eq_true rfl⟩ (r_sV hC h) rfl rfl hl.1 (Nat.le_of_ble_eq_true rfl) dX3_writeStory_2 ⟨Nat.le_of_ble_eq_true rfl, Nat.le_of_ble_eq_true rfl⟩ (fun E ce q9 u t H1 locs1 ht9 hpx hb9 hS9 e1 e2 e3 => by subst hQ; exact kx_pass htab hlocks ht9 (hpx) hb9 hS9 e1 e2 e3 (Nat.le_of_ble_eq_true rfl) (Nat.le_of_ble_eq_true rfl)) (fun u H locs hp h => ?_)
  obtain ⟨hs1, hu⟩ := hp; rw [hu] at h
  obtain ⟨j, hj, rfl⟩ := inR_ex (by omega) hs1
  refine lv_aload_n hx hcd dX3_writeStory_5 rfl (lv_at hl 0 rfl) ?_
  refine va_get (D := eD V) (ci := 7) (v := .ref (eX V (104 + 0))) (C := RX3) (T := TX3) (N := 11) hx hcd G.2.2.2.2 iwX3 G.2.2.2.1 hC.1 h.1 (96 + 0) (cF_at V _ (i := 0) (by decide)) rfl 6 (by decide) (G.2.2.2.2 _ mw_248) (fun y h9 => h9) rfl dX3_writeStory_6 ?_
  refine lv_iconst (v := nI 0) hx hcd dX3_writeStory_9 (by decide) ?_
  have h := cH_u 0 h
  refine k_Vv (As := [.int (nI 0)]) (rest := []) (b := eX V (104 + 0)) G hC hB h (met_J4_setLength_d00df l V hV (setB S 0 B) 0 (by decide) ((setB S 0 B).2.2.2 0) L0 hR0) mw_327 kv_J4_setLength_d00df ⟨rfl, rfl⟩ ⟨Nat.le_of_ble_eq_true rfl, Nat.le_of_ble_eq_true rfl⟩ (r_uV hC h 0 (by decide)) rfl rfl hl.1 (Nat.le_of_ble_eq_true rfl) dX3_writeStory_10 ⟨Nat.le_of_ble_eq_true rfl, Nat.le_of_ble_eq_true rfl⟩ (fun u H locs hp h => ?_)
  obtain ⟨y_1, hl9_2, hu⟩ := hp; rw [hu] at h
  have h : cH V s H locs (cWs V (setB (uPut S 0 y_1) 0 B)) := h
  have n0 : ([] : List Nat).length ≤ 0 := Nat.le_refl _
  have hej := he j
  refine lv_aload_n hx hcd dX3_writeStory_13 rfl (lv_at hl 0 rfl) ?_
  refine va_get (D := eD V) (ci := 7) (v := .ref (eX V (104 + 0))) (C := RX3) (T := TX3) (N := 11) hx hcd G.2.2.2.2 iwX3 G.2.2.2.1 hC.1 h.1 (96 + 0) (cF_at V _ (i := 0) (by decide)) rfl 6 (by decide) (G.2.2.2.2 _ mw_248) (fun y h9 => h9) rfl dX3_writeStory_14 ?_
  refine lv_iload_n hx hcd dX3_writeStory_17 rfl (lv_at hl 1 rfl) ?_
  have h := cH_u 0 h
  refine k_Vr (As := [.int (nI (j))]) (rest := []) (b := eX V (104 + 0)) G hC hB h (met_J4_append_bf812 l V hV (setB (uPut S 0 y_1) 0 B) 0 (by decide) ((setB (uPut S 0 y_1) 0 B).2.2.2 0) [] hl9_2 j (by first | assumption | omega | (have := he j; have := hr j; omega)) (by omega)) mw_700 kv_J4_append_bf812 ⟨rfl, rfl⟩ ⟨Nat.le_of_ble_eq_true rfl, Nat.le_of_ble_eq_true rfl⟩ (r_uV hC h 0 (by decide)) rfl rfl hl.1 (Nat.le_of_ble_eq_true rfl) dX3_writeStory_18 ⟨Nat.le_of_ble_eq_true rfl, Nat.le_of_ble_eq_true rfl⟩ (fun u H locs hp h => ?_)
  obtain ⟨y_3, hl9_4, hu⟩ := hp; rw [hu, lnU] at h
  have n_5 : ([] ++ dgs j).length ≤ 3 := lapp3 n0 j
  refine lv_bipush (v := nI 58) hx hcd dX3_writeStory_21 (by decide) ?_
  have h := cH_u 0 h
  refine k_Vr (As := [.int (nI 58)]) (rest := []) (b := eX V (104 + 0)) G hC hB h (met_J4_append_cf468 l V hV (setB (uPut S 0 y_3) 0 B) 0 (by decide) ((setB (uPut S 0 y_3) 0 B).2.2.2 0) ([] ++ dgs j) hl9_4 58 (by first | assumption | omega | (have := he j; have := hr j; omega)) (Nat.lt_of_le_of_lt n_5 (by decide))) mw_678 kv_J4_append_cf468 ⟨rfl, rfl⟩ ⟨Nat.le_of_ble_eq_true rfl, Nat.le_of_ble_eq_true rfl⟩ (r_uV hC h 0 (by decide)) rfl rfl hl.1 (Nat.le_of_ble_eq_true rfl) dX3_writeStory_23 ⟨Nat.le_of_ble_eq_true rfl, Nat.le_of_ble_eq_true rfl⟩ (fun u H locs hp h => ?_)
  obtain ⟨y_6, hl9_7, hu⟩ := hp; rw [hu, lnU] at h
  have n_8 : (([] ++ dgs j) ++ [58]).length ≤ 4 := lapp1 n_5 58
  refine lv_aload_n hx hcd dX3_writeStory_26 rfl (lv_at hl 0 rfl) ?_
  refine va_get (D := eD V) (ci := 7) (v := .ref (eX V (8 * 0))) (C := RX3) (T := TX3) (N := 11) hx hcd G.2.2.2.2 iwX3 G.2.2.2.1 hC.1 h.1 (96 + 0) (cF_at V _ (i := 0) (by decide)) rfl 0 (by decide) (G.2.2.2.2 _ mw_242) (fun y h9 => h9) rfl dX3_writeStory_27 ?_
  refine r_bA G hC h 0 1 (by omega) (by decide) mw_101 dX3_writeStory_30 ?_
  have hrj := hr j
  refine lv_iload_n hx hcd dX3_writeStory_33 rfl (lv_at hl 1 rfl) ?_
  refine r_bL G hC h 0 1 j (by omega) (by decide) (setB_at _ _ _) rfl (show j < 16 by omega) (x := nI (B.1 1 (j))) rfl dX3_writeStory_34 ?_
  have q_9 := hz.1 1 (j)
  have h := cH_u 0 h
  refine k_Vr (As := [.int (nI (B.1 1 (j)))]) (rest := []) (b := eX V (104 + 0)) G hC hB h (met_J4_append_bf812 l V hV (setB (uPut S 0 y_6) 0 B) 0 (by decide) ((setB (uPut S 0 y_6) 0 B).2.2.2 0) (([] ++ dgs j) ++ [58]) hl9_7 (B.1 1 (j)) (by first | assumption | omega | (have := he j; have := hr j; omega)) (by omega)) mw_700 kv_J4_append_bf812 ⟨rfl, rfl⟩ ⟨Nat.le_of_ble_eq_true rfl, Nat.le_of_ble_eq_true rfl⟩ (r_uV hC h 0 (by decide)) rfl rfl hl.1 (Nat.le_of_ble_eq_true rfl) dX3_writeStory_35 ⟨Nat.le_of_ble_eq_true rfl, Nat.le_of_ble_eq_true rfl⟩ (fun u H locs hp h => ?_)
  obtain ⟨y_10, hl9_11, hu⟩ := hp; rw [hu, lnU] at h
  have n_12 : ((([] ++ dgs j) ++ [58]) ++ dgs (B.1 1 (j))).length ≤ 7 := lapp3 n_8 (B.1 1 (j))
  refine lv_bipush (v := nI 47) hx hcd dX3_writeStory_38 (by decide) ?_
  have h := cH_u 0 h
  refine k_Vr (As := [.int (nI 47)]) (rest := []) (b := eX V (104 + 0)) G hC hB h (met_J4_append_cf468 l V hV (setB (uPut S 0 y_10) 0 B) 0 (by decide) ((setB (uPut S 0 y_10) 0 B).2.2.2 0) ((([] ++ dgs j) ++ [58]) ++ dgs (B.1 1 (j))) hl9_11 47 (by first | assumption | omega | (have := he j; have := hr j; omega)) (Nat.lt_of_le_of_lt n_12 (by decide))) mw_678 kv_J4_append_cf468 ⟨rfl, rfl⟩ ⟨Nat.le_of_ble_eq_true rfl, Nat.le_of_ble_eq_true rfl⟩ (r_uV hC h 0 (by decide)) rfl rfl hl.1 (Nat.le_of_ble_eq_true rfl) dX3_writeStory_40 ⟨Nat.le_of_ble_eq_true rfl, Nat.le_of_ble_eq_true rfl⟩ (fun u H locs hp h => ?_)
  obtain ⟨y_13, hl9_14, hu⟩ := hp; rw [hu, lnU] at h
  have n_15 : (((([] ++ dgs j) ++ [58]) ++ dgs (B.1 1 (j))) ++ [47]).length ≤ 8 := lapp1 n_12 47
  refine lv_aload_n hx hcd dX3_writeStory_43 rfl (lv_at hl 0 rfl) ?_
  refine va_get (D := eD V) (ci := 7) (v := .ref (eX V (8 * 0))) (C := RX3) (T := TX3) (N := 11) hx hcd G.2.2.2.2 iwX3 G.2.2.2.1 hC.1 h.1 (96 + 0) (cF_at V _ (i := 0) (by decide)) rfl 0 (by decide) (G.2.2.2.2 _ mw_242) (fun y h9 => h9) rfl dX3_writeStory_44 ?_
  refine r_bA G hC h 0 0 (by omega) (by decide) mw_99 dX3_writeStory_47 ?_
  refine lv_iload_n hx hcd dX3_writeStory_50 rfl (lv_at hl 1 rfl) ?_
  refine r_bL G hC h 0 0 j (by omega) (by decide) (setB_at _ _ _) rfl (show j < 16 by omega) (x := nI (B.1 0 (j))) rfl dX3_writeStory_51 ?_
  have q_16 := hz.1 0 (j)
  have h := cH_u 0 h
  refine k_Vr (As := [.int (nI (B.1 0 (j)))]) (rest := []) (b := eX V (104 + 0)) G hC hB h (met_J4_append_bf812 l V hV (setB (uPut S 0 y_13) 0 B) 0 (by decide) ((setB (uPut S 0 y_13) 0 B).2.2.2 0) (((([] ++ dgs j) ++ [58]) ++ dgs (B.1 1 (j))) ++ [47]) hl9_14 (B.1 0 (j)) (by first | assumption | omega | (have := he j; have := hr j; omega)) (by omega)) mw_700 kv_J4_append_bf812 ⟨rfl, rfl⟩ ⟨Nat.le_of_ble_eq_true rfl, Nat.le_of_ble_eq_true rfl⟩ (r_uV hC h 0 (by decide)) rfl rfl hl.1 (Nat.le_of_ble_eq_true rfl) dX3_writeStory_52 ⟨Nat.le_of_ble_eq_true rfl, Nat.le_of_ble_eq_true rfl⟩ (fun u H locs hp h => ?_)
  obtain ⟨y_17, hl9_18, hu⟩ := hp; rw [hu, lnU] at h
  have n_19 : ((((([] ++ dgs j) ++ [58]) ++ dgs (B.1 1 (j))) ++ [47]) ++ dgs (B.1 0 (j))).length ≤ 11 := lapp3 n_15 (B.1 0 (j))
  refine lv_pop hx hcd dX3_writeStory_55 rfl ?_
  refine lv_aload_n hx hcd dX3_writeStory_56 rfl (lv_at hl 0 rfl) ?_
  refine va_get (D := eD V) (ci := 7) (v := .ref (eX V (8 * 0))) (C := RX3) (T := TX3) (N := 11) hx hcd G.2.2.2.2 iwX3 G.2.2.2.1 hC.1 h.1 (96 + 0) (cF_at V _ (i := 0) (by decide)) rfl 0 (by decide) (G.2.2.2.2 _ mw_242) (fun y h9 => h9) rfl dX3_writeStory_57 ?_
  refine lv_iload_n hx hcd dX3_writeStory_60 rfl (lv_at hl 1 rfl) ?_
  refine k_Vi (As := [.int (nI (j))]) (rest := []) (b := eX V (8 * 0)) G hC hB h (met_X0_plans l V (uPut S 0 y_17) 0 B (by omega) hz hn j (by omega)) mw_1223 kv_X0_plans ⟨rfl, rfl⟩ ⟨Nat.le_of_ble_eq_true rfl, Nat.le_of_ble_eq_true rfl⟩ (r_bV hC h 0 (by omega)) rfl rfl hl.1 (Nat.le_of_ble_eq_true rfl) dX3_writeStory_61 ⟨Nat.le_of_ble_eq_true rfl, Nat.le_of_ble_eq_true rfl⟩ (fun r u H locs hp h => ?_)
  obtain ⟨rfl, rfl⟩ := hp
  refine lv_if_eq (tgt := 77) hx hcd dX3_writeStory_64 (by decide) (fun c_20 => ?_) (fun c_20 => ?_)
  · have c_20 := bz0 c_20
    have f_23 : ¬ ((j < B.2 0) ∧ ((B.2 2).testBit j = true)) := fun z => Bool.noConfusion (c_20.symm.trans (band_t (decide_eq_true z.1) z.2))
    refine lv_aload_n hx hcd dX3_writeStory_77 rfl (lv_at hl 0 rfl) ?_
    refine va_get (D := eD V) (ci := 7) (v := .ref (eX V (8 * 0))) (C := RX3) (T := TX3) (N := 11) hx hcd G.2.2.2.2 iwX3 G.2.2.2.1 hC.1 h.1 (96 + 0) (cF_at V _ (i := 0) (by decide)) rfl 0 (by decide) (G.2.2.2.2 _ mw_242) (fun y h9 => h9) rfl dX3_writeStory_78 ?_
    refine lv_iload_n hx hcd dX3_writeStory_81 rfl (lv_at hl 1 rfl) ?_
    refine k_Vi (As := [.int (nI (j))]) (rest := []) (b := eX V (8 * 0)) G hC hB h (met_X0_openBlockerCount l V (uPut S 0 y_17) 0 B (by omega) hz hn j (by omega)) mw_969 kv_X0_openBlockerCount ⟨rfl, rfl⟩ ⟨Nat.le_of_ble_eq_true rfl, Nat.le_of_ble_eq_true rfl⟩ (r_bV hC h 0 (by omega)) rfl rfl hl.1 (Nat.le_of_ble_eq_true rfl) dX3_writeStory_82 ⟨Nat.le_of_ble_eq_true rfl, Nat.le_of_ble_eq_true rfl⟩ (fun r u H locs hp h => ?_)
    obtain ⟨rfl, rfl⟩ := hp
    have q_24 := opn_le B j
    refine lv_if_le (tgt := 98) hx hcd dX3_writeStory_85 (by decide) (fun c_25 => ?_) (fun c_25 => ?_)
    · have c_25 := cLe (tN (n := opn B j) (by omega)) t0 c_25
      refine lv_aload_n hx hcd dX3_writeStory_98 rfl (lv_at hl 0 rfl) ?_
      refine va_get (D := eD V) (ci := 7) (v := .ref (eX V (8 * 0))) (C := RX3) (T := TX3) (N := 11) hx hcd G.2.2.2.2 iwX3 G.2.2.2.1 hC.1 h.1 (96 + 0) (cF_at V _ (i := 0) (by decide)) rfl 0 (by decide) (G.2.2.2.2 _ mw_242) (fun y h9 => h9) rfl dX3_writeStory_99 ?_
      refine lv_iload_n hx hcd dX3_writeStory_102 rfl (lv_at hl 1 rfl) ?_
      refine k_Vi (As := [.int (nI (j))]) (rest := []) (b := eX V (8 * 0)) G hC hB h (met_X0_assigneeOf l V (uPut S 0 y_17) 0 B (by omega) hz j (by omega)) mw_1126 kv_X0_assigneeOf ⟨rfl, rfl⟩ ⟨Nat.le_of_ble_eq_true rfl, Nat.le_of_ble_eq_true rfl⟩ (r_bV hC h 0 (by omega)) rfl rfl hl.1 (Nat.le_of_ble_eq_true rfl) dX3_writeStory_103 ⟨Nat.le_of_ble_eq_true rfl, Nat.le_of_ble_eq_true rfl⟩ (fun r u H locs hp h => ?_)
      obtain ⟨rfl, rfl⟩ := hp
      have q_26 := asgOf_le B j
      refine lv_istore_n (lv' := [(2, .int (nI (asgOf B j) - 1)), (0, .ref (eX V 96)), (1, .int (nI (j)))]) hx hcd dX3_writeStory_106 rfl hl (by decide) rfl (fun ls hl => ?_)
      refine lv_iload_n hx hcd dX3_writeStory_107 rfl (lv_at hl 0 rfl) ?_
      refine lv_iconst (v := -1) hx hcd dX3_writeStory_108 (by decide) ?_
      refine lv_icmp_eq (tgt := 126) hx hcd dX3_writeStory_109 (by decide) (fun c_27 => ?_) (fun c_27 => ?_)
      · have c_27 := cEq (tA (n := asgOf B j) (by omega)) tm1 c_27
        refine lv_aload_n hx hcd dX3_writeStory_126 rfl (lv_at hl 1 rfl) ?_
        refine va_get (D := eD V) (ci := 7) (v := .ref (eX V (104 + 0))) (C := RX3) (T := TX3) (N := 11) hx hcd G.2.2.2.2 iwX3 G.2.2.2.1 hC.1 h.1 (96 + 0) (cF_at V _ (i := 0) (by decide)) rfl 6 (by decide) (G.2.2.2.2 _ mw_248) (fun y h9 => h9) rfl dX3_writeStory_127 ?_
        refine k_Vi (As := []) (rest := []) (b := eX V (104 + 0)) G hC hB h (met_J4_length_8abf5 l V (setB (uPut S 0 y_17) 0 B) 0 (by decide)) mw_701 kv_J4_length_8abf5 ⟨rfl, rfl⟩ ⟨Nat.le_of_ble_eq_true rfl, Nat.le_of_ble_eq_true rfl⟩ (r_uV hC h 0 (by decide)) rfl rfl hl.1 (Nat.le_of_ble_eq_true rfl) dX3_writeStory_130 ⟨Nat.le_of_ble_eq_true rfl, Nat.le_of_ble_eq_true rfl⟩ (fun r u H locs hp h => ?_)
        obtain ⟨hr9, hu⟩ := hp; obtain rfl : r = nI ((((([] ++ dgs j) ++ [58]) ++ dgs (B.1 1 (j))) ++ [47]) ++ dgs (B.1 0 (j))).length := hr9.trans (congrArg nI (by rw [lnA]; exact hl9_18.1))
        rw [hu] at h
        exact kx_reti hQ G hret hlocks h (⟨j, rfl, hj, by rw [show lnS B j = ((((([] ++ dgs j) ++ [58]) ++ dgs (B.1 1 (j))) ++ [47]) ++ dgs (B.1 0 (j))) by unfold lnS ln3 ln2 ln1; rw [if_pos (show asgOf B j = 0 by omega), if_neg (show ¬ 0 < opn B j by omega), if_neg (show ¬ (decide (j < B.2 0) && (B.2 2).testBit j) = true by rw [Bool.not_eq_true]; assumption)]], _, by rw [show lnS B j = ((((([] ++ dgs j) ++ [58]) ++ dgs (B.1 1 (j))) ++ [47]) ++ dgs (B.1 0 (j))) by unfold lnS ln3 ln2 ln1; rw [if_pos (show asgOf B j = 0 by omega), if_neg (show ¬ 0 < opn B j by omega), if_neg (show ¬ (decide (j < B.2 0) && (B.2 2).testBit j) = true by rw [Bool.not_eq_true]; assumption)]]; exact hl9_18, rfl⟩) (Nat.le_of_ble_eq_true rfl) (Nat.le_of_ble_eq_true rfl) dX3_writeStory_133
      · have c_27 := cNe (tA (n := asgOf B j) (by omega)) tm1 c_27
        refine lv_aload_n hx hcd dX3_writeStory_112 rfl (lv_at hl 1 rfl) ?_
        refine va_get (D := eD V) (ci := 7) (v := .ref (eX V (104 + 0))) (C := RX3) (T := TX3) (N := 11) hx hcd G.2.2.2.2 iwX3 G.2.2.2.1 hC.1 h.1 (96 + 0) (cF_at V _ (i := 0) (by decide)) rfl 6 (by decide) (G.2.2.2.2 _ mw_248) (fun y h9 => h9) rfl dX3_writeStory_113 ?_
        refine lv_bipush (v := nI 64) hx hcd dX3_writeStory_116 (by decide) ?_
        have h := cH_u 0 h
        refine k_Vr (As := [.int (nI 64)]) (rest := []) (b := eX V (104 + 0)) G hC hB h (met_J4_append_cf468 l V hV (setB (uPut S 0 y_17) 0 B) 0 (by decide) ((setB (uPut S 0 y_17) 0 B).2.2.2 0) ((((([] ++ dgs j) ++ [58]) ++ dgs (B.1 1 (j))) ++ [47]) ++ dgs (B.1 0 (j))) hl9_18 64 (by first | assumption | omega | (have := he j; have := hr j; omega)) (Nat.lt_of_le_of_lt n_19 (by decide))) mw_678 kv_J4_append_cf468 ⟨rfl, rfl⟩ ⟨Nat.le_of_ble_eq_true rfl, Nat.le_of_ble_eq_true rfl⟩ (r_uV hC h 0 (by decide)) rfl rfl hl.1 (Nat.le_of_ble_eq_true rfl) dX3_writeStory_118 ⟨Nat.le_of_ble_eq_true rfl, Nat.le_of_ble_eq_true rfl⟩ (fun u H locs hp h => ?_)
        obtain ⟨y_28, hl9_29, hu⟩ := hp; rw [hu, lnU] at h
        have n_30 : (((((([] ++ dgs j) ++ [58]) ++ dgs (B.1 1 (j))) ++ [47]) ++ dgs (B.1 0 (j))) ++ [64]).length ≤ 12 := lapp1 n_19 64
        have e8 : nI (asgOf B j) - 1 = nI (asgOf B j - 1) := pk_sub (b := 1) (by omega)
        rw [e8] at hl
        refine lv_iload_n hx hcd dX3_writeStory_121 rfl (lv_at hl 0 rfl) ?_
        have h := cH_u 0 h
        refine k_Vr (As := [.int (nI (asgOf B j - 1))]) (rest := []) (b := eX V (104 + 0)) G hC hB h (met_J4_append_bf812 l V hV (setB (uPut S 0 y_28) 0 B) 0 (by decide) ((setB (uPut S 0 y_28) 0 B).2.2.2 0) (((((([] ++ dgs j) ++ [58]) ++ dgs (B.1 1 (j))) ++ [47]) ++ dgs (B.1 0 (j))) ++ [64]) hl9_29 (asgOf B j - 1) (by first | assumption | omega | (have := he j; have := hr j; omega)) (by omega)) mw_700 kv_J4_append_bf812 ⟨rfl, rfl⟩ ⟨Nat.le_of_ble_eq_true rfl, Nat.le_of_ble_eq_true rfl⟩ (r_uV hC h 0 (by decide)) rfl rfl hl.1 (Nat.le_of_ble_eq_true rfl) dX3_writeStory_122 ⟨Nat.le_of_ble_eq_true rfl, Nat.le_of_ble_eq_true rfl⟩ (fun u H locs hp h => ?_)
        obtain ⟨y_31, hl9_32, hu⟩ := hp; rw [hu, lnU] at h
        have n_33 : ((((((([] ++ dgs j) ++ [58]) ++ dgs (B.1 1 (j))) ++ [47]) ++ dgs (B.1 0 (j))) ++ [64]) ++ dgs (asgOf B j - 1)).length ≤ 15 := lapp3 n_30 (asgOf B j - 1)
        refine lv_pop hx hcd dX3_writeStory_125 rfl ?_
        refine lv_aload_n hx hcd dX3_writeStory_126 rfl (lv_at hl 1 rfl) ?_
        refine va_get (D := eD V) (ci := 7) (v := .ref (eX V (104 + 0))) (C := RX3) (T := TX3) (N := 11) hx hcd G.2.2.2.2 iwX3 G.2.2.2.1 hC.1 h.1 (96 + 0) (cF_at V _ (i := 0) (by decide)) rfl 6 (by decide) (G.2.2.2.2 _ mw_248) (fun y h9 => h9) rfl dX3_writeStory_127 ?_
        refine k_Vi (As := []) (rest := []) (b := eX V (104 + 0)) G hC hB h (met_J4_length_8abf5 l V (setB (uPut S 0 y_31) 0 B) 0 (by decide)) mw_701 kv_J4_length_8abf5 ⟨rfl, rfl⟩ ⟨Nat.le_of_ble_eq_true rfl, Nat.le_of_ble_eq_true rfl⟩ (r_uV hC h 0 (by decide)) rfl rfl hl.1 (Nat.le_of_ble_eq_true rfl) dX3_writeStory_130 ⟨Nat.le_of_ble_eq_true rfl, Nat.le_of_ble_eq_true rfl⟩ (fun r u H locs hp h => ?_)
        obtain ⟨hr9, hu⟩ := hp; obtain rfl : r = nI ((((((([] ++ dgs j) ++ [58]) ++ dgs (B.1 1 (j))) ++ [47]) ++ dgs (B.1 0 (j))) ++ [64]) ++ dgs (asgOf B j - 1)).length := hr9.trans (congrArg nI (by rw [lnA]; exact hl9_32.1))
        rw [hu] at h
        exact kx_reti hQ G hret hlocks h (⟨j, rfl, hj, by rw [show lnS B j = ((((((([] ++ dgs j) ++ [58]) ++ dgs (B.1 1 (j))) ++ [47]) ++ dgs (B.1 0 (j))) ++ [64]) ++ dgs (asgOf B j - 1)) by unfold lnS ln3 ln2 ln1; rw [if_neg (show ¬ asgOf B j = 0 by omega), if_neg (show ¬ 0 < opn B j by omega), if_neg (show ¬ (decide (j < B.2 0) && (B.2 2).testBit j) = true by rw [Bool.not_eq_true]; assumption)]], _, by rw [show lnS B j = ((((((([] ++ dgs j) ++ [58]) ++ dgs (B.1 1 (j))) ++ [47]) ++ dgs (B.1 0 (j))) ++ [64]) ++ dgs (asgOf B j - 1)) by unfold lnS ln3 ln2 ln1; rw [if_neg (show ¬ asgOf B j = 0 by omega), if_neg (show ¬ 0 < opn B j by omega), if_neg (show ¬ (decide (j < B.2 0) && (B.2 2).testBit j) = true by rw [Bool.not_eq_true]; assumption)]]; exact hl9_32, rfl⟩) (Nat.le_of_ble_eq_true rfl) (Nat.le_of_ble_eq_true rfl) dX3_writeStory_133
    · have c_25 := cNle (tN (n := opn B j) (by omega)) t0 c_25
      refine lv_aload_n hx hcd dX3_writeStory_88 rfl (lv_at hl 0 rfl) ?_
      refine va_get (D := eD V) (ci := 7) (v := .ref (eX V (104 + 0))) (C := RX3) (T := TX3) (N := 11) hx hcd G.2.2.2.2 iwX3 G.2.2.2.1 hC.1 h.1 (96 + 0) (cF_at V _ (i := 0) (by decide)) rfl 6 (by decide) (G.2.2.2.2 _ mw_248) (fun y h9 => h9) rfl dX3_writeStory_89 ?_
      refine lv_bipush (v := nI 98) hx hcd dX3_writeStory_92 (by decide) ?_
      have h := cH_u 0 h
      refine k_Vr (As := [.int (nI 98)]) (rest := []) (b := eX V (104 + 0)) G hC hB h (met_J4_append_cf468 l V hV (setB (uPut S 0 y_17) 0 B) 0 (by decide) ((setB (uPut S 0 y_17) 0 B).2.2.2 0) ((((([] ++ dgs j) ++ [58]) ++ dgs (B.1 1 (j))) ++ [47]) ++ dgs (B.1 0 (j))) hl9_18 98 (by first | assumption | omega | (have := he j; have := hr j; omega)) (Nat.lt_of_le_of_lt n_19 (by decide))) mw_678 kv_J4_append_cf468 ⟨rfl, rfl⟩ ⟨Nat.le_of_ble_eq_true rfl, Nat.le_of_ble_eq_true rfl⟩ (r_uV hC h 0 (by decide)) rfl rfl hl.1 (Nat.le_of_ble_eq_true rfl) dX3_writeStory_94 ⟨Nat.le_of_ble_eq_true rfl, Nat.le_of_ble_eq_true rfl⟩ (fun u H locs hp h => ?_)
      obtain ⟨y_34, hl9_35, hu⟩ := hp; rw [hu, lnU] at h
      have n_36 : (((((([] ++ dgs j) ++ [58]) ++ dgs (B.1 1 (j))) ++ [47]) ++ dgs (B.1 0 (j))) ++ [98]).length ≤ 12 := lapp1 n_19 98
      refine lv_pop hx hcd dX3_writeStory_97 rfl ?_
      refine lv_aload_n hx hcd dX3_writeStory_98 rfl (lv_at hl 0 rfl) ?_
      refine va_get (D := eD V) (ci := 7) (v := .ref (eX V (8 * 0))) (C := RX3) (T := TX3) (N := 11) hx hcd G.2.2.2.2 iwX3 G.2.2.2.1 hC.1 h.1 (96 + 0) (cF_at V _ (i := 0) (by decide)) rfl 0 (by decide) (G.2.2.2.2 _ mw_242) (fun y h9 => h9) rfl dX3_writeStory_99 ?_
      refine lv_iload_n hx hcd dX3_writeStory_102 rfl (lv_at hl 1 rfl) ?_
      refine k_Vi (As := [.int (nI (j))]) (rest := []) (b := eX V (8 * 0)) G hC hB h (met_X0_assigneeOf l V (uPut S 0 y_34) 0 B (by omega) hz j (by omega)) mw_1126 kv_X0_assigneeOf ⟨rfl, rfl⟩ ⟨Nat.le_of_ble_eq_true rfl, Nat.le_of_ble_eq_true rfl⟩ (r_bV hC h 0 (by omega)) rfl rfl hl.1 (Nat.le_of_ble_eq_true rfl) dX3_writeStory_103 ⟨Nat.le_of_ble_eq_true rfl, Nat.le_of_ble_eq_true rfl⟩ (fun r u H locs hp h => ?_)
      obtain ⟨rfl, rfl⟩ := hp
      have q_37 := asgOf_le B j
      refine lv_istore_n (lv' := [(2, .int (nI (asgOf B j) - 1)), (0, .ref (eX V 96)), (1, .int (nI (j)))]) hx hcd dX3_writeStory_106 rfl hl (by decide) rfl (fun ls hl => ?_)
      refine lv_iload_n hx hcd dX3_writeStory_107 rfl (lv_at hl 0 rfl) ?_
      refine lv_iconst (v := -1) hx hcd dX3_writeStory_108 (by decide) ?_
      refine lv_icmp_eq (tgt := 126) hx hcd dX3_writeStory_109 (by decide) (fun c_38 => ?_) (fun c_38 => ?_)
      · have c_38 := cEq (tA (n := asgOf B j) (by omega)) tm1 c_38
        refine lv_aload_n hx hcd dX3_writeStory_126 rfl (lv_at hl 1 rfl) ?_
        refine va_get (D := eD V) (ci := 7) (v := .ref (eX V (104 + 0))) (C := RX3) (T := TX3) (N := 11) hx hcd G.2.2.2.2 iwX3 G.2.2.2.1 hC.1 h.1 (96 + 0) (cF_at V _ (i := 0) (by decide)) rfl 6 (by decide) (G.2.2.2.2 _ mw_248) (fun y h9 => h9) rfl dX3_writeStory_127 ?_
        refine k_Vi (As := []) (rest := []) (b := eX V (104 + 0)) G hC hB h (met_J4_length_8abf5 l V (setB (uPut S 0 y_34) 0 B) 0 (by decide)) mw_701 kv_J4_length_8abf5 ⟨rfl, rfl⟩ ⟨Nat.le_of_ble_eq_true rfl, Nat.le_of_ble_eq_true rfl⟩ (r_uV hC h 0 (by decide)) rfl rfl hl.1 (Nat.le_of_ble_eq_true rfl) dX3_writeStory_130 ⟨Nat.le_of_ble_eq_true rfl, Nat.le_of_ble_eq_true rfl⟩ (fun r u H locs hp h => ?_)
        obtain ⟨hr9, hu⟩ := hp; obtain rfl : r = nI (((((([] ++ dgs j) ++ [58]) ++ dgs (B.1 1 (j))) ++ [47]) ++ dgs (B.1 0 (j))) ++ [98]).length := hr9.trans (congrArg nI (by rw [lnA]; exact hl9_35.1))
        rw [hu] at h
        exact kx_reti hQ G hret hlocks h (⟨j, rfl, hj, by rw [show lnS B j = (((((([] ++ dgs j) ++ [58]) ++ dgs (B.1 1 (j))) ++ [47]) ++ dgs (B.1 0 (j))) ++ [98]) by unfold lnS ln3 ln2 ln1; rw [if_pos (show asgOf B j = 0 by omega), if_pos (show 0 < opn B j by omega), if_neg (show ¬ (decide (j < B.2 0) && (B.2 2).testBit j) = true by rw [Bool.not_eq_true]; assumption)]], _, by rw [show lnS B j = (((((([] ++ dgs j) ++ [58]) ++ dgs (B.1 1 (j))) ++ [47]) ++ dgs (B.1 0 (j))) ++ [98]) by unfold lnS ln3 ln2 ln1; rw [if_pos (show asgOf B j = 0 by omega), if_pos (show 0 < opn B j by omega), if_neg (show ¬ (decide (j < B.2 0) && (B.2 2).testBit j) = true by rw [Bool.not_eq_true]; assumption)]]; exact hl9_35, rfl⟩) (Nat.le_of_ble_eq_true rfl) (Nat.le_of_ble_eq_true rfl) dX3_writeStory_133
      · have c_38 := cNe (tA (n := asgOf B j) (by omega)) tm1 c_38
        refine lv_aload_n hx hcd dX3_writeStory_112 rfl (lv_at hl 1 rfl) ?_
        refine va_get (D := eD V) (ci := 7) (v := .ref (eX V (104 + 0))) (C := RX3) (T := TX3) (N := 11) hx hcd G.2.2.2.2 iwX3 G.2.2.2.1 hC.1 h.1 (96 + 0) (cF_at V _ (i := 0) (by decide)) rfl 6 (by decide) (G.2.2.2.2 _ mw_248) (fun y h9 => h9) rfl dX3_writeStory_113 ?_
        refine lv_bipush (v := nI 64) hx hcd dX3_writeStory_116 (by decide) ?_
        have h := cH_u 0 h
        refine k_Vr (As := [.int (nI 64)]) (rest := []) (b := eX V (104 + 0)) G hC hB h (met_J4_append_cf468 l V hV (setB (uPut S 0 y_34) 0 B) 0 (by decide) ((setB (uPut S 0 y_34) 0 B).2.2.2 0) (((((([] ++ dgs j) ++ [58]) ++ dgs (B.1 1 (j))) ++ [47]) ++ dgs (B.1 0 (j))) ++ [98]) hl9_35 64 (by first | assumption | omega | (have := he j; have := hr j; omega)) (Nat.lt_of_le_of_lt n_36 (by decide))) mw_678 kv_J4_append_cf468 ⟨rfl, rfl⟩ ⟨Nat.le_of_ble_eq_true rfl, Nat.le_of_ble_eq_true rfl⟩ (r_uV hC h 0 (by decide)) rfl rfl hl.1 (Nat.le_of_ble_eq_true rfl) dX3_writeStory_118 ⟨Nat.le_of_ble_eq_true rfl, Nat.le_of_ble_eq_true rfl⟩ (fun u H locs hp h => ?_)
        obtain ⟨y_39, hl9_40, hu⟩ := hp; rw [hu, lnU] at h
        have n_41 : ((((((([] ++ dgs j) ++ [58]) ++ dgs (B.1 1 (j))) ++ [47]) ++ dgs (B.1 0 (j))) ++ [98]) ++ [64]).length ≤ 13 := lapp1 n_36 64
        have e8 : nI (asgOf B j) - 1 = nI (asgOf B j - 1) := pk_sub (b := 1) (by omega)
        rw [e8] at hl
        refine lv_iload_n hx hcd dX3_writeStory_121 rfl (lv_at hl 0 rfl) ?_
        have h := cH_u 0 h
        refine k_Vr (As := [.int (nI (asgOf B j - 1))]) (rest := []) (b := eX V (104 + 0)) G hC hB h (met_J4_append_bf812 l V hV (setB (uPut S 0 y_39) 0 B) 0 (by decide) ((setB (uPut S 0 y_39) 0 B).2.2.2 0) ((((((([] ++ dgs j) ++ [58]) ++ dgs (B.1 1 (j))) ++ [47]) ++ dgs (B.1 0 (j))) ++ [98]) ++ [64]) hl9_40 (asgOf B j - 1) (by first | assumption | omega | (have := he j; have := hr j; omega)) (by omega)) mw_700 kv_J4_append_bf812 ⟨rfl, rfl⟩ ⟨Nat.le_of_ble_eq_true rfl, Nat.le_of_ble_eq_true rfl⟩ (r_uV hC h 0 (by decide)) rfl rfl hl.1 (Nat.le_of_ble_eq_true rfl) dX3_writeStory_122 ⟨Nat.le_of_ble_eq_true rfl, Nat.le_of_ble_eq_true rfl⟩ (fun u H locs hp h => ?_)
        obtain ⟨y_42, hl9_43, hu⟩ := hp; rw [hu, lnU] at h
        have n_44 : (((((((([] ++ dgs j) ++ [58]) ++ dgs (B.1 1 (j))) ++ [47]) ++ dgs (B.1 0 (j))) ++ [98]) ++ [64]) ++ dgs (asgOf B j - 1)).length ≤ 16 := lapp3 n_41 (asgOf B j - 1)
        refine lv_pop hx hcd dX3_writeStory_125 rfl ?_
        refine lv_aload_n hx hcd dX3_writeStory_126 rfl (lv_at hl 1 rfl) ?_
        refine va_get (D := eD V) (ci := 7) (v := .ref (eX V (104 + 0))) (C := RX3) (T := TX3) (N := 11) hx hcd G.2.2.2.2 iwX3 G.2.2.2.1 hC.1 h.1 (96 + 0) (cF_at V _ (i := 0) (by decide)) rfl 6 (by decide) (G.2.2.2.2 _ mw_248) (fun y h9 => h9) rfl dX3_writeStory_127 ?_
        refine k_Vi (As := []) (rest := []) (b := eX V (104 + 0)) G hC hB h (met_J4_length_8abf5 l V (setB (uPut S 0 y_42) 0 B) 0 (by decide)) mw_701 kv_J4_length_8abf5 ⟨rfl, rfl⟩ ⟨Nat.le_of_ble_eq_true rfl, Nat.le_of_ble_eq_true rfl⟩ (r_uV hC h 0 (by decide)) rfl rfl hl.1 (Nat.le_of_ble_eq_true rfl) dX3_writeStory_130 ⟨Nat.le_of_ble_eq_true rfl, Nat.le_of_ble_eq_true rfl⟩ (fun r u H locs hp h => ?_)
        obtain ⟨hr9, hu⟩ := hp; obtain rfl : r = nI (((((((([] ++ dgs j) ++ [58]) ++ dgs (B.1 1 (j))) ++ [47]) ++ dgs (B.1 0 (j))) ++ [98]) ++ [64]) ++ dgs (asgOf B j - 1)).length := hr9.trans (congrArg nI (by rw [lnA]; exact hl9_43.1))
        rw [hu] at h
        exact kx_reti hQ G hret hlocks h (⟨j, rfl, hj, by rw [show lnS B j = (((((((([] ++ dgs j) ++ [58]) ++ dgs (B.1 1 (j))) ++ [47]) ++ dgs (B.1 0 (j))) ++ [98]) ++ [64]) ++ dgs (asgOf B j - 1)) by unfold lnS ln3 ln2 ln1; rw [if_neg (show ¬ asgOf B j = 0 by omega), if_pos (show 0 < opn B j by omega), if_neg (show ¬ (decide (j < B.2 0) && (B.2 2).testBit j) = true by rw [Bool.not_eq_true]; assumption)]], _, by rw [show lnS B j = (((((((([] ++ dgs j) ++ [58]) ++ dgs (B.1 1 (j))) ++ [47]) ++ dgs (B.1 0 (j))) ++ [98]) ++ [64]) ++ dgs (asgOf B j - 1)) by unfold lnS ln3 ln2 ln1; rw [if_neg (show ¬ asgOf B j = 0 by omega), if_pos (show 0 < opn B j by omega), if_neg (show ¬ (decide (j < B.2 0) && (B.2 2).testBit j) = true by rw [Bool.not_eq_true]; assumption)]]; exact hl9_43, rfl⟩) (Nat.le_of_ble_eq_true rfl) (Nat.le_of_ble_eq_true rfl) dX3_writeStory_133
  · have c_20 := bz1 c_20
    have f_21 := of_decide_eq_true (band_l c_20)
    have f_22 := (band_r c_20)
    refine lv_aload_n hx hcd dX3_writeStory_67 rfl (lv_at hl 0 rfl) ?_
    refine va_get (D := eD V) (ci := 7) (v := .ref (eX V (104 + 0))) (C := RX3) (T := TX3) (N := 11) hx hcd G.2.2.2.2 iwX3 G.2.2.2.1 hC.1 h.1 (96 + 0) (cF_at V _ (i := 0) (by decide)) rfl 6 (by decide) (G.2.2.2.2 _ mw_248) (fun y h9 => h9) rfl dX3_writeStory_68 ?_
    refine lv_bipush (v := nI 112) hx hcd dX3_writeStory_71 (by decide) ?_
    have h := cH_u 0 h
    refine k_Vr (As := [.int (nI 112)]) (rest := []) (b := eX V (104 + 0)) G hC hB h (met_J4_append_cf468 l V hV (setB (uPut S 0 y_17) 0 B) 0 (by decide) ((setB (uPut S 0 y_17) 0 B).2.2.2 0) ((((([] ++ dgs j) ++ [58]) ++ dgs (B.1 1 (j))) ++ [47]) ++ dgs (B.1 0 (j))) hl9_18 112 (by first | assumption | omega | (have := he j; have := hr j; omega)) (Nat.lt_of_le_of_lt n_19 (by decide))) mw_678 kv_J4_append_cf468 ⟨rfl, rfl⟩ ⟨Nat.le_of_ble_eq_true rfl, Nat.le_of_ble_eq_true rfl⟩ (r_uV hC h 0 (by decide)) rfl rfl hl.1 (Nat.le_of_ble_eq_true rfl) dX3_writeStory_73 ⟨Nat.le_of_ble_eq_true rfl, Nat.le_of_ble_eq_true rfl⟩ (fun u H locs hp h => ?_)
    obtain ⟨y_45, hl9_46, hu⟩ := hp; rw [hu, lnU] at h
    have n_47 : (((((([] ++ dgs j) ++ [58]) ++ dgs (B.1 1 (j))) ++ [47]) ++ dgs (B.1 0 (j))) ++ [112]).length ≤ 12 := lapp1 n_19 112
    refine lv_pop hx hcd dX3_writeStory_76 rfl ?_
    refine lv_aload_n hx hcd dX3_writeStory_77 rfl (lv_at hl 0 rfl) ?_
    refine va_get (D := eD V) (ci := 7) (v := .ref (eX V (8 * 0))) (C := RX3) (T := TX3) (N := 11) hx hcd G.2.2.2.2 iwX3 G.2.2.2.1 hC.1 h.1 (96 + 0) (cF_at V _ (i := 0) (by decide)) rfl 0 (by decide) (G.2.2.2.2 _ mw_242) (fun y h9 => h9) rfl dX3_writeStory_78 ?_
    refine lv_iload_n hx hcd dX3_writeStory_81 rfl (lv_at hl 1 rfl) ?_
    refine k_Vi (As := [.int (nI (j))]) (rest := []) (b := eX V (8 * 0)) G hC hB h (met_X0_openBlockerCount l V (uPut S 0 y_45) 0 B (by omega) hz hn j (by omega)) mw_969 kv_X0_openBlockerCount ⟨rfl, rfl⟩ ⟨Nat.le_of_ble_eq_true rfl, Nat.le_of_ble_eq_true rfl⟩ (r_bV hC h 0 (by omega)) rfl rfl hl.1 (Nat.le_of_ble_eq_true rfl) dX3_writeStory_82 ⟨Nat.le_of_ble_eq_true rfl, Nat.le_of_ble_eq_true rfl⟩ (fun r u H locs hp h => ?_)
    obtain ⟨rfl, rfl⟩ := hp
    have q_48 := opn_le B j
    refine lv_if_le (tgt := 98) hx hcd dX3_writeStory_85 (by decide) (fun c_49 => ?_) (fun c_49 => ?_)
    · have c_49 := cLe (tN (n := opn B j) (by omega)) t0 c_49
      refine lv_aload_n hx hcd dX3_writeStory_98 rfl (lv_at hl 0 rfl) ?_
      refine va_get (D := eD V) (ci := 7) (v := .ref (eX V (8 * 0))) (C := RX3) (T := TX3) (N := 11) hx hcd G.2.2.2.2 iwX3 G.2.2.2.1 hC.1 h.1 (96 + 0) (cF_at V _ (i := 0) (by decide)) rfl 0 (by decide) (G.2.2.2.2 _ mw_242) (fun y h9 => h9) rfl dX3_writeStory_99 ?_
      refine lv_iload_n hx hcd dX3_writeStory_102 rfl (lv_at hl 1 rfl) ?_
      refine k_Vi (As := [.int (nI (j))]) (rest := []) (b := eX V (8 * 0)) G hC hB h (met_X0_assigneeOf l V (uPut S 0 y_45) 0 B (by omega) hz j (by omega)) mw_1126 kv_X0_assigneeOf ⟨rfl, rfl⟩ ⟨Nat.le_of_ble_eq_true rfl, Nat.le_of_ble_eq_true rfl⟩ (r_bV hC h 0 (by omega)) rfl rfl hl.1 (Nat.le_of_ble_eq_true rfl) dX3_writeStory_103 ⟨Nat.le_of_ble_eq_true rfl, Nat.le_of_ble_eq_true rfl⟩ (fun r u H locs hp h => ?_)
      obtain ⟨rfl, rfl⟩ := hp
      have q_50 := asgOf_le B j
      refine lv_istore_n (lv' := [(2, .int (nI (asgOf B j) - 1)), (0, .ref (eX V 96)), (1, .int (nI (j)))]) hx hcd dX3_writeStory_106 rfl hl (by decide) rfl (fun ls hl => ?_)
      refine lv_iload_n hx hcd dX3_writeStory_107 rfl (lv_at hl 0 rfl) ?_
      refine lv_iconst (v := -1) hx hcd dX3_writeStory_108 (by decide) ?_
      refine lv_icmp_eq (tgt := 126) hx hcd dX3_writeStory_109 (by decide) (fun c_51 => ?_) (fun c_51 => ?_)
      · have c_51 := cEq (tA (n := asgOf B j) (by omega)) tm1 c_51
        refine lv_aload_n hx hcd dX3_writeStory_126 rfl (lv_at hl 1 rfl) ?_
        refine va_get (D := eD V) (ci := 7) (v := .ref (eX V (104 + 0))) (C := RX3) (T := TX3) (N := 11) hx hcd G.2.2.2.2 iwX3 G.2.2.2.1 hC.1 h.1 (96 + 0) (cF_at V _ (i := 0) (by decide)) rfl 6 (by decide) (G.2.2.2.2 _ mw_248) (fun y h9 => h9) rfl dX3_writeStory_127 ?_
        refine k_Vi (As := []) (rest := []) (b := eX V (104 + 0)) G hC hB h (met_J4_length_8abf5 l V (setB (uPut S 0 y_45) 0 B) 0 (by decide)) mw_701 kv_J4_length_8abf5 ⟨rfl, rfl⟩ ⟨Nat.le_of_ble_eq_true rfl, Nat.le_of_ble_eq_true rfl⟩ (r_uV hC h 0 (by decide)) rfl rfl hl.1 (Nat.le_of_ble_eq_true rfl) dX3_writeStory_130 ⟨Nat.le_of_ble_eq_true rfl, Nat.le_of_ble_eq_true rfl⟩ (fun r u H locs hp h => ?_)
        obtain ⟨hr9, hu⟩ := hp; obtain rfl : r = nI (((((([] ++ dgs j) ++ [58]) ++ dgs (B.1 1 (j))) ++ [47]) ++ dgs (B.1 0 (j))) ++ [112]).length := hr9.trans (congrArg nI (by rw [lnA]; exact hl9_46.1))
        rw [hu] at h
        exact kx_reti hQ G hret hlocks h (⟨j, rfl, hj, by rw [show lnS B j = (((((([] ++ dgs j) ++ [58]) ++ dgs (B.1 1 (j))) ++ [47]) ++ dgs (B.1 0 (j))) ++ [112]) by unfold lnS ln3 ln2 ln1; rw [if_pos (show asgOf B j = 0 by omega), if_neg (show ¬ 0 < opn B j by omega), if_pos (show (decide (j < B.2 0) && (B.2 2).testBit j) = true by assumption)]], _, by rw [show lnS B j = (((((([] ++ dgs j) ++ [58]) ++ dgs (B.1 1 (j))) ++ [47]) ++ dgs (B.1 0 (j))) ++ [112]) by unfold lnS ln3 ln2 ln1; rw [if_pos (show asgOf B j = 0 by omega), if_neg (show ¬ 0 < opn B j by omega), if_pos (show (decide (j < B.2 0) && (B.2 2).testBit j) = true by assumption)]]; exact hl9_46, rfl⟩) (Nat.le_of_ble_eq_true rfl) (Nat.le_of_ble_eq_true rfl) dX3_writeStory_133
      · have c_51 := cNe (tA (n := asgOf B j) (by omega)) tm1 c_51
        refine lv_aload_n hx hcd dX3_writeStory_112 rfl (lv_at hl 1 rfl) ?_
        refine va_get (D := eD V) (ci := 7) (v := .ref (eX V (104 + 0))) (C := RX3) (T := TX3) (N := 11) hx hcd G.2.2.2.2 iwX3 G.2.2.2.1 hC.1 h.1 (96 + 0) (cF_at V _ (i := 0) (by decide)) rfl 6 (by decide) (G.2.2.2.2 _ mw_248) (fun y h9 => h9) rfl dX3_writeStory_113 ?_
        refine lv_bipush (v := nI 64) hx hcd dX3_writeStory_116 (by decide) ?_
        have h := cH_u 0 h
        refine k_Vr (As := [.int (nI 64)]) (rest := []) (b := eX V (104 + 0)) G hC hB h (met_J4_append_cf468 l V hV (setB (uPut S 0 y_45) 0 B) 0 (by decide) ((setB (uPut S 0 y_45) 0 B).2.2.2 0) (((((([] ++ dgs j) ++ [58]) ++ dgs (B.1 1 (j))) ++ [47]) ++ dgs (B.1 0 (j))) ++ [112]) hl9_46 64 (by first | assumption | omega | (have := he j; have := hr j; omega)) (Nat.lt_of_le_of_lt n_47 (by decide))) mw_678 kv_J4_append_cf468 ⟨rfl, rfl⟩ ⟨Nat.le_of_ble_eq_true rfl, Nat.le_of_ble_eq_true rfl⟩ (r_uV hC h 0 (by decide)) rfl rfl hl.1 (Nat.le_of_ble_eq_true rfl) dX3_writeStory_118 ⟨Nat.le_of_ble_eq_true rfl, Nat.le_of_ble_eq_true rfl⟩ (fun u H locs hp h => ?_)
        obtain ⟨y_52, hl9_53, hu⟩ := hp; rw [hu, lnU] at h
        have n_54 : ((((((([] ++ dgs j) ++ [58]) ++ dgs (B.1 1 (j))) ++ [47]) ++ dgs (B.1 0 (j))) ++ [112]) ++ [64]).length ≤ 13 := lapp1 n_47 64
        have e8 : nI (asgOf B j) - 1 = nI (asgOf B j - 1) := pk_sub (b := 1) (by omega)
        rw [e8] at hl
        refine lv_iload_n hx hcd dX3_writeStory_121 rfl (lv_at hl 0 rfl) ?_
        have h := cH_u 0 h
        refine k_Vr (As := [.int (nI (asgOf B j - 1))]) (rest := []) (b := eX V (104 + 0)) G hC hB h (met_J4_append_bf812 l V hV (setB (uPut S 0 y_52) 0 B) 0 (by decide) ((setB (uPut S 0 y_52) 0 B).2.2.2 0) ((((((([] ++ dgs j) ++ [58]) ++ dgs (B.1 1 (j))) ++ [47]) ++ dgs (B.1 0 (j))) ++ [112]) ++ [64]) hl9_53 (asgOf B j - 1) (by first | assumption | omega | (have := he j; have := hr j; omega)) (by omega)) mw_700 kv_J4_append_bf812 ⟨rfl, rfl⟩ ⟨Nat.le_of_ble_eq_true rfl, Nat.le_of_ble_eq_true rfl⟩ (r_uV hC h 0 (by decide)) rfl rfl hl.1 (Nat.le_of_ble_eq_true rfl) dX3_writeStory_122 ⟨Nat.le_of_ble_eq_true rfl, Nat.le_of_ble_eq_true rfl⟩ (fun u H locs hp h => ?_)
        obtain ⟨y_55, hl9_56, hu⟩ := hp; rw [hu, lnU] at h
        have n_57 : (((((((([] ++ dgs j) ++ [58]) ++ dgs (B.1 1 (j))) ++ [47]) ++ dgs (B.1 0 (j))) ++ [112]) ++ [64]) ++ dgs (asgOf B j - 1)).length ≤ 16 := lapp3 n_54 (asgOf B j - 1)
        refine lv_pop hx hcd dX3_writeStory_125 rfl ?_
        refine lv_aload_n hx hcd dX3_writeStory_126 rfl (lv_at hl 1 rfl) ?_
        refine va_get (D := eD V) (ci := 7) (v := .ref (eX V (104 + 0))) (C := RX3) (T := TX3) (N := 11) hx hcd G.2.2.2.2 iwX3 G.2.2.2.1 hC.1 h.1 (96 + 0) (cF_at V _ (i := 0) (by decide)) rfl 6 (by decide) (G.2.2.2.2 _ mw_248) (fun y h9 => h9) rfl dX3_writeStory_127 ?_
        refine k_Vi (As := []) (rest := []) (b := eX V (104 + 0)) G hC hB h (met_J4_length_8abf5 l V (setB (uPut S 0 y_55) 0 B) 0 (by decide)) mw_701 kv_J4_length_8abf5 ⟨rfl, rfl⟩ ⟨Nat.le_of_ble_eq_true rfl, Nat.le_of_ble_eq_true rfl⟩ (r_uV hC h 0 (by decide)) rfl rfl hl.1 (Nat.le_of_ble_eq_true rfl) dX3_writeStory_130 ⟨Nat.le_of_ble_eq_true rfl, Nat.le_of_ble_eq_true rfl⟩ (fun r u H locs hp h => ?_)
        obtain ⟨hr9, hu⟩ := hp; obtain rfl : r = nI (((((((([] ++ dgs j) ++ [58]) ++ dgs (B.1 1 (j))) ++ [47]) ++ dgs (B.1 0 (j))) ++ [112]) ++ [64]) ++ dgs (asgOf B j - 1)).length := hr9.trans (congrArg nI (by rw [lnA]; exact hl9_56.1))
        rw [hu] at h
        exact kx_reti hQ G hret hlocks h (⟨j, rfl, hj, by rw [show lnS B j = (((((((([] ++ dgs j) ++ [58]) ++ dgs (B.1 1 (j))) ++ [47]) ++ dgs (B.1 0 (j))) ++ [112]) ++ [64]) ++ dgs (asgOf B j - 1)) by unfold lnS ln3 ln2 ln1; rw [if_neg (show ¬ asgOf B j = 0 by omega), if_neg (show ¬ 0 < opn B j by omega), if_pos (show (decide (j < B.2 0) && (B.2 2).testBit j) = true by assumption)]], _, by rw [show lnS B j = (((((((([] ++ dgs j) ++ [58]) ++ dgs (B.1 1 (j))) ++ [47]) ++ dgs (B.1 0 (j))) ++ [112]) ++ [64]) ++ dgs (asgOf B j - 1)) by unfold lnS ln3 ln2 ln1; rw [if_neg (show ¬ asgOf B j = 0 by omega), if_neg (show ¬ 0 < opn B j by omega), if_pos (show (decide (j < B.2 0) && (B.2 2).testBit j) = true by assumption)]]; exact hl9_56, rfl⟩) (Nat.le_of_ble_eq_true rfl) (Nat.le_of_ble_eq_true rfl) dX3_writeStory_133
    · have c_49 := cNle (tN (n := opn B j) (by omega)) t0 c_49
      refine lv_aload_n hx hcd dX3_writeStory_88 rfl (lv_at hl 0 rfl) ?_
      refine va_get (D := eD V) (ci := 7) (v := .ref (eX V (104 + 0))) (C := RX3) (T := TX3) (N := 11) hx hcd G.2.2.2.2 iwX3 G.2.2.2.1 hC.1 h.1 (96 + 0) (cF_at V _ (i := 0) (by decide)) rfl 6 (by decide) (G.2.2.2.2 _ mw_248) (fun y h9 => h9) rfl dX3_writeStory_89 ?_
      refine lv_bipush (v := nI 98) hx hcd dX3_writeStory_92 (by decide) ?_
      have h := cH_u 0 h
      refine k_Vr (As := [.int (nI 98)]) (rest := []) (b := eX V (104 + 0)) G hC hB h (met_J4_append_cf468 l V hV (setB (uPut S 0 y_45) 0 B) 0 (by decide) ((setB (uPut S 0 y_45) 0 B).2.2.2 0) (((((([] ++ dgs j) ++ [58]) ++ dgs (B.1 1 (j))) ++ [47]) ++ dgs (B.1 0 (j))) ++ [112]) hl9_46 98 (by first | assumption | omega | (have := he j; have := hr j; omega)) (Nat.lt_of_le_of_lt n_47 (by decide))) mw_678 kv_J4_append_cf468 ⟨rfl, rfl⟩ ⟨Nat.le_of_ble_eq_true rfl, Nat.le_of_ble_eq_true rfl⟩ (r_uV hC h 0 (by decide)) rfl rfl hl.1 (Nat.le_of_ble_eq_true rfl) dX3_writeStory_94 ⟨Nat.le_of_ble_eq_true rfl, Nat.le_of_ble_eq_true rfl⟩ (fun u H locs hp h => ?_)
      obtain ⟨y_58, hl9_59, hu⟩ := hp; rw [hu, lnU] at h
      have n_60 : ((((((([] ++ dgs j) ++ [58]) ++ dgs (B.1 1 (j))) ++ [47]) ++ dgs (B.1 0 (j))) ++ [112]) ++ [98]).length ≤ 13 := lapp1 n_47 98
      refine lv_pop hx hcd dX3_writeStory_97 rfl ?_
      refine lv_aload_n hx hcd dX3_writeStory_98 rfl (lv_at hl 0 rfl) ?_
      refine va_get (D := eD V) (ci := 7) (v := .ref (eX V (8 * 0))) (C := RX3) (T := TX3) (N := 11) hx hcd G.2.2.2.2 iwX3 G.2.2.2.1 hC.1 h.1 (96 + 0) (cF_at V _ (i := 0) (by decide)) rfl 0 (by decide) (G.2.2.2.2 _ mw_242) (fun y h9 => h9) rfl dX3_writeStory_99 ?_
      refine lv_iload_n hx hcd dX3_writeStory_102 rfl (lv_at hl 1 rfl) ?_
      refine k_Vi (As := [.int (nI (j))]) (rest := []) (b := eX V (8 * 0)) G hC hB h (met_X0_assigneeOf l V (uPut S 0 y_58) 0 B (by omega) hz j (by omega)) mw_1126 kv_X0_assigneeOf ⟨rfl, rfl⟩ ⟨Nat.le_of_ble_eq_true rfl, Nat.le_of_ble_eq_true rfl⟩ (r_bV hC h 0 (by omega)) rfl rfl hl.1 (Nat.le_of_ble_eq_true rfl) dX3_writeStory_103 ⟨Nat.le_of_ble_eq_true rfl, Nat.le_of_ble_eq_true rfl⟩ (fun r u H locs hp h => ?_)
      obtain ⟨rfl, rfl⟩ := hp
      have q_61 := asgOf_le B j
      refine lv_istore_n (lv' := [(2, .int (nI (asgOf B j) - 1)), (0, .ref (eX V 96)), (1, .int (nI (j)))]) hx hcd dX3_writeStory_106 rfl hl (by decide) rfl (fun ls hl => ?_)
      refine lv_iload_n hx hcd dX3_writeStory_107 rfl (lv_at hl 0 rfl) ?_
      refine lv_iconst (v := -1) hx hcd dX3_writeStory_108 (by decide) ?_
      refine lv_icmp_eq (tgt := 126) hx hcd dX3_writeStory_109 (by decide) (fun c_62 => ?_) (fun c_62 => ?_)
      · have c_62 := cEq (tA (n := asgOf B j) (by omega)) tm1 c_62
        refine lv_aload_n hx hcd dX3_writeStory_126 rfl (lv_at hl 1 rfl) ?_
        refine va_get (D := eD V) (ci := 7) (v := .ref (eX V (104 + 0))) (C := RX3) (T := TX3) (N := 11) hx hcd G.2.2.2.2 iwX3 G.2.2.2.1 hC.1 h.1 (96 + 0) (cF_at V _ (i := 0) (by decide)) rfl 6 (by decide) (G.2.2.2.2 _ mw_248) (fun y h9 => h9) rfl dX3_writeStory_127 ?_
        refine k_Vi (As := []) (rest := []) (b := eX V (104 + 0)) G hC hB h (met_J4_length_8abf5 l V (setB (uPut S 0 y_58) 0 B) 0 (by decide)) mw_701 kv_J4_length_8abf5 ⟨rfl, rfl⟩ ⟨Nat.le_of_ble_eq_true rfl, Nat.le_of_ble_eq_true rfl⟩ (r_uV hC h 0 (by decide)) rfl rfl hl.1 (Nat.le_of_ble_eq_true rfl) dX3_writeStory_130 ⟨Nat.le_of_ble_eq_true rfl, Nat.le_of_ble_eq_true rfl⟩ (fun r u H locs hp h => ?_)
        obtain ⟨hr9, hu⟩ := hp; obtain rfl : r = nI ((((((([] ++ dgs j) ++ [58]) ++ dgs (B.1 1 (j))) ++ [47]) ++ dgs (B.1 0 (j))) ++ [112]) ++ [98]).length := hr9.trans (congrArg nI (by rw [lnA]; exact hl9_59.1))
        rw [hu] at h
        exact kx_reti hQ G hret hlocks h (⟨j, rfl, hj, by rw [show lnS B j = ((((((([] ++ dgs j) ++ [58]) ++ dgs (B.1 1 (j))) ++ [47]) ++ dgs (B.1 0 (j))) ++ [112]) ++ [98]) by unfold lnS ln3 ln2 ln1; rw [if_pos (show asgOf B j = 0 by omega), if_pos (show 0 < opn B j by omega), if_pos (show (decide (j < B.2 0) && (B.2 2).testBit j) = true by assumption)]], _, by rw [show lnS B j = ((((((([] ++ dgs j) ++ [58]) ++ dgs (B.1 1 (j))) ++ [47]) ++ dgs (B.1 0 (j))) ++ [112]) ++ [98]) by unfold lnS ln3 ln2 ln1; rw [if_pos (show asgOf B j = 0 by omega), if_pos (show 0 < opn B j by omega), if_pos (show (decide (j < B.2 0) && (B.2 2).testBit j) = true by assumption)]]; exact hl9_59, rfl⟩) (Nat.le_of_ble_eq_true rfl) (Nat.le_of_ble_eq_true rfl) dX3_writeStory_133
      · have c_62 := cNe (tA (n := asgOf B j) (by omega)) tm1 c_62
        refine lv_aload_n hx hcd dX3_writeStory_112 rfl (lv_at hl 1 rfl) ?_
        refine va_get (D := eD V) (ci := 7) (v := .ref (eX V (104 + 0))) (C := RX3) (T := TX3) (N := 11) hx hcd G.2.2.2.2 iwX3 G.2.2.2.1 hC.1 h.1 (96 + 0) (cF_at V _ (i := 0) (by decide)) rfl 6 (by decide) (G.2.2.2.2 _ mw_248) (fun y h9 => h9) rfl dX3_writeStory_113 ?_
        refine lv_bipush (v := nI 64) hx hcd dX3_writeStory_116 (by decide) ?_
        have h := cH_u 0 h
        refine k_Vr (As := [.int (nI 64)]) (rest := []) (b := eX V (104 + 0)) G hC hB h (met_J4_append_cf468 l V hV (setB (uPut S 0 y_58) 0 B) 0 (by decide) ((setB (uPut S 0 y_58) 0 B).2.2.2 0) ((((((([] ++ dgs j) ++ [58]) ++ dgs (B.1 1 (j))) ++ [47]) ++ dgs (B.1 0 (j))) ++ [112]) ++ [98]) hl9_59 64 (by first | assumption | omega | (have := he j; have := hr j; omega)) (Nat.lt_of_le_of_lt n_60 (by decide))) mw_678 kv_J4_append_cf468 ⟨rfl, rfl⟩ ⟨Nat.le_of_ble_eq_true rfl, Nat.le_of_ble_eq_true rfl⟩ (r_uV hC h 0 (by decide)) rfl rfl hl.1 (Nat.le_of_ble_eq_true rfl) dX3_writeStory_118 ⟨Nat.le_of_ble_eq_true rfl, Nat.le_of_ble_eq_true rfl⟩ (fun u H locs hp h => ?_)
        obtain ⟨y_63, hl9_64, hu⟩ := hp; rw [hu, lnU] at h
        have n_65 : (((((((([] ++ dgs j) ++ [58]) ++ dgs (B.1 1 (j))) ++ [47]) ++ dgs (B.1 0 (j))) ++ [112]) ++ [98]) ++ [64]).length ≤ 14 := lapp1 n_60 64
        have e8 : nI (asgOf B j) - 1 = nI (asgOf B j - 1) := pk_sub (b := 1) (by omega)
        rw [e8] at hl
        refine lv_iload_n hx hcd dX3_writeStory_121 rfl (lv_at hl 0 rfl) ?_
        have h := cH_u 0 h
        refine k_Vr (As := [.int (nI (asgOf B j - 1))]) (rest := []) (b := eX V (104 + 0)) G hC hB h (met_J4_append_bf812 l V hV (setB (uPut S 0 y_63) 0 B) 0 (by decide) ((setB (uPut S 0 y_63) 0 B).2.2.2 0) (((((((([] ++ dgs j) ++ [58]) ++ dgs (B.1 1 (j))) ++ [47]) ++ dgs (B.1 0 (j))) ++ [112]) ++ [98]) ++ [64]) hl9_64 (asgOf B j - 1) (by first | assumption | omega | (have := he j; have := hr j; omega)) (by omega)) mw_700 kv_J4_append_bf812 ⟨rfl, rfl⟩ ⟨Nat.le_of_ble_eq_true rfl, Nat.le_of_ble_eq_true rfl⟩ (r_uV hC h 0 (by decide)) rfl rfl hl.1 (Nat.le_of_ble_eq_true rfl) dX3_writeStory_122 ⟨Nat.le_of_ble_eq_true rfl, Nat.le_of_ble_eq_true rfl⟩ (fun u H locs hp h => ?_)
        obtain ⟨y_66, hl9_67, hu⟩ := hp; rw [hu, lnU] at h
        have n_68 : ((((((((([] ++ dgs j) ++ [58]) ++ dgs (B.1 1 (j))) ++ [47]) ++ dgs (B.1 0 (j))) ++ [112]) ++ [98]) ++ [64]) ++ dgs (asgOf B j - 1)).length ≤ 17 := lapp3 n_65 (asgOf B j - 1)
        refine lv_pop hx hcd dX3_writeStory_125 rfl ?_
        refine lv_aload_n hx hcd dX3_writeStory_126 rfl (lv_at hl 1 rfl) ?_
        refine va_get (D := eD V) (ci := 7) (v := .ref (eX V (104 + 0))) (C := RX3) (T := TX3) (N := 11) hx hcd G.2.2.2.2 iwX3 G.2.2.2.1 hC.1 h.1 (96 + 0) (cF_at V _ (i := 0) (by decide)) rfl 6 (by decide) (G.2.2.2.2 _ mw_248) (fun y h9 => h9) rfl dX3_writeStory_127 ?_
        refine k_Vi (As := []) (rest := []) (b := eX V (104 + 0)) G hC hB h (met_J4_length_8abf5 l V (setB (uPut S 0 y_66) 0 B) 0 (by decide)) mw_701 kv_J4_length_8abf5 ⟨rfl, rfl⟩ ⟨Nat.le_of_ble_eq_true rfl, Nat.le_of_ble_eq_true rfl⟩ (r_uV hC h 0 (by decide)) rfl rfl hl.1 (Nat.le_of_ble_eq_true rfl) dX3_writeStory_130 ⟨Nat.le_of_ble_eq_true rfl, Nat.le_of_ble_eq_true rfl⟩ (fun r u H locs hp h => ?_)
        obtain ⟨hr9, hu⟩ := hp; obtain rfl : r = nI ((((((((([] ++ dgs j) ++ [58]) ++ dgs (B.1 1 (j))) ++ [47]) ++ dgs (B.1 0 (j))) ++ [112]) ++ [98]) ++ [64]) ++ dgs (asgOf B j - 1)).length := hr9.trans (congrArg nI (by rw [lnA]; exact hl9_67.1))
        rw [hu] at h
        exact kx_reti hQ G hret hlocks h (⟨j, rfl, hj, by rw [show lnS B j = ((((((((([] ++ dgs j) ++ [58]) ++ dgs (B.1 1 (j))) ++ [47]) ++ dgs (B.1 0 (j))) ++ [112]) ++ [98]) ++ [64]) ++ dgs (asgOf B j - 1)) by unfold lnS ln3 ln2 ln1; rw [if_neg (show ¬ asgOf B j = 0 by omega), if_pos (show 0 < opn B j by omega), if_pos (show (decide (j < B.2 0) && (B.2 2).testBit j) = true by assumption)]], _, by rw [show lnS B j = ((((((((([] ++ dgs j) ++ [58]) ++ dgs (B.1 1 (j))) ++ [47]) ++ dgs (B.1 0 (j))) ++ [112]) ++ [98]) ++ [64]) ++ dgs (asgOf B j - 1)) by unfold lnS ln3 ln2 ln1; rw [if_neg (show ¬ asgOf B j = 0 by omega), if_pos (show 0 < opn B j by omega), if_pos (show (decide (j < B.2 0) && (B.2 2).testBit j) = true by assumption)]]; exact hl9_67, rfl⟩) (Nat.le_of_ble_eq_true rfl) (Nat.le_of_ble_eq_true rfl) dX3_writeStory_133
set_option maxHeartbeats 4000000 in
set_option maxRecDepth 100000 in
/-- writeBurnDown() -/
theorem met_X3_writeBurnDown (l : Launch) (V : kEnv) (S : kCs) (B : kBd) (hI : bI B) (hV : kOk V) (L0 : List Nat) (hR0 : sbR (S.2.2.2 0) L0) : kI l yX3_writeBurnDown cX3_writeBurnDown 2 (some .int) { frames := 6, cells := 24, slots := 3000, locals := 156 } V (cWs V) [.ref (eX V 96)] (setB S 0 B) (fun r u => r = nI (if B.2 3 = 0 then [] else bdl B (B.2 5 + 1)).length ∧ ∃ y, sbR y (if B.2 3 = 0 then [] else bdl B (B.2 5 + 1)) ∧ u = setB (uPut S 0 y) 0 B) 24 3000 := by
  refine kI_of (by decide +kernel) ((by first | exact Nat.le_of_ble_eq_true rfl | omega | (dsimp only; omega))) ?_
  intro pg e s m args below meth c G hret hlocks hC hB h ls hl Q hQ
  have hl : lv_has ls 2 [(0, .ref (eX V 96))] := hl
  have hx := G.1
  have hcd := G.2.1
  have hI0 := hI
  obtain ⟨hz, hbn, hn, hm, h3, h54, h4, h7, hr, he, ha, hact, h5⟩ := hI
  refine lv_aload_n hx hcd dX3_writeBurnDown_0 rfl (lv_at hl 0 rfl) ?_
  refine va_get (D := eD V) (ci := 7) (v := .ref (eX V (104 + 0))) (C := RX3) (T := TX3) (N := 11) hx hcd G.2.2.2.2 iwX3 G.2.2.2.1 hC.1 h.1 (96 + 0) (cF_at V _ (i := 0) (by decide)) rfl 6 (by decide) (G.2.2.2.2 _ mw_248) (fun y h9 => h9) rfl dX3_writeBurnDown_1 ?_
  refine lv_iconst (v := nI 0) hx hcd dX3_writeBurnDown_4 (by decide) ?_
  have h := cH_u 0 h
  refine k_Vv (As := [.int (nI 0)]) (rest := []) (b := eX V (104 + 0)) G hC hB h (met_J4_setLength_d00df l V hV (setB S 0 B) 0 (by decide) ((setB S 0 B).2.2.2 0) L0 hR0) mw_327 kv_J4_setLength_d00df ⟨rfl, rfl⟩ ⟨(by first | exact Nat.le_of_ble_eq_true rfl | omega | (dsimp only; omega)), (by first | exact Nat.le_of_ble_eq_true rfl | omega | (dsimp only; omega))⟩ (r_uV hC h 0 (by decide)) rfl rfl hl.1 ((by first | exact Nat.le_of_ble_eq_true rfl | omega | (dsimp only; omega))) dX3_writeBurnDown_5 ⟨(by first | exact Nat.le_of_ble_eq_true rfl | omega | (dsimp only; omega)), (by first | exact Nat.le_of_ble_eq_true rfl | omega | (dsimp only; omega))⟩ (fun u H locs hp h => ?_)
  obtain ⟨y_1, hl9_2, hu⟩ := hp; rw [hu] at h
  have h : cH V s H locs (cWs V (setB (uPut S 0 y_1) 0 B)) := h
  have n0 : ([] : List Nat).length ≤ 0 := Nat.le_refl _
  refine lv_iconst (v := nI 0) hx hcd dX3_writeBurnDown_8 (by decide) ?_
  refine lv_istore_n (lv' := [(1, .int (nI 0)), (0, .ref (eX V 96))]) hx hcd dX3_writeBurnDown_9 rfl hl (by decide) rfl (fun ls hl => ?_)
  have L_3 : ∀ (fu_5 : Nat) (i : Nat) (y9 : kSb) (L9 : List Nat) (cl : Nat) (sl : Nat) (hi : i ≤ 11) (hia : i = 0 ∨ (B.2 3 ≠ 0 ∧ i ≤ B.2 5 + 1)) (hLb : L9 = bdl B i) (hRl : sbR y9 L9) (hLn : L9.length ≤ 4 * i) (hcl : cl ≤ 1 + 2 * i) (hsl : sl ≤ 120 + 240 * i), 12 - i < fu_5 → ∀ (H : Heap) (locs : List Loc), cH V s H locs (cWs V (setB (uPut S 0 y9) 0 B)) → ∀ ls : Array Slot, lv_has ls 2 [(1, .int (nI (i))), (0, .ref (eX V 96))] → W pg l e { frames := 6, cells := 24, slots := 3000, locals := 156 } s m args below meth c H locs cl sl Q (F0 m 10 ls []) := by
    intro fu_5
    induction fu_5 with
    | zero => intro i y9 L9 cl sl hi hia hLb hRl hLn hcl hsl hm; exact absurd hm (Nat.not_lt_zero _)
    | succ fu_5 ih_4 =>
      intro i y9 L9 cl sl hi hia hLb hRl hLn hcl hsl hm H locs h ls hl
      refine lv_iload_n hx hcd dX3_writeBurnDown_10 rfl (lv_at hl 0 rfl) ?_
      refine lv_aload_n hx hcd dX3_writeBurnDown_11 rfl (lv_at hl 1 rfl) ?_
      refine va_get (D := eD V) (ci := 7) (v := .ref (eX V (8 * 0))) (C := RX3) (T := TX3) (N := 11) hx hcd G.2.2.2.2 iwX3 G.2.2.2.1 hC.1 h.1 (96 + 0) (cF_at V _ (i := 0) (by decide)) rfl 0 (by decide) (G.2.2.2.2 _ mw_242) (fun y h9 => h9) rfl dX3_writeBurnDown_12 ?_
      refine r_bA G hC h 0 5 (by omega) (by decide) mw_108 dX3_writeBurnDown_15 ?_
      refine r_bN G hC h 0 5 (by omega) (by decide) (x := nI (11)) rfl dX3_writeBurnDown_18 ?_
      refine lv_icmp_ge (tgt := 70) hx hcd dX3_writeBurnDown_19 (by decide) (fun c_6 => ?_) (fun c_6 => ?_)
      · have c_6 := cLe (tN (n := 11) (by decide)) (tN (n := i) (by omega)) c_6
        refine lv_aload_n hx hcd dX3_writeBurnDown_70 rfl (lv_at hl 1 rfl) ?_
        refine va_get (D := eD V) (ci := 7) (v := .ref (eX V (104 + 0))) (C := RX3) (T := TX3) (N := 11) hx hcd G.2.2.2.2 iwX3 G.2.2.2.1 hC.1 h.1 (96 + 0) (cF_at V _ (i := 0) (by decide)) rfl 6 (by decide) (G.2.2.2.2 _ mw_248) (fun y h9 => h9) rfl dX3_writeBurnDown_71 ?_
        refine k_Vi (As := []) (rest := []) (b := eX V (104 + 0)) G hC hB h (met_J4_length_8abf5 l V (setB (uPut S 0 y9) 0 B) 0 (by decide)) mw_701 kv_J4_length_8abf5 ⟨rfl, rfl⟩ ⟨(by first | exact Nat.le_of_ble_eq_true rfl | omega | (dsimp only; omega)), (by first | exact Nat.le_of_ble_eq_true rfl | omega | (dsimp only; omega))⟩ (r_uV hC h 0 (by decide)) rfl rfl hl.1 ((by first | exact Nat.le_of_ble_eq_true rfl | omega | (dsimp only; omega))) dX3_writeBurnDown_74 ⟨(by first | exact Nat.le_of_ble_eq_true rfl | omega | (dsimp only; omega)), (by first | exact Nat.le_of_ble_eq_true rfl | omega | (dsimp only; omega))⟩ (fun r u H locs hp h => ?_)
        obtain ⟨hr9, hu⟩ := hp; obtain rfl : r = nI L9.length := hr9.trans (congrArg nI (by rw [lnA]; exact hRl.1))
        rw [hu] at h
        exact k_reti hQ G hret hlocks h (⟨by rw [show (if B.2 3 = 0 then [] else bdl B (B.2 5 + 1)) = L9 from (bdl_end hia (fun _ => by omega)).trans hLb.symm], _, by rw [show (if B.2 3 = 0 then [] else bdl B (B.2 5 + 1)) = L9 from (bdl_end hia (fun _ => by omega)).trans hLb.symm]; exact hRl, rfl⟩) ((by first | exact Nat.le_of_ble_eq_true rfl | omega | (dsimp only; omega))) ((by first | exact Nat.le_of_ble_eq_true rfl | omega | (dsimp only; omega))) dX3_writeBurnDown_77
      · have c_6 := cNle (tN (n := 11) (by decide)) (tN (n := i) (by omega)) c_6
        refine lv_aload_n hx hcd dX3_writeBurnDown_22 rfl (lv_at hl 1 rfl) ?_
        refine va_get (D := eD V) (ci := 7) (v := .ref (eX V (8 * 0))) (C := RX3) (T := TX3) (N := 11) hx hcd G.2.2.2.2 iwX3 G.2.2.2.1 hC.1 h.1 (96 + 0) (cF_at V _ (i := 0) (by decide)) rfl 0 (by decide) (G.2.2.2.2 _ mw_242) (fun y h9 => h9) rfl dX3_writeBurnDown_23 ?_
        refine lv_iload_n hx hcd dX3_writeBurnDown_26 rfl (lv_at hl 0 rfl) ?_
        have ti : (nI i : Int32).toInt = (i : Int) := tN (by omega)
        refine k_Vi (As := [.int (nI (i))]) (rest := []) (b := eX V (8 * 0)) G hC hB h (met_X0_hasRecorded l V (uPut S 0 y9) 0 B (by omega) hz (by omega) (nI (i))) mw_674 kv_X0_hasRecorded ⟨rfl, rfl⟩ ⟨(by first | exact Nat.le_of_ble_eq_true rfl | omega | (dsimp only; omega)), (by first | exact Nat.le_of_ble_eq_true rfl | omega | (dsimp only; omega))⟩ (r_bV hC h 0 (by omega)) rfl rfl hl.1 ((by first | exact Nat.le_of_ble_eq_true rfl | omega | (dsimp only; omega))) dX3_writeBurnDown_27 ⟨(by first | exact Nat.le_of_ble_eq_true rfl | omega | (dsimp only; omega)), (by first | exact Nat.le_of_ble_eq_true rfl | omega | (dsimp only; omega))⟩ (fun r u H locs hp h => ?_)
        obtain ⟨rfl, rfl⟩ := hp
        refine lv_if_eq (tgt := 70) hx hcd dX3_writeBurnDown_30 (by decide) (fun c_7 => ?_) (fun c_7 => ?_)
        · have c_7 := bz0 c_7
          have f_10 : ¬ ((B.2 3 ≠ 0) ∧ (0 ≤ (nI (i) : Int32).toInt ∧ (nI (i) : Int32).toInt ≤ (B.2 5 : Nat))) := fun z => Bool.noConfusion (c_7.symm.trans (band_t (decide_eq_true z.1) (decide_eq_true z.2)))
          have hnr : B.2 3 ≠ 0 → ¬ i ≤ B.2 5 := fun z1 z2 => by first | omega | simp_all
          refine lv_aload_n hx hcd dX3_writeBurnDown_70 rfl (lv_at hl 1 rfl) ?_
          refine va_get (D := eD V) (ci := 7) (v := .ref (eX V (104 + 0))) (C := RX3) (T := TX3) (N := 11) hx hcd G.2.2.2.2 iwX3 G.2.2.2.1 hC.1 h.1 (96 + 0) (cF_at V _ (i := 0) (by decide)) rfl 6 (by decide) (G.2.2.2.2 _ mw_248) (fun y h9 => h9) rfl dX3_writeBurnDown_71 ?_
          refine k_Vi (As := []) (rest := []) (b := eX V (104 + 0)) G hC hB h (met_J4_length_8abf5 l V (setB (uPut S 0 y9) 0 B) 0 (by decide)) mw_701 kv_J4_length_8abf5 ⟨rfl, rfl⟩ ⟨(by first | exact Nat.le_of_ble_eq_true rfl | omega | (dsimp only; omega)), (by first | exact Nat.le_of_ble_eq_true rfl | omega | (dsimp only; omega))⟩ (r_uV hC h 0 (by decide)) rfl rfl hl.1 ((by first | exact Nat.le_of_ble_eq_true rfl | omega | (dsimp only; omega))) dX3_writeBurnDown_74 ⟨(by first | exact Nat.le_of_ble_eq_true rfl | omega | (dsimp only; omega)), (by first | exact Nat.le_of_ble_eq_true rfl | omega | (dsimp only; omega))⟩ (fun r u H locs hp h => ?_)
          obtain ⟨hr9, hu⟩ := hp; obtain rfl : r = nI L9.length := hr9.trans (congrArg nI (by rw [lnA]; exact hRl.1))
          rw [hu] at h
          exact k_reti hQ G hret hlocks h (⟨by rw [show (if B.2 3 = 0 then [] else bdl B (B.2 5 + 1)) = L9 from (bdl_end hia hnr).trans hLb.symm], _, by rw [show (if B.2 3 = 0 then [] else bdl B (B.2 5 + 1)) = L9 from (bdl_end hia hnr).trans hLb.symm]; exact hRl, rfl⟩) ((by first | exact Nat.le_of_ble_eq_true rfl | omega | (dsimp only; omega))) ((by first | exact Nat.le_of_ble_eq_true rfl | omega | (dsimp only; omega))) dX3_writeBurnDown_77
        · have c_7 := bz1 c_7
          have f_8 := of_decide_eq_true (band_l c_7)
          have f_9 := of_decide_eq_true (band_r c_7)
          have hb1 : B.2 3 ≠ 0 := by first | assumption | omega
          have h5i := h5 i
          refine lv_iload_n hx hcd dX3_writeBurnDown_33 rfl (lv_at hl 0 rfl) ?_
          refine lv_if_le (tgt := 47) hx hcd dX3_writeBurnDown_34 (by decide) (fun c_11 => ?_) (fun c_11 => ?_)
          · have c_11 := cLe (tN (n := i) (by omega)) t0 c_11
            refine lv_aload_n hx hcd dX3_writeBurnDown_47 rfl (lv_at hl 1 rfl) ?_
            refine va_get (D := eD V) (ci := 7) (v := .ref (eX V (104 + 0))) (C := RX3) (T := TX3) (N := 11) hx hcd G.2.2.2.2 iwX3 G.2.2.2.1 hC.1 h.1 (96 + 0) (cF_at V _ (i := 0) (by decide)) rfl 6 (by decide) (G.2.2.2.2 _ mw_248) (fun y h9 => h9) rfl dX3_writeBurnDown_48 ?_
            refine lv_aload_n hx hcd dX3_writeBurnDown_51 rfl (lv_at hl 1 rfl) ?_
            refine va_get (D := eD V) (ci := 7) (v := .ref (eX V (8 * 0))) (C := RX3) (T := TX3) (N := 11) hx hcd G.2.2.2.2 iwX3 G.2.2.2.1 hC.1 h.1 (96 + 0) (cF_at V _ (i := 0) (by decide)) rfl 0 (by decide) (G.2.2.2.2 _ mw_242) (fun y h9 => h9) rfl dX3_writeBurnDown_52 ?_
            refine r_bA G hC h 0 5 (by omega) (by decide) mw_108 dX3_writeBurnDown_55 ?_
            refine lv_iload_n hx hcd dX3_writeBurnDown_58 rfl (lv_at hl 0 rfl) ?_
            refine r_bL G hC h 0 5 i (by omega) (by decide) (setB_at _ _ _) rfl (show i < 11 by omega) (x := nI (B.1 5 (i))) rfl dX3_writeBurnDown_59 ?_
            have q_12 := hz.1 5 (i)
            have h := cH_u 0 h
            refine k_Vr (As := [.int (nI (B.1 5 (i)))]) (rest := []) (b := eX V (104 + 0)) G hC hB h (met_J4_append_bf812 l V hV (setB (uPut S 0 y9) 0 B) 0 (by decide) ((setB (uPut S 0 y9) 0 B).2.2.2 0) L9 hRl (B.1 5 (i)) (by omega) (by omega)) mw_700 kv_J4_append_bf812 ⟨rfl, rfl⟩ ⟨(by first | exact Nat.le_of_ble_eq_true rfl | omega | (dsimp only; omega)), (by first | exact Nat.le_of_ble_eq_true rfl | omega | (dsimp only; omega))⟩ (r_uV hC h 0 (by decide)) rfl rfl hl.1 ((by first | exact Nat.le_of_ble_eq_true rfl | omega | (dsimp only; omega))) dX3_writeBurnDown_60 ⟨(by first | exact Nat.le_of_ble_eq_true rfl | omega | (dsimp only; omega)), (by first | exact Nat.le_of_ble_eq_true rfl | omega | (dsimp only; omega))⟩ (fun u H locs hp h => ?_)
            obtain ⟨y_13, hl9_14, hu⟩ := hp; rw [hu, lnU] at h
            have n_15 : (L9 ++ dgs (B.1 5 (i))).length ≤ 4 * i + 3 := lapp3 hLn (B.1 5 (i))
            refine lv_pop hx hcd dX3_writeBurnDown_63 rfl ?_
            refine lv_iinc (v := nI (i + 1)) (lv' := [(1, .int (nI (i + 1))), (0, .ref (eX V 96))]) hx hcd dX3_writeBurnDown_64 hl (k := 0) rfl (by exact nI_add (i) 1) (by decide) rfl (fun ls hl => ?_)
            refine lv_goto (tgt := 10) hx hcd dX3_writeBurnDown_67 (by decide) ?_
            exact ih_4 (i + 1) y_13 (L9 ++ dgs (B.1 5 (i))) _ _ (by omega) (Or.inr ⟨hb1, by omega⟩) (by rw [bdl, if_neg (show ¬ 0 < i by omega), hLb]) hl9_14 (by omega) (by omega) (by omega) (by omega) _ _ h _ (lv_sub hl [0, 1] rfl)
          · have c_11 := cNle (tN (n := i) (by omega)) t0 c_11
            refine lv_aload_n hx hcd dX3_writeBurnDown_37 rfl (lv_at hl 1 rfl) ?_
            refine va_get (D := eD V) (ci := 7) (v := .ref (eX V (104 + 0))) (C := RX3) (T := TX3) (N := 11) hx hcd G.2.2.2.2 iwX3 G.2.2.2.1 hC.1 h.1 (96 + 0) (cF_at V _ (i := 0) (by decide)) rfl 6 (by decide) (G.2.2.2.2 _ mw_248) (fun y h9 => h9) rfl dX3_writeBurnDown_38 ?_
            refine lv_bipush (v := nI 32) hx hcd dX3_writeBurnDown_41 (by decide) ?_
            have h := cH_u 0 h
            refine k_Vr (As := [.int (nI 32)]) (rest := []) (b := eX V (104 + 0)) G hC hB h (met_J4_append_cf468 l V hV (setB (uPut S 0 y9) 0 B) 0 (by decide) ((setB (uPut S 0 y9) 0 B).2.2.2 0) L9 hRl 32 (by omega) (by omega)) mw_678 kv_J4_append_cf468 ⟨rfl, rfl⟩ ⟨(by first | exact Nat.le_of_ble_eq_true rfl | omega | (dsimp only; omega)), (by first | exact Nat.le_of_ble_eq_true rfl | omega | (dsimp only; omega))⟩ (r_uV hC h 0 (by decide)) rfl rfl hl.1 ((by first | exact Nat.le_of_ble_eq_true rfl | omega | (dsimp only; omega))) dX3_writeBurnDown_43 ⟨(by first | exact Nat.le_of_ble_eq_true rfl | omega | (dsimp only; omega)), (by first | exact Nat.le_of_ble_eq_true rfl | omega | (dsimp only; omega))⟩ (fun u H locs hp h => ?_)
            obtain ⟨y_16, hl9_17, hu⟩ := hp; rw [hu, lnU] at h
            have n_18 : (L9 ++ [32]).length ≤ 4 * i + 1 := lapp1 hLn 32
            refine lv_pop hx hcd dX3_writeBurnDown_46 rfl ?_
            refine lv_aload_n hx hcd dX3_writeBurnDown_47 rfl (lv_at hl 1 rfl) ?_
            refine va_get (D := eD V) (ci := 7) (v := .ref (eX V (104 + 0))) (C := RX3) (T := TX3) (N := 11) hx hcd G.2.2.2.2 iwX3 G.2.2.2.1 hC.1 h.1 (96 + 0) (cF_at V _ (i := 0) (by decide)) rfl 6 (by decide) (G.2.2.2.2 _ mw_248) (fun y h9 => h9) rfl dX3_writeBurnDown_48 ?_
            refine lv_aload_n hx hcd dX3_writeBurnDown_51 rfl (lv_at hl 1 rfl) ?_
            refine va_get (D := eD V) (ci := 7) (v := .ref (eX V (8 * 0))) (C := RX3) (T := TX3) (N := 11) hx hcd G.2.2.2.2 iwX3 G.2.2.2.1 hC.1 h.1 (96 + 0) (cF_at V _ (i := 0) (by decide)) rfl 0 (by decide) (G.2.2.2.2 _ mw_242) (fun y h9 => h9) rfl dX3_writeBurnDown_52 ?_
            refine r_bA G hC h 0 5 (by omega) (by decide) mw_108 dX3_writeBurnDown_55 ?_
            refine lv_iload_n hx hcd dX3_writeBurnDown_58 rfl (lv_at hl 0 rfl) ?_
            refine r_bL G hC h 0 5 i (by omega) (by decide) (setB_at _ _ _) rfl (show i < 11 by omega) (x := nI (B.1 5 (i))) rfl dX3_writeBurnDown_59 ?_
            have q_19 := hz.1 5 (i)
            have h := cH_u 0 h
            refine k_Vr (As := [.int (nI (B.1 5 (i)))]) (rest := []) (b := eX V (104 + 0)) G hC hB h (met_J4_append_bf812 l V hV (setB (uPut S 0 y_16) 0 B) 0 (by decide) ((setB (uPut S 0 y_16) 0 B).2.2.2 0) (L9 ++ [32]) hl9_17 (B.1 5 (i)) (by omega) (by omega)) mw_700 kv_J4_append_bf812 ⟨rfl, rfl⟩ ⟨(by first | exact Nat.le_of_ble_eq_true rfl | omega | (dsimp only; omega)), (by first | exact Nat.le_of_ble_eq_true rfl | omega | (dsimp only; omega))⟩ (r_uV hC h 0 (by decide)) rfl rfl hl.1 ((by first | exact Nat.le_of_ble_eq_true rfl | omega | (dsimp only; omega))) dX3_writeBurnDown_60 ⟨(by first | exact Nat.le_of_ble_eq_true rfl | omega | (dsimp only; omega)), (by first | exact Nat.le_of_ble_eq_true rfl | omega | (dsimp only; omega))⟩ (fun u H locs hp h => ?_)
            obtain ⟨y_20, hl9_21, hu⟩ := hp; rw [hu, lnU] at h
            have n_22 : ((L9 ++ [32]) ++ dgs (B.1 5 (i))).length ≤ 4 * i + 1 + 3 := lapp3 n_18 (B.1 5 (i))
            refine lv_pop hx hcd dX3_writeBurnDown_63 rfl ?_
            refine lv_iinc (v := nI (i + 1)) (lv' := [(1, .int (nI (i + 1))), (0, .ref (eX V 96))]) hx hcd dX3_writeBurnDown_64 hl (k := 0) rfl (by exact nI_add (i) 1) (by decide) rfl (fun ls hl => ?_)
            refine lv_goto (tgt := 10) hx hcd dX3_writeBurnDown_67 (by decide) ?_
            exact ih_4 (i + 1) y_20 ((L9 ++ [32]) ++ dgs (B.1 5 (i))) _ _ (by omega) (Or.inr ⟨hb1, by omega⟩) (by rw [bdl, if_pos (show 0 < i by omega), hLb]) hl9_21 (by omega) (by omega) (by omega) (by omega) _ _ h _ (lv_sub hl [0, 1] rfl)
  exact L_3 (12 + 1) 0 y_1 [] _ _ (by omega) (Or.inl rfl) rfl hl9_2 (by simp) (by omega) (by omega) (by omega) _ _ h _ (lv_sub hl [0, 1] rfl)
set_option maxHeartbeats 4000000 in
set_option maxRecDepth 100000 in
/-- lineAt -/
theorem met_X3_lineAt (l : Launch) (hst : l.stackTraces = false) (V : kEnv) (S : kCs) (B : kBd) (hI : bI B) (L0 : List Nat) (hR0 : sbR (S.2.2.2 0) L0) (x : Int32) : kX l yX3_lineAt cX3_lineAt 2 (some .char) { frames := 7, cells := 6, slots := 36, locals := 110 } V (cWs V) [.ref (eX V 96), .int (x)] (setB S 0 B) (fun r u => ∃ (q : Nat), x = nI q ∧ q < L0.length ∧ r = nI (L0.getD q 0) ∧ u = setB S 0 B) (fun E u => (E = "java/lang/IndexOutOfBoundsException" ∧ ¬ (0 ≤ (x : Int32).toInt ∧ (x : Int32).toInt < (L0.length : Nat)) ∧ u = setB S 0 B)) 6 36 := by
  refine kX_of (by decide +kernel) (Nat.le_of_ble_eq_true rfl) ?_
  intro pg e s m args below meth c G hret hlocks htab hC hB h ls hl Q hQ
  have hl : lv_has ls 2 [(0, .ref (eX V 96)), (1, .int (x))] := hl
  have hx := G.1
  have hcd := G.2.1
  have hI0 := hI
  obtain ⟨hz, hbn, hn, hm, h3, h54, h4, h7, hr, he, ha, hact, h5⟩ := hI
  have hl60 : L0.length ≤ 120 := Nat.le_trans hR0.2.1 hR0.2.2.1
  refine lv_iload_n hx hcd dX3_lineAt_0 rfl (lv_at hl 1 rfl) ?_
  refine lv_if_lt (tgt := 19) hx hcd dX3_lineAt_1 (by decide) (fun c_1 => ?_) (fun c_1 => ?_)
  · have c_1 := cLt (rfl : (x : Int32).toInt = (x : Int32).toInt) t0 c_1
    refine lv_iconst (v := nI 0) hx hcd dX3_lineAt_19 (by decide) ?_
    refine kx_Sv (As := [.int (nI 0)]) (rest := []) G hC hB h (met_X3_requireIndex l hst V (setB S 0 B) false) mw_850 ks_X3_requireIndex ⟨rfl, rfl⟩ ⟨Nat.le_of_ble_eq_true rfl, Nat.le_of_ble_eq_true rfl⟩ rfl rfl hl.1 (Nat.le_of_ble_eq_true rfl) dX3_lineAt_20 ⟨Nat.le_of_ble_eq_true rfl, Nat.le_of_ble_eq_true rfl⟩ (fun E ce q9 u t H1 locs1 ht9 hpx hb9 hS9 e1 e2 e3 => by subst hQ; exact kx_pass htab hlocks ht9 (⟨hpx.1, by omega, hpx.2.2⟩) hb9 hS9 e1 e2 e3 (Nat.le_of_ble_eq_true rfl) (Nat.le_of_ble_eq_true rfl)) (fun u H locs hp h => ?_)
    obtain ⟨hlit, hu⟩ := hp; rw [hu] at h
    exact absurd hlit (by decide)
  · have c_1 := cNlt (rfl : (x : Int32).toInt = (x : Int32).toInt) t0 c_1
    refine lv_iload_n hx hcd dX3_lineAt_4 rfl (lv_at hl 1 rfl) ?_
    refine lv_aload_n hx hcd dX3_lineAt_5 rfl (lv_at hl 0 rfl) ?_
    refine va_get (D := eD V) (ci := 7) (v := .ref (eX V (104 + 0))) (C := RX3) (T := TX3) (N := 11) hx hcd G.2.2.2.2 iwX3 G.2.2.2.1 hC.1 h.1 (96 + 0) (cF_at V _ (i := 0) (by decide)) rfl 6 (by decide) (G.2.2.2.2 _ mw_248) (fun y h9 => h9) rfl dX3_lineAt_6 ?_
    refine k_Vi (As := []) (rest := [.int (x)]) (b := eX V (104 + 0)) G hC hB h (met_J4_length_8abf5 l V (setB S 0 B) 0 (by decide)) mw_701 kv_J4_length_8abf5 ⟨rfl, rfl⟩ ⟨Nat.le_of_ble_eq_true rfl, Nat.le_of_ble_eq_true rfl⟩ (r_uV hC h 0 (by decide)) rfl rfl hl.1 (Nat.le_of_ble_eq_true rfl) dX3_lineAt_9 ⟨Nat.le_of_ble_eq_true rfl, Nat.le_of_ble_eq_true rfl⟩ (fun r u H locs hp h => ?_)
    obtain ⟨hr9, hu⟩ := hp; obtain rfl : r = nI L0.length := hr9.trans (congrArg nI hR0.1)
    rw [hu] at h
    refine lv_icmp_ge (tgt := 19) hx hcd dX3_lineAt_12 (by decide) (fun c_2 => ?_) (fun c_2 => ?_)
    · have c_2 := cLe (tN (n := L0.length) (by omega)) (rfl : (x : Int32).toInt = (x : Int32).toInt) c_2
      refine lv_iconst (v := nI 0) hx hcd dX3_lineAt_19 (by decide) ?_
      refine kx_Sv (As := [.int (nI 0)]) (rest := []) G hC hB h (met_X3_requireIndex l hst V (setB S 0 B) false) mw_850 ks_X3_requireIndex ⟨rfl, rfl⟩ ⟨Nat.le_of_ble_eq_true rfl, Nat.le_of_ble_eq_true rfl⟩ rfl rfl hl.1 (Nat.le_of_ble_eq_true rfl) dX3_lineAt_20 ⟨Nat.le_of_ble_eq_true rfl, Nat.le_of_ble_eq_true rfl⟩ (fun E ce q9 u t H1 locs1 ht9 hpx hb9 hS9 e1 e2 e3 => by subst hQ; exact kx_pass htab hlocks ht9 (⟨hpx.1, by omega, hpx.2.2⟩) hb9 hS9 e1 e2 e3 (Nat.le_of_ble_eq_true rfl) (Nat.le_of_ble_eq_true rfl)) (fun u H locs hp h => ?_)
      obtain ⟨hlit, hu⟩ := hp; rw [hu] at h
      exact absurd hlit (by decide)
    · have c_2 := cNle (tN (n := L0.length) (by omega)) (rfl : (x : Int32).toInt = (x : Int32).toInt) c_2
      refine lv_iconst (v := nI 1) hx hcd dX3_lineAt_15 (by decide) ?_
      refine lv_goto (tgt := 20) hx hcd dX3_lineAt_16 (by decide) ?_
      refine kx_Sv (As := [.int (nI 1)]) (rest := []) G hC hB h (met_X3_requireIndex l hst V (setB S 0 B) true) mw_850 ks_X3_requireIndex ⟨rfl, rfl⟩ ⟨Nat.le_of_ble_eq_true rfl, Nat.le_of_ble_eq_true rfl⟩ rfl rfl hl.1 (Nat.le_of_ble_eq_true rfl) dX3_lineAt_20 ⟨Nat.le_of_ble_eq_true rfl, Nat.le_of_ble_eq_true rfl⟩ (fun E ce q9 u t H1 locs1 ht9 hpx hb9 hS9 e1 e2 e3 => by subst hQ; exact kx_pass htab hlocks ht9 (absurd hpx.2.1 (by decide)) hb9 hS9 e1 e2 e3 (Nat.le_of_ble_eq_true rfl) (Nat.le_of_ble_eq_true rfl)) (fun u H locs hp h => ?_)
      obtain ⟨hlit, hu⟩ := hp; rw [hu] at h
      obtain ⟨q, rfl, -, hq⟩ := rng_ex (x := x) (a := 0) (b := L0.length - 1) (by omega) ⟨by omega, by omega⟩
      have hcq := (hR0.2.2.2.1 q (by omega)).1
      refine lv_aload_n hx hcd dX3_lineAt_23 rfl (lv_at hl 0 rfl) ?_
      refine va_get (D := eD V) (ci := 7) (v := .ref (eX V (104 + 0))) (C := RX3) (T := TX3) (N := 11) hx hcd G.2.2.2.2 iwX3 G.2.2.2.1 hC.1 h.1 (96 + 0) (cF_at V _ (i := 0) (by decide)) rfl 6 (by decide) (G.2.2.2.2 _ mw_248) (fun y h9 => h9) rfl dX3_lineAt_24 ?_
      refine lv_iload_n hx hcd dX3_lineAt_27 rfl (lv_at hl 1 rfl) ?_
      have h := cH_u 0 h
      refine k_Vi (As := [.int (nI (q))]) (rest := []) (b := eX V (104 + 0)) G hC hB h (met_J4_charAt_5068e l V (setB S 0 B) 0 (by decide) ((setB S 0 B).2.2.2 0) L0 hR0 q (by omega)) mw_1316 kv_J4_charAt_5068e ⟨rfl, rfl⟩ ⟨Nat.le_of_ble_eq_true rfl, Nat.le_of_ble_eq_true rfl⟩ (r_uV hC h 0 (by decide)) rfl rfl hl.1 (Nat.le_of_ble_eq_true rfl) dX3_lineAt_28 ⟨Nat.le_of_ble_eq_true rfl, Nat.le_of_ble_eq_true rfl⟩ (fun r u H locs hp h => ?_)
      obtain ⟨rfl, hu⟩ := hp; rw [hu, uPut_self] at h
      exact kx_retc hQ G hret hlocks h (ch_nc (by first | assumption | omega)) (⟨q, rfl, by omega, rfl, rfl⟩) (Nat.le_of_ble_eq_true rfl) (Nat.le_of_ble_eq_true rfl) dX3_lineAt_31
set_option maxHeartbeats 4000000 in
set_option maxRecDepth 100000 in
/-- type -/
theorem met_X3_type (l : Launch) (hst : l.stackTraces = false) (V : kEnv) (S : kCs) (B : kBd) (hI : bI B) (hV : kOk V) (L : List Nat) (hRt : sbR (S.2.2.2 1) L) (hLt : L.length ≤ 60) (x : Int32) : kX l yX3_type cX3_type 2 (some .int) { frames := 7, cells := 4, slots := 200, locals := 175 } V (cWs V) [.ref (eX V 96), .int (x)] (setB S 0 B) (fun r u => ∃ (q : Nat), x = nI q ∧ 32 ≤ q ∧ q ≤ 126 ∧ (decide (L.length < 60)) = true ∧ r = nI (L ++ [q]).length ∧ ∃ y, sbR y (L ++ [q]) ∧ u = uPut (setB S 0 B) 1 y) (fun E u => (E = "java/lang/IllegalArgumentException" ∧ ¬ (32 ≤ (x : Int32).toInt ∧ (x : Int32).toInt ≤ 126) ∧ u = setB S 0 B) ∨ (∃ (q : Nat), x = nI q ∧ 32 ≤ q ∧ q ≤ 126 ∧ E = "java/lang/IllegalStateException" ∧ (decide (L.length < 60)) = false ∧ u = setB S 0 B)) 4 200 := by
  refine kX_of (by decide +kernel) (Nat.le_of_ble_eq_true rfl) ?_
  intro pg e s m args below meth c G hret hlocks htab hC hB h ls hl Q hQ
  have hl : lv_has ls 2 [(0, .ref (eX V 96)), (1, .int (x))] := hl
  have hx := G.1
  have hcd := G.2.1
  have hI0 := hI
  obtain ⟨hz, hbn, hn, hm, h3, h54, h4, h7, hr, he, ha, hact, h5⟩ := hI
  refine lv_iload_n hx hcd dX3_type_0 rfl (lv_at hl 1 rfl) ?_
  refine lv_bipush (v := nI 32) hx hcd dX3_type_1 (by decide) ?_
  refine lv_icmp_lt (tgt := 16) hx hcd dX3_type_3 (by decide) (fun c_1 => ?_) (fun c_1 => ?_)
  · have c_1 := cLt (rfl : (x : Int32).toInt = (x : Int32).toInt) (tN (n := 32) (by decide)) c_1
    refine lv_iconst (v := nI 0) hx hcd dX3_type_16 (by decide) ?_
    refine kx_Sv (As := [.int (nI 0)]) (rest := []) G hC hB h (met_X3_requireArgument l hst V (setB S 0 B) false) mw_793 ks_X3_requireArgument ⟨rfl, rfl⟩ ⟨Nat.le_of_ble_eq_true rfl, Nat.le_of_ble_eq_true rfl⟩ rfl rfl hl.1 (Nat.le_of_ble_eq_true rfl) dX3_type_17 ⟨Nat.le_of_ble_eq_true rfl, Nat.le_of_ble_eq_true rfl⟩ (fun E ce q9 u t H1 locs1 ht9 hpx hb9 hS9 e1 e2 e3 => by subst hQ; exact kx_pass htab hlocks ht9 (Or.inl (⟨hpx.1, by omega, hpx.2.2⟩)) hb9 hS9 e1 e2 e3 (Nat.le_of_ble_eq_true rfl) (Nat.le_of_ble_eq_true rfl)) (fun u H locs hp h => ?_)
    obtain ⟨hlit, hu⟩ := hp; rw [hu] at h
    exact absurd hlit (by decide)
  · have c_1 := cNlt (rfl : (x : Int32).toInt = (x : Int32).toInt) (tN (n := 32) (by decide)) c_1
    refine lv_iload_n hx hcd dX3_type_6 rfl (lv_at hl 1 rfl) ?_
    refine lv_bipush (v := nI 126) hx hcd dX3_type_7 (by decide) ?_
    refine lv_icmp_gt (tgt := 16) hx hcd dX3_type_9 (by decide) (fun c_2 => ?_) (fun c_2 => ?_)
    · have c_2 := cLt (tN (n := 126) (by decide)) (rfl : (x : Int32).toInt = (x : Int32).toInt) c_2
      refine lv_iconst (v := nI 0) hx hcd dX3_type_16 (by decide) ?_
      refine kx_Sv (As := [.int (nI 0)]) (rest := []) G hC hB h (met_X3_requireArgument l hst V (setB S 0 B) false) mw_793 ks_X3_requireArgument ⟨rfl, rfl⟩ ⟨Nat.le_of_ble_eq_true rfl, Nat.le_of_ble_eq_true rfl⟩ rfl rfl hl.1 (Nat.le_of_ble_eq_true rfl) dX3_type_17 ⟨Nat.le_of_ble_eq_true rfl, Nat.le_of_ble_eq_true rfl⟩ (fun E ce q9 u t H1 locs1 ht9 hpx hb9 hS9 e1 e2 e3 => by subst hQ; exact kx_pass htab hlocks ht9 (Or.inl (⟨hpx.1, by omega, hpx.2.2⟩)) hb9 hS9 e1 e2 e3 (Nat.le_of_ble_eq_true rfl) (Nat.le_of_ble_eq_true rfl)) (fun u H locs hp h => ?_)
      obtain ⟨hlit, hu⟩ := hp; rw [hu] at h
      exact absurd hlit (by decide)
    · have c_2 := cNlt (tN (n := 126) (by decide)) (rfl : (x : Int32).toInt = (x : Int32).toInt) c_2
      refine lv_iconst (v := nI 1) hx hcd dX3_type_12 (by decide) ?_
      refine lv_goto (tgt := 17) hx hcd dX3_type_13 (by decide) ?_
      refine kx_Sv (As := [.int (nI 1)]) (rest := []) G hC hB h (met_X3_requireArgument l hst V (setB S 0 B) true) mw_793 ks_X3_requireArgument ⟨rfl, rfl⟩ ⟨Nat.le_of_ble_eq_true rfl, Nat.le_of_ble_eq_true rfl⟩ rfl rfl hl.1 (Nat.le_of_ble_eq_true rfl) dX3_type_17 ⟨Nat.le_of_ble_eq_true rfl, Nat.le_of_ble_eq_true rfl⟩ (fun E ce q9 u t H1 locs1 ht9 hpx hb9 hS9 e1 e2 e3 => by subst hQ; exact kx_pass htab hlocks ht9 (absurd hpx.2.1 (by decide)) hb9 hS9 e1 e2 e3 (Nat.le_of_ble_eq_true rfl) (Nat.le_of_ble_eq_true rfl)) (fun u H locs hp h => ?_)
      obtain ⟨hlit, hu⟩ := hp; rw [hu] at h
      obtain ⟨q, rfl, hq1, hq2⟩ := rng_ex (x := x) (a := 32) (b := 126) (by decide) ⟨by omega, by omega⟩
      refine lv_aload_n hx hcd dX3_type_20 rfl (lv_at hl 0 rfl) ?_
      refine va_get (D := eD V) (ci := 7) (v := .ref (eX V 99)) (C := RX3) (T := TX3) (N := 11) hx hcd G.2.2.2.2 iwX3 G.2.2.2.1 hC.1 h.1 (96 + 0) (cF_at V _ (i := 0) (by decide)) rfl 5 (by decide) (G.2.2.2.2 _ mw_247) (fun y h9 => h9) rfl dX3_type_21 ?_
      refine k_Vi (As := []) (rest := []) (b := eX V 99) G hC hB h (met_X1_hasRoom l V (setB S 0 B) L hRt hLt) mw_1333 kv_X1_hasRoom ⟨rfl, rfl⟩ ⟨Nat.le_of_ble_eq_true rfl, Nat.le_of_ble_eq_true rfl⟩ (r_tV hC h) rfl rfl hl.1 (Nat.le_of_ble_eq_true rfl) dX3_type_24 ⟨Nat.le_of_ble_eq_true rfl, Nat.le_of_ble_eq_true rfl⟩ (fun r u H locs hp h => ?_)
      obtain ⟨rfl, hu⟩ := hp; rw [hu] at h
      refine kx_Sv (As := [.int (bz (decide (L.length < 60)))]) (rest := []) G hC hB h (met_X3_requireState l hst V (setB S 0 B) (decide (L.length < 60))) mw_804 ks_X3_requireState ⟨rfl, rfl⟩ ⟨Nat.le_of_ble_eq_true rfl, Nat.le_of_ble_eq_true rfl⟩ rfl rfl hl.1 (Nat.le_of_ble_eq_true rfl) dX3_type_27 ⟨Nat.le_of_ble_eq_true rfl, Nat.le_of_ble_eq_true rfl⟩ (fun E ce q9 u t H1 locs1 ht9 hpx hb9 hS9 e1 e2 e3 => by subst hQ; exact kx_pass htab hlocks ht9 (Or.inr (⟨q, rfl, hq1, hq2, hpx⟩)) hb9 hS9 e1 e2 e3 (Nat.le_of_ble_eq_true rfl) (Nat.le_of_ble_eq_true rfl)) (fun u H locs hp h => ?_)
      obtain ⟨hs2, hu⟩ := hp; rw [hu] at h
      refine lv_aload_n hx hcd dX3_type_30 rfl (lv_at hl 0 rfl) ?_
      refine va_get (D := eD V) (ci := 7) (v := .ref (eX V 99)) (C := RX3) (T := TX3) (N := 11) hx hcd G.2.2.2.2 iwX3 G.2.2.2.1 hC.1 h.1 (96 + 0) (cF_at V _ (i := 0) (by decide)) rfl 5 (by decide) (G.2.2.2.2 _ mw_247) (fun y h9 => h9) rfl dX3_type_31 ?_
      refine lv_iload_n hx hcd dX3_type_34 rfl (lv_at hl 1 rfl) ?_
      refine k_Vi (As := [.int (nI (q))]) (rest := []) (b := eX V 99) G hC hB h (met_X1_append l V hV (setB S 0 B) L hRt q (by omega) (by have := of_decide_eq_true hs2; omega)) mw_1338 kv_X1_append ⟨rfl, rfl⟩ ⟨Nat.le_of_ble_eq_true rfl, Nat.le_of_ble_eq_true rfl⟩ (r_tV hC h) rfl rfl hl.1 (Nat.le_of_ble_eq_true rfl) dX3_type_35 ⟨Nat.le_of_ble_eq_true rfl, Nat.le_of_ble_eq_true rfl⟩ (fun r u H locs hp h => ?_)
      obtain ⟨rfl, y7, hRz, hu⟩ := hp; rw [hu] at h
      exact kx_reti hQ G hret hlocks h (⟨q, rfl, hq1, hq2, hs2, rfl, _, hRz, rfl⟩) (Nat.le_of_ble_eq_true rfl) (Nat.le_of_ble_eq_true rfl) dX3_type_38
