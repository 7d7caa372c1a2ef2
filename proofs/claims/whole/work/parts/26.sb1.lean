/-- what holds of every board that is in use -/
def bI (B : kBd) : Prop := kSm B ∧ bN B ∧ B.2 0 ≤ 16 ∧ B.2 1 ≤ 4 ∧ B.2 3 < 2 ∧ B.2 5 ≤ B.2 4 ∧ B.2 4 ≤ 10 ∧ B.2 7 ≤ 9 ∧ (∀ k, B.1 1 k ≤ B.1 0 k) ∧ (∀ k, B.1 0 k ≤ 13) ∧ (∀ d, B.1 4 d ≤ B.2 0) ∧ (B.2 3 ≠ 0 → B.2 7 < 9) ∧ (∀ k, B.1 5 k ≤ 208)
theorem isEst_ex {x : Int32} (h : isEst x.toInt = true) : ∃ p, x = nI p ∧ 1 ≤ p ∧ p ≤ 13 := by
  have h1 := of_decide_eq_true h
  exact ⟨x.toInt.toNat, of_toInt (by omega) (by omega), by omega, by omega⟩
theorem rng_ex {x : Int32} {a b : Nat} (hb : b < 2147483648) (h : (a : Int) ≤ x.toInt ∧ x.toInt ≤ (b : Int)) : ∃ p, x = nI p ∧ a ≤ p ∧ p ≤ b :=
  ⟨x.toInt.toNat, of_toInt (by omega) (by omega), by omega, by omega⟩
theorem act_bz {n : Nat} (h : n < 2) : nI n = bz (decide (n ≠ 0)) := by
  match n, h with
  | 0, _ => rfl
  | 1, _ => rfl
theorem act01 {n : Nat} (h : n < 2) : nI n = 0 ∨ nI n = 1 := by
  match n, h with
  | 0, _ => exact Or.inl rfl
  | 1, _ => exact Or.inr rfl
theorem psum_le {B : kBd} (he : ∀ k, B.1 0 k ≤ 13) (hr : ∀ k, B.1 1 k ≤ B.1 0 k) {c : Nat} (hc : c < 2) : psum B c ≤ 208 := by
  have h1 : ∀ k, (if (B.2 2).testBit k then B.1 c k else 0) ≤ 13 := by
    intro k
    have := he k
    have := hr k
    split
    · match c, hc with
      | 0, _ => omega
      | 1, _ => omega
    · omega
  have := sumUp_le h1 16
  unfold psum
  omega
theorem satN_le (B : kBd) (z : Int) : ∀ f i q, satN B z f i q ≤ B.2 0
  | 0, _, _ => Nat.zero_le _
  | f + 1, i, q => by
    unfold satN
    split
    · split
      · exact frd_le B q
      · exact satN_le B z f _ _
    · exact Nat.zero_le _
theorem sat_le (B : kBd) (z : Int) : sat B z ≤ B.2 0 := satN_le B z 17 0 0
theorem wsI_lt {c : Nat → Nat} (hc : ∀ k, c k < 65536) (m : Nat) : ∀ j k, wsI c m j k < 65536
  | 0, k => hc k
  | j + 1, k => by
    have ih := wsI_lt hc m j
    unfold wsI
    split
    · exact up_lt ih j (or16 (ih _) (ih _)) k
    · exact ih k
theorem wsO_lt {B : kBd} (hz : kSm B) : ∀ m k, wsO B m k < 65536
  | 0, k => hz.1 2 k
  | m + 1, k => wsI_lt (wsO_lt hz m) m 16 k
/-- the board kept for undo -/
def hkS (S : kCs) (B : kBd) (nx sz : Nat) : kCs := sPut (sPut (setB S (4 + nx % 8) B) 3 (nI (nx + 1))) 4 (nI (min (sz + 1) 8))
theorem histS_0 (S : kCs) (B : kBd) (nx sz : Nat) : histS (setB S 0 B) 0 nx sz = setB (hkS S B nx sz) 0 B := by
  unfold histS hkS
  rw [setB_at, setB_comm S B B (show 0 ≠ 4 + nx % 8 by omega)]
  rfl
theorem kth_307_346 : kTh RX3 307 346 311 "java/lang/IllegalArgumentException" "the argument is not allowed" := ⟨by decide +kernel, mw_796, mw_68, by decide +kernel, by decide +kernel, by decide +kernel, by decide +kernel⟩
theorem kth_318_348 : kTh RX3 318 348 322 "java/lang/IllegalStateException" "the board does not allow this now" := ⟨by decide +kernel, mw_807, mw_69, by decide +kernel, by decide +kernel, by decide +kernel, by decide +kernel⟩
theorem kth_341_343 : kTh RX3 341 343 345 "java/lang/IndexOutOfBoundsException" "there is no such number" := ⟨by decide +kernel, mw_853, mw_71, by decide +kernel, by decide +kernel, by decide +kernel, by decide +kernel⟩
theorem kth_350_352 : kTh RX3 350 352 354 "java/lang/UnsupportedOperationException" "the board cannot do this" := ⟨by decide +kernel, mw_893, mw_73, by decide +kernel, by decide +kernel, by decide +kernel, by decide +kernel⟩
theorem kv_X0_beginSprint : kV yX0_beginSprint cX0_beginSprint 2 (some .int) 1 := ⟨mw_1174, mw_1175, mw_57, mw_1176, by decide, by decide, by decide +kernel⟩
theorem kv_X0_canAddDeveloper : kV yX0_canAddDeveloper cX0_canAddDeveloper 2 (some .boolean) 1 := ⟨mw_1058, mw_1059, mw_57, mw_1060, by decide, by decide, by decide +kernel⟩
theorem kv_X0_canAddStory : kV yX0_canAddStory cX0_canAddStory 2 (some .boolean) 1 := ⟨mw_800, mw_801, mw_57, mw_802, by decide, by decide, by decide +kernel⟩
theorem kv_X0_canBlock : kV yX0_canBlock cX0_canBlock 3 (some .boolean) 2 := ⟨mw_885, mw_886, mw_57, mw_887, by decide, by decide, by decide +kernel⟩
theorem kv_X0_canReestimate : kV yX0_canReestimate cX0_canReestimate 3 (some .boolean) 2 := ⟨mw_867, mw_868, mw_57, mw_869, by decide, by decide, by decide +kernel⟩
theorem kv_X0_canStart : kV yX0_canStart cX0_canStart 2 (some .boolean) 1 := ⟨mw_1169, mw_1170, mw_57, mw_1171, by decide, by decide, by decide +kernel⟩
theorem kv_X0_canUnblock : kV yX0_canUnblock cX0_canUnblock 3 (some .boolean) 2 := ⟨mw_927, mw_928, mw_57, mw_929, by decide, by decide, by decide +kernel⟩
theorem kv_X0_changeEstimate : kV yX0_changeEstimate cX0_changeEstimate 5 (some .int) 2 := ⟨mw_872, mw_873, mw_57, mw_874, by decide, by decide, by decide +kernel⟩
theorem kv_X0_openBlockerCount : kV yX0_openBlockerCount cX0_openBlockerCount 2 (some .int) 1 := ⟨mw_970, mw_971, mw_57, mw_972, by decide, by decide, by decide +kernel⟩
theorem kv_X0_plannedWork : kV yX0_plannedWork cX0_plannedWork 3 (some .int) 0 := ⟨mw_320, mw_321, mw_57, mw_322, by decide, by decide, by decide +kernel⟩
theorem kv_X0_putBlocker : kV yX0_putBlocker cX0_putBlocker 3 (some .int) 2 := ⟨mw_910, mw_911, mw_57, mw_912, by decide, by decide, by decide +kernel⟩
theorem kv_X0_putDeveloper : kV yX0_putDeveloper cX0_putDeveloper 3 (some .int) 1 := ⟨mw_1063, mw_1064, mw_57, mw_1065, by decide, by decide, by decide +kernel⟩
theorem kv_X0_putStory : kV yX0_putStory cX0_putStory 3 (some .int) 1 := ⟨mw_833, mw_834, mw_57, mw_835, by decide, by decide, by decide +kernel⟩
theorem kv_X0_removeBlocker : kV yX0_removeBlocker cX0_removeBlocker 3 (some .int) 2 := ⟨mw_931, mw_932, mw_57, mw_933, by decide, by decide, by decide +kernel⟩
theorem kv_X2_keep : kV yX2_keep cX2_keep 3 none 1 := ⟨mw_824, mw_825, mw_58, mw_826, by decide, by decide, by decide +kernel⟩
theorem ks_X3_requireArgument : kSt yX3_requireArgument cX3_requireArgument 1 none 1 := ⟨mw_794, mw_56, mw_795, by decide, by decide, by decide +kernel⟩
theorem ks_X3_requireIndex : kSt yX3_requireIndex cX3_requireIndex 1 none 1 := ⟨mw_851, mw_56, mw_852, by decide, by decide, by decide +kernel⟩
theorem ks_X3_requireState : kSt yX3_requireState cX3_requireState 1 none 1 := ⟨mw_805, mw_56, mw_806, by decide, by decide, by decide +kernel⟩
theorem kv_X3_requireStory : kV yX3_requireStory cX3_requireStory 2 none 1 := ⟨mw_848, mw_6, mw_56, mw_849, by decide, by decide, by decide +kernel⟩
theorem ks_X3_requireSupport : kSt yX3_requireSupport cX3_requireSupport 1 none 1 := ⟨mw_891, mw_56, mw_892, by decide, by decide, by decide +kernel⟩
set_option maxHeartbeats 4000000 in
set_option maxRecDepth 100000 in
/-- requireIndex(b) -/
theorem met_X3_requireIndex (l : Launch) (hst : l.stackTraces = false) (V : kEnv) (S : kCs) (b0 : Bool) : kXv l yX3_requireIndex cX3_requireIndex 1 { frames := 6, cells := 1, slots := 6, locals := 90 } V (cWs V) [.int (bz (b0))] (S) (fun u => b0 = true ∧ u = S) (fun E u => E = "java/lang/IndexOutOfBoundsException" ∧ b0 = false ∧ u = S) 1 6 := by
  refine kXv_of (by decide +kernel) (Nat.le_of_ble_eq_true rfl) ?_
  intro pg e s m args below meth c G hret hlocks htab hC hB h ls hl Q hQ
  have hl : lv_has ls 1 [(0, .int (bz (b0)))] := hl
  have hx := G.1
  have hcd := G.2.1
  refine lv_iload_n hx hcd dX3_requireIndex_0 rfl (lv_at hl 0 rfl) ?_
  refine lv_if_ne (tgt := 15) hx hcd dX3_requireIndex_1 (by decide) (fun c_1 => ?_) (fun c_1 => ?_)
  · have c_1 := bz1 c_1
    exact kx_retv hQ G hret hlocks h (⟨by assumption, rfl⟩) (Nat.le_of_ble_eq_true rfl) (Nat.le_of_ble_eq_true rfl) dX3_requireIndex_15
  · have c_1 := bz0 c_1
    subst hQ
    exact kx_throw G hst hC h hl.1 htab hlocks kth_341_343 dX3_requireIndex_4 dX3_requireIndex_7 dX3_requireIndex_8 dX3_requireIndex_11 dX3_requireIndex_14 (Nat.le_of_ble_eq_true rfl) (Nat.le_of_ble_eq_true rfl) (Nat.le_of_ble_eq_true rfl) (Nat.le_of_ble_eq_true rfl) (Nat.le_of_ble_eq_true rfl) (Nat.le_of_ble_eq_true rfl) (⟨rfl, by assumption, rfl⟩)
set_option maxHeartbeats 4000000 in
set_option maxRecDepth 100000 in
/-- requireArgument(b) -/
theorem met_X3_requireArgument (l : Launch) (hst : l.stackTraces = false) (V : kEnv) (S : kCs) (b0 : Bool) : kXv l yX3_requireArgument cX3_requireArgument 1 { frames := 6, cells := 1, slots := 6, locals := 90 } V (cWs V) [.int (bz (b0))] (S) (fun u => b0 = true ∧ u = S) (fun E u => E = "java/lang/IllegalArgumentException" ∧ b0 = false ∧ u = S) 1 6 := by
  refine kXv_of (by decide +kernel) (Nat.le_of_ble_eq_true rfl) ?_
  intro pg e s m args below meth c G hret hlocks htab hC hB h ls hl Q hQ
  have hl : lv_has ls 1 [(0, .int (bz (b0)))] := hl
  have hx := G.1
  have hcd := G.2.1
  refine lv_iload_n hx hcd dX3_requireArgument_0 rfl (lv_at hl 0 rfl) ?_
  refine lv_if_ne (tgt := 15) hx hcd dX3_requireArgument_1 (by decide) (fun c_1 => ?_) (fun c_1 => ?_)
  · have c_1 := bz1 c_1
    exact kx_retv hQ G hret hlocks h (⟨by assumption, rfl⟩) (Nat.le_of_ble_eq_true rfl) (Nat.le_of_ble_eq_true rfl) dX3_requireArgument_15
  · have c_1 := bz0 c_1
    subst hQ
    exact kx_throw G hst hC h hl.1 htab hlocks kth_307_346 dX3_requireArgument_4 dX3_requireArgument_7 dX3_requireArgument_8 dX3_requireArgument_11 dX3_requireArgument_14 (Nat.le_of_ble_eq_true rfl) (Nat.le_of_ble_eq_true rfl) (Nat.le_of_ble_eq_true rfl) (Nat.le_of_ble_eq_true rfl) (Nat.le_of_ble_eq_true rfl) (Nat.le_of_ble_eq_true rfl) (⟨rfl, by assumption, rfl⟩)
set_option maxHeartbeats 4000000 in
set_option maxRecDepth 100000 in
/-- requireState(b) -/
theorem met_X3_requireState (l : Launch) (hst : l.stackTraces = false) (V : kEnv) (S : kCs) (b0 : Bool) : kXv l yX3_requireState cX3_requireState 1 { frames := 6, cells := 1, slots := 6, locals := 90 } V (cWs V) [.int (bz (b0))] (S) (fun u => b0 = true ∧ u = S) (fun E u => E = "java/lang/IllegalStateException" ∧ b0 = false ∧ u = S) 1 6 := by
  refine kXv_of (by decide +kernel) (Nat.le_of_ble_eq_true rfl) ?_
  intro pg e s m args below meth c G hret hlocks htab hC hB h ls hl Q hQ
  have hl : lv_has ls 1 [(0, .int (bz (b0)))] := hl
  have hx := G.1
  have hcd := G.2.1
  refine lv_iload_n hx hcd dX3_requireState_0 rfl (lv_at hl 0 rfl) ?_
  refine lv_if_ne (tgt := 15) hx hcd dX3_requireState_1 (by decide) (fun c_1 => ?_) (fun c_1 => ?_)
  · have c_1 := bz1 c_1
    exact kx_retv hQ G hret hlocks h (⟨by assumption, rfl⟩) (Nat.le_of_ble_eq_true rfl) (Nat.le_of_ble_eq_true rfl) dX3_requireState_15
  · have c_1 := bz0 c_1
    subst hQ
    exact kx_throw G hst hC h hl.1 htab hlocks kth_318_348 dX3_requireState_4 dX3_requireState_7 dX3_requireState_8 dX3_requireState_11 dX3_requireState_14 (Nat.le_of_ble_eq_true rfl) (Nat.le_of_ble_eq_true rfl) (Nat.le_of_ble_eq_true rfl) (Nat.le_of_ble_eq_true rfl) (Nat.le_of_ble_eq_true rfl) (Nat.le_of_ble_eq_true rfl) (⟨rfl, by assumption, rfl⟩)
set_option maxHeartbeats 4000000 in
set_option maxRecDepth 100000 in
/-- requireSupport(b) -/
theorem met_X3_requireSupport (l : Launch) (hst : l.stackTraces = false) (V : kEnv) (S : kCs) (b0 : Bool) : kXv l yX3_requireSupport cX3_requireSupport 1 { frames := 6, cells := 1, slots := 6, locals := 90 } V (cWs V) [.int (bz (b0))] (S) (fun u => b0 = true ∧ u = S) (fun E u => E = "java/lang/UnsupportedOperationException" ∧ b0 = false ∧ u = S) 1 6 := by
  refine kXv_of (by decide +kernel) (Nat.le_of_ble_eq_true rfl) ?_
  intro pg e s m args below meth c G hret hlocks htab hC hB h ls hl Q hQ
  have hl : lv_has ls 1 [(0, .int (bz (b0)))] := hl
  have hx := G.1
  have hcd := G.2.1
  refine lv_iload_n hx hcd dX3_requireSupport_0 rfl (lv_at hl 0 rfl) ?_
  refine lv_if_ne (tgt := 15) hx hcd dX3_requireSupport_1 (by decide) (fun c_1 => ?_) (fun c_1 => ?_)
  · have c_1 := bz1 c_1
    exact kx_retv hQ G hret hlocks h (⟨by assumption, rfl⟩) (Nat.le_of_ble_eq_true rfl) (Nat.le_of_ble_eq_true rfl) dX3_requireSupport_15
  · have c_1 := bz0 c_1
    subst hQ
    exact kx_throw G hst hC h hl.1 htab hlocks kth_350_352 dX3_requireSupport_4 dX3_requireSupport_7 dX3_requireSupport_8 dX3_requireSupport_11 dX3_requireSupport_14 (Nat.le_of_ble_eq_true rfl) (Nat.le_of_ble_eq_true rfl) (Nat.le_of_ble_eq_true rfl) (Nat.le_of_ble_eq_true rfl) (Nat.le_of_ble_eq_true rfl) (Nat.le_of_ble_eq_true rfl) (⟨rfl, by assumption, rfl⟩)
set_option maxHeartbeats 4000000 in
set_option maxRecDepth 100000 in
/-- requireFound(b) -/
theorem met_X3_requireFound (l : Launch) (hst : l.stackTraces = false) (V : kEnv) (S : kCs) (b0 : Bool) : kXv l yX3_requireFound cX3_requireFound 1 { frames := 6, cells := 1, slots := 6, locals := 90 } V (cWs V) [.int (bz (b0))] (S) (fun u => b0 = true ∧ u = S) (fun E u => E = "java/util/NoSuchElementException" ∧ b0 = false ∧ u = S) 1 6 := by
  refine kXv_of (by decide +kernel) (Nat.le_of_ble_eq_true rfl) ?_
  intro pg e s m args below meth c G hret hlocks htab hC hB h ls hl Q hQ
  have hl : lv_has ls 1 [(0, .int (bz (b0)))] := hl
  have hx := G.1
  have hcd := G.2.1
  refine lv_iload_n hx hcd dX3_requireFound_0 rfl (lv_at hl 0 rfl) ?_
  refine lv_if_ne (tgt := 15) hx hcd dX3_requireFound_1 (by decide) (fun c_1 => ?_) (fun c_1 => ?_)
  · have c_1 := bz1 c_1
    exact kx_retv hQ G hret hlocks h (⟨by assumption, rfl⟩) (Nat.le_of_ble_eq_true rfl) (Nat.le_of_ble_eq_true rfl) dX3_requireFound_15
  · have c_1 := bz0 c_1
    subst hQ
    exact kx_throwN G hst hC h hl.1 htab hlocks dX3_requireFound_4 dX3_requireFound_7 dX3_requireFound_8 dX3_requireFound_11 dX3_requireFound_14 (Nat.le_of_ble_eq_true rfl) (Nat.le_of_ble_eq_true rfl) (Nat.le_of_ble_eq_true rfl) (Nat.le_of_ble_eq_true rfl) (Nat.le_of_ble_eq_true rfl) (Nat.le_of_ble_eq_true rfl) (⟨rfl, by assumption, rfl⟩)
set_option maxHeartbeats 4000000 in
set_option maxRecDepth 100000 in
/-- requireStory(x) -/
theorem met_X3_requireStory (l : Launch) (hst : l.stackTraces = false) (V : kEnv) (S : kCs) (B : kBd) (hI : bI B) (x : Int32) : kXv l yX3_requireStory cX3_requireStory 2 { frames := 7, cells := 1, slots := 6, locals := 110 } V (cWs V) [.ref (eX V 96), .int (x)] (setB S 0 B) (fun u => inR (B.2 0) x = true ∧ u = setB S 0 B) (fun E u => E = "java/lang/IndexOutOfBoundsException" ∧ inR (B.2 0) x = false ∧ u = setB S 0 B) 1 6 := by
  refine kXv_of (by decide +kernel) (Nat.le_of_ble_eq_true rfl) ?_
  intro pg e s m args below meth c G hret hlocks htab hC hB h ls hl Q hQ
  have hl : lv_has ls 2 [(0, .ref (eX V 96)), (1, .int (x))] := hl
  have hx := G.1
  have hcd := G.2.1
  obtain ⟨hz, hbn, hn, hm, h3, h54, h4, h7, hr, he, ha, hact, h5⟩ := hI
  refine lv_aload_n hx hcd dX3_requireStory_0 rfl (lv_at hl 0 rfl) ?_
  refine va_get (D := eD V) (ci := 7) (v := .ref (eX V (8 * 0))) (C := RX3) (T := TX3) (N := 11) hx hcd G.2.2.2.2 iwX3 G.2.2.2.1 hC.1 h.1 (96 + 0) (cF_at V _ (i := 0) (by decide)) rfl 0 (by decide) (G.2.2.2.2 _ mw_242) (fun y h9 => h9) rfl dX3_requireStory_1 ?_
  refine lv_iload_n hx hcd dX3_requireStory_4 rfl (lv_at hl 1 rfl) ?_
  refine k_Vi (As := [.int (x)]) (rest := []) (b := eX V (8 * 0)) G hC hB h (met_X0_hasStory l V S 0 B (by omega) hn x) mw_713 kv_X0_hasStory ⟨rfl, rfl⟩ ⟨Nat.le_of_ble_eq_true rfl, Nat.le_of_ble_eq_true rfl⟩ (r_bV hC h 0 (by omega)) rfl rfl hl.1 (Nat.le_of_ble_eq_true rfl) dX3_requireStory_5 ⟨Nat.le_of_ble_eq_true rfl, Nat.le_of_ble_eq_true rfl⟩ (fun r u H locs hp h => ?_)
  obtain ⟨rfl, rfl⟩ := hp
  refine kx_Sv (As := [.int (bz (inR (B.2 0) (x)))]) (rest := []) G hC hB h (met_X3_requireIndex l hst V (setB S 0 B) (inR (B.2 0) (x))) mw_850 ks_X3_requireIndex ⟨rfl, rfl⟩ ⟨Nat.le_of_ble_eq_true rfl, Nat.le_of_ble_eq_true rfl⟩ rfl rfl hl.1 (Nat.le_of_ble_eq_true rfl) dX3_requireStory_8 ⟨Nat.le_of_ble_eq_true rfl, Nat.le_of_ble_eq_true rfl⟩ (fun E ce q9 u t H1 locs1 ht9 hpx hb9 hS9 e1 e2 e3 => by subst hQ; exact kx_pass htab hlocks ht9 (hpx) hb9 hS9 e1 e2 e3 (Nat.le_of_ble_eq_true rfl) (Nat.le_of_ble_eq_true rfl)) (fun u H locs hp h => ?_)
  obtain ⟨hs1, hu⟩ := hp; rw [hu] at h
  exact kx_retv hQ G hret hlocks h (⟨hs1, rfl⟩) (Nat.le_of_ble_eq_true rfl) (Nat.le_of_ble_eq_true rfl) dX3_requireStory_11
set_option maxHeartbeats 4000000 in
set_option maxRecDepth 100000 in
/-- requireDeveloper(x) -/
theorem met_X3_requireDeveloper (l : Launch) (hst : l.stackTraces = false) (V : kEnv) (S : kCs) (B : kBd) (hI : bI B) (x : Int32) : kXv l yX3_requireDeveloper cX3_requireDeveloper 2 { frames := 7, cells := 1, slots := 6, locals := 110 } V (cWs V) [.ref (eX V 96), .int (x)] (setB S 0 B) (fun u => inR (B.2 1) x = true ∧ u = setB S 0 B) (fun E u => E = "java/lang/IndexOutOfBoundsException" ∧ inR (B.2 1) x = false ∧ u = setB S 0 B) 1 6 := by
  refine kXv_of (by decide +kernel) (Nat.le_of_ble_eq_true rfl) ?_
  intro pg e s m args below meth c G hret hlocks htab hC hB h ls hl Q hQ
  have hl : lv_has ls 2 [(0, .ref (eX V 96)), (1, .int (x))] := hl
  have hx := G.1
  have hcd := G.2.1
  obtain ⟨hz, hbn, hn, hm, h3, h54, h4, h7, hr, he, ha, hact, h5⟩ := hI
  refine lv_aload_n hx hcd dX3_requireDeveloper_0 rfl (lv_at hl 0 rfl) ?_
  refine va_get (D := eD V) (ci := 7) (v := .ref (eX V (8 * 0))) (C := RX3) (T := TX3) (N := 11) hx hcd G.2.2.2.2 iwX3 G.2.2.2.1 hC.1 h.1 (96 + 0) (cF_at V _ (i := 0) (by decide)) rfl 0 (by decide) (G.2.2.2.2 _ mw_242) (fun y h9 => h9) rfl dX3_requireDeveloper_1 ?_
  refine lv_iload_n hx hcd dX3_requireDeveloper_4 rfl (lv_at hl 1 rfl) ?_
  refine k_Vi (As := [.int (x)]) (rest := []) (b := eX V (8 * 0)) G hC hB h (met_X0_hasDeveloper l V S 0 B (by omega) hm x) mw_1077 kv_X0_hasDeveloper ⟨rfl, rfl⟩ ⟨Nat.le_of_ble_eq_true rfl, Nat.le_of_ble_eq_true rfl⟩ (r_bV hC h 0 (by omega)) rfl rfl hl.1 (Nat.le_of_ble_eq_true rfl) dX3_requireDeveloper_5 ⟨Nat.le_of_ble_eq_true rfl, Nat.le_of_ble_eq_true rfl⟩ (fun r u H locs hp h => ?_)
  obtain ⟨rfl, rfl⟩ := hp
  refine kx_Sv (As := [.int (bz (inR (B.2 1) (x)))]) (rest := []) G hC hB h (met_X3_requireIndex l hst V (setB S 0 B) (inR (B.2 1) (x))) mw_850 ks_X3_requireIndex ⟨rfl, rfl⟩ ⟨Nat.le_of_ble_eq_true rfl, Nat.le_of_ble_eq_true rfl⟩ rfl rfl hl.1 (Nat.le_of_ble_eq_true rfl) dX3_requireDeveloper_8 ⟨Nat.le_of_ble_eq_true rfl, Nat.le_of_ble_eq_true rfl⟩ (fun E ce q9 u t H1 locs1 ht9 hpx hb9 hS9 e1 e2 e3 => by subst hQ; exact kx_pass htab hlocks ht9 (hpx) hb9 hS9 e1 e2 e3 (Nat.le_of_ble_eq_true rfl) (Nat.le_of_ble_eq_true rfl)) (fun u H locs hp h => ?_)
  obtain ⟨hs1, hu⟩ := hp; rw [hu] at h
  exact kx_retv hQ G hret hlocks h (⟨hs1, rfl⟩) (Nat.le_of_ble_eq_true rfl) (Nat.le_of_ble_eq_true rfl) dX3_requireDeveloper_11
set_option maxHeartbeats 4000000 in
set_option maxRecDepth 100000 in
/-- storyCount -/
theorem met_X3_storyCount (l : Launch) (V : kEnv) (S : kCs) (B : kBd) (hI : bI B) : kI l yX3_storyCount cX3_storyCount 1 (some .int) { frames := 0, cells := 0, slots := 0, locals := 0 } V (cWs V) [.ref (eX V 96)] (setB S 0 B) (fun r u => r = nI (B.2 0) ∧ u = setB S 0 B) 0 0 := by
  refine kI_of (by decide +kernel) (Nat.le_of_ble_eq_true rfl) ?_
  intro pg e s m args below meth c G hret hlocks hC hB h ls hl Q hQ
  have hl : lv_has ls 1 [(0, .ref (eX V 96))] := hl
  have hx := G.1
  have hcd := G.2.1
  have hI0 := hI
  obtain ⟨hz, hbn, hn, hm, h3, h54, h4, h7, hr, he, ha, hact, h5⟩ := hI
  refine lv_aload_n hx hcd dX3_storyCount_0 rfl (lv_at hl 0 rfl) ?_
  refine va_get (D := eD V) (ci := 7) (v := .ref (eX V (8 * 0))) (C := RX3) (T := TX3) (N := 11) hx hcd G.2.2.2.2 iwX3 G.2.2.2.1 hC.1 h.1 (96 + 0) (cF_at V _ (i := 0) (by decide)) rfl 0 (by decide) (G.2.2.2.2 _ mw_242) (fun y h9 => h9) rfl dX3_storyCount_1 ?_
  refine r_bS G hC h 0 0 (by omega) (by decide) (setB_at _ _ _) mw_112 (x := nI (B.2 0)) rfl dX3_storyCount_4 ?_
  exact k_reti hQ G hret hlocks h (⟨rfl, rfl⟩) (Nat.le_of_ble_eq_true rfl) (Nat.le_of_ble_eq_true rfl) dX3_storyCount_7
set_option maxHeartbeats 4000000 in
set_option maxRecDepth 100000 in
/-- developerCount -/
theorem met_X3_developerCount (l : Launch) (V : kEnv) (S : kCs) (B : kBd) (hI : bI B) : kI l yX3_developerCount cX3_developerCount 1 (some .int) { frames := 0, cells := 0, slots := 0, locals := 0 } V (cWs V) [.ref (eX V 96)] (setB S 0 B) (fun r u => r = nI (B.2 1) ∧ u = setB S 0 B) 0 0 := by
  refine kI_of (by decide +kernel) (Nat.le_of_ble_eq_true rfl) ?_
  intro pg e s m args below meth c G hret hlocks hC hB h ls hl Q hQ
  have hl : lv_has ls 1 [(0, .ref (eX V 96))] := hl
  have hx := G.1
  have hcd := G.2.1
  have hI0 := hI
  obtain ⟨hz, hbn, hn, hm, h3, h54, h4, h7, hr, he, ha, hact, h5⟩ := hI
  refine lv_aload_n hx hcd dX3_developerCount_0 rfl (lv_at hl 0 rfl) ?_
  refine va_get (D := eD V) (ci := 7) (v := .ref (eX V (8 * 0))) (C := RX3) (T := TX3) (N := 11) hx hcd G.2.2.2.2 iwX3 G.2.2.2.1 hC.1 h.1 (96 + 0) (cF_at V _ (i := 0) (by decide)) rfl 0 (by decide) (G.2.2.2.2 _ mw_242) (fun y h9 => h9) rfl dX3_developerCount_1 ?_
  refine r_bS G hC h 0 1 (by omega) (by decide) (setB_at _ _ _) mw_114 (x := nI (B.2 1)) rfl dX3_developerCount_4 ?_
  exact k_reti hQ G hret hlocks h (⟨rfl, rfl⟩) (Nat.le_of_ble_eq_true rfl) (Nat.le_of_ble_eq_true rfl) dX3_developerCount_7
set_option maxHeartbeats 4000000 in
set_option maxRecDepth 100000 in
/-- sprintCount -/
theorem met_X3_sprintCount (l : Launch) (V : kEnv) (S : kCs) (B : kBd) (hI : bI B) : kI l yX3_sprintCount cX3_sprintCount 1 (some .int) { frames := 0, cells := 0, slots := 0, locals := 0 } V (cWs V) [.ref (eX V 96)] (setB S 0 B) (fun r u => r = nI (B.2 7) ∧ u = setB S 0 B) 0 0 := by
  refine kI_of (by decide +kernel) (Nat.le_of_ble_eq_true rfl) ?_
  intro pg e s m args below meth c G hret hlocks hC hB h ls hl Q hQ
  have hl : lv_has ls 1 [(0, .ref (eX V 96))] := hl
  have hx := G.1
  have hcd := G.2.1
  have hI0 := hI
  obtain ⟨hz, hbn, hn, hm, h3, h54, h4, h7, hr, he, ha, hact, h5⟩ := hI
  refine lv_aload_n hx hcd dX3_sprintCount_0 rfl (lv_at hl 0 rfl) ?_
  refine va_get (D := eD V) (ci := 7) (v := .ref (eX V (8 * 0))) (C := RX3) (T := TX3) (N := 11) hx hcd G.2.2.2.2 iwX3 G.2.2.2.1 hC.1 h.1 (96 + 0) (cF_at V _ (i := 0) (by decide)) rfl 0 (by decide) (G.2.2.2.2 _ mw_242) (fun y h9 => h9) rfl dX3_sprintCount_1 ?_
  refine r_bS G hC h 0 7 (by omega) (by decide) (setB_at _ _ _) mw_125 (x := nI (B.2 7)) rfl dX3_sprintCount_4 ?_
  exact k_reti hQ G hret hlocks h (⟨rfl, rfl⟩) (Nat.le_of_ble_eq_true rfl) (Nat.le_of_ble_eq_true rfl) dX3_sprintCount_7
set_option maxHeartbeats 4000000 in
set_option maxRecDepth 100000 in
/-- isActive -/
theorem met_X3_isActive (l : Launch) (V : kEnv) (S : kCs) (B : kBd) (hI : bI B) : kI l yX3_isActive cX3_isActive 1 (some .boolean) { frames := 0, cells := 0, slots := 0, locals := 0 } V (cWs V) [.ref (eX V 96)] (setB S 0 B) (fun r u => r = nI (B.2 3) ∧ u = setB S 0 B) 0 0 := by
  refine kI_of (by decide +kernel) (Nat.le_of_ble_eq_true rfl) ?_
  intro pg e s m args below meth c G hret hlocks hC hB h ls hl Q hQ
  have hl : lv_has ls 1 [(0, .ref (eX V 96))] := hl
  have hx := G.1
  have hcd := G.2.1
  have hI0 := hI
  obtain ⟨hz, hbn, hn, hm, h3, h54, h4, h7, hr, he, ha, hact, h5⟩ := hI
  refine lv_aload_n hx hcd dX3_isActive_0 rfl (lv_at hl 0 rfl) ?_
  refine va_get (D := eD V) (ci := 7) (v := .ref (eX V (8 * 0))) (C := RX3) (T := TX3) (N := 11) hx hcd G.2.2.2.2 iwX3 G.2.2.2.1 hC.1 h.1 (96 + 0) (cF_at V _ (i := 0) (by decide)) rfl 0 (by decide) (G.2.2.2.2 _ mw_242) (fun y h9 => h9) rfl dX3_isActive_1 ?_
  refine r_bS G hC h 0 3 (by omega) (by decide) (setB_at _ _ _) mw_117 (x := nI (B.2 3)) rfl dX3_isActive_4 ?_
  exact k_retz hQ G hret hlocks h (act01 h3) (⟨rfl, rfl⟩) (Nat.le_of_ble_eq_true rfl) (Nat.le_of_ble_eq_true rfl) dX3_isActive_7
set_option maxHeartbeats 4000000 in
set_option maxRecDepth 100000 in
/-- scope -/
theorem met_X3_scope (l : Launch) (V : kEnv) (S : kCs) (B : kBd) (hI : bI B) : kI l yX3_scope cX3_scope 1 (some .int) { frames := 3, cells := 0, slots := 0, locals := 64 } V (cWs V) [.ref (eX V 96)] (setB S 0 B) (fun r u => r = nI (psum B 0) ∧ u = setB S 0 B) 0 0 := by
  refine kI_of (by decide +kernel) (Nat.le_of_ble_eq_true rfl) ?_
  intro pg e s m args below meth c G hret hlocks hC hB h ls hl Q hQ
  have hl : lv_has ls 1 [(0, .ref (eX V 96))] := hl
  have hx := G.1
  have hcd := G.2.1
  have hI0 := hI
  obtain ⟨hz, hbn, hn, hm, h3, h54, h4, h7, hr, he, ha, hact, h5⟩ := hI
  refine lv_aload_n hx hcd dX3_scope_0 rfl (lv_at hl 0 rfl) ?_
  refine va_get (D := eD V) (ci := 7) (v := .ref (eX V (8 * 0))) (C := RX3) (T := TX3) (N := 11) hx hcd G.2.2.2.2 iwX3 G.2.2.2.1 hC.1 h.1 (96 + 0) (cF_at V _ (i := 0) (by decide)) rfl 0 (by decide) (G.2.2.2.2 _ mw_242) (fun y h9 => h9) rfl dX3_scope_1 ?_
  refine k_Vi (As := []) (rest := []) (b := eX V (8 * 0)) G hC hB h (met_X0_plannedPoints l V S 0 B (by omega) hz) mw_296 kv_X0_plannedPoints ⟨rfl, rfl⟩ ⟨Nat.le_of_ble_eq_true rfl, Nat.le_of_ble_eq_true rfl⟩ (r_bV hC h 0 (by omega)) rfl rfl hl.1 (Nat.le_of_ble_eq_true rfl) dX3_scope_4 ⟨Nat.le_of_ble_eq_true rfl, Nat.le_of_ble_eq_true rfl⟩ (fun r u H locs hp h => ?_)
  obtain ⟨rfl, rfl⟩ := hp
  exact k_reti hQ G hret hlocks h (⟨rfl, rfl⟩) (Nat.le_of_ble_eq_true rfl) (Nat.le_of_ble_eq_true rfl) dX3_scope_7
set_option maxHeartbeats 4000000 in
set_option maxRecDepth 100000 in
/-- left -/
theorem met_X3_left (l : Launch) (V : kEnv) (S : kCs) (B : kBd) (hI : bI B) : kI l yX3_left cX3_left 1 (some .int) { frames := 3, cells := 0, slots := 0, locals := 64 } V (cWs V) [.ref (eX V 96)] (setB S 0 B) (fun r u => r = nI (psum B 1) ∧ u = setB S 0 B) 0 0 := by
  refine kI_of (by decide +kernel) (Nat.le_of_ble_eq_true rfl) ?_
  intro pg e s m args below meth c G hret hlocks hC hB h ls hl Q hQ
  have hl : lv_has ls 1 [(0, .ref (eX V 96))] := hl
  have hx := G.1
  have hcd := G.2.1
  have hI0 := hI
  obtain ⟨hz, hbn, hn, hm, h3, h54, h4, h7, hr, he, ha, hact, h5⟩ := hI
  refine lv_aload_n hx hcd dX3_left_0 rfl (lv_at hl 0 rfl) ?_
  refine va_get (D := eD V) (ci := 7) (v := .ref (eX V (8 * 0))) (C := RX3) (T := TX3) (N := 11) hx hcd G.2.2.2.2 iwX3 G.2.2.2.1 hC.1 h.1 (96 + 0) (cF_at V _ (i := 0) (by decide)) rfl 0 (by decide) (G.2.2.2.2 _ mw_242) (fun y h9 => h9) rfl dX3_left_1 ?_
  refine k_Vi (As := []) (rest := []) (b := eX V (8 * 0)) G hC hB h (met_X0_plannedRemains l V S 0 B (by omega) hz) mw_311 kv_X0_plannedRemains ⟨rfl, rfl⟩ ⟨Nat.le_of_ble_eq_true rfl, Nat.le_of_ble_eq_true rfl⟩ (r_bV hC h 0 (by omega)) rfl rfl hl.1 (Nat.le_of_ble_eq_true rfl) dX3_left_4 ⟨Nat.le_of_ble_eq_true rfl, Nat.le_of_ble_eq_true rfl⟩ (fun r u H locs hp h => ?_)
  obtain ⟨rfl, rfl⟩ := hp
  exact k_reti hQ G hret hlocks h (⟨rfl, rfl⟩) (Nat.le_of_ble_eq_true rfl) (Nat.le_of_ble_eq_true rfl) dX3_left_7
set_option maxHeartbeats 4000000 in
set_option maxRecDepth 100000 in
/-- worked -/
theorem met_X3_worked (l : Launch) (V : kEnv) (S : kCs) (B : kBd) (hI : bI B) : kI l yX3_worked cX3_worked 1 (some .int) { frames := 2, cells := 0, slots := 0, locals := 43 } V (cWs V) [.ref (eX V 96)] (setB S 0 B) (fun r u => r = nI (pwork B) ∧ u = setB S 0 B) 0 0 := by
  refine kI_of (by decide +kernel) (Nat.le_of_ble_eq_true rfl) ?_
  intro pg e s m args below meth c G hret hlocks hC hB h ls hl Q hQ
  have hl : lv_has ls 1 [(0, .ref (eX V 96))] := hl
  have hx := G.1
  have hcd := G.2.1
  have hI0 := hI
  obtain ⟨hz, hbn, hn, hm, h3, h54, h4, h7, hr, he, ha, hact, h5⟩ := hI
  refine lv_aload_n hx hcd dX3_worked_0 rfl (lv_at hl 0 rfl) ?_
  refine va_get (D := eD V) (ci := 7) (v := .ref (eX V (8 * 0))) (C := RX3) (T := TX3) (N := 11) hx hcd G.2.2.2.2 iwX3 G.2.2.2.1 hC.1 h.1 (96 + 0) (cF_at V _ (i := 0) (by decide)) rfl 0 (by decide) (G.2.2.2.2 _ mw_242) (fun y h9 => h9) rfl dX3_worked_1 ?_
  refine k_Vi (As := []) (rest := []) (b := eX V (8 * 0)) G hC hB h (met_X0_plannedWork l V S 0 B (by omega) hz hr) mw_319 kv_X0_plannedWork ⟨rfl, rfl⟩ ⟨Nat.le_of_ble_eq_true rfl, Nat.le_of_ble_eq_true rfl⟩ (r_bV hC h 0 (by omega)) rfl rfl hl.1 (Nat.le_of_ble_eq_true rfl) dX3_worked_4 ⟨Nat.le_of_ble_eq_true rfl, Nat.le_of_ble_eq_true rfl⟩ (fun r u H locs hp h => ?_)
  obtain ⟨rfl, rfl⟩ := hp
  exact k_reti hQ G hret hlocks h (⟨rfl, rfl⟩) (Nat.le_of_ble_eq_true rfl) (Nat.le_of_ble_eq_true rfl) dX3_worked_7
set_option maxHeartbeats 4000000 in
set_option maxRecDepth 100000 in
/-- addStory -/
theorem met_X3_addStory (l : Launch) (hst : l.stackTraces = false) (V : kEnv) (S : kCs) (B : kBd) (hI : bI B) (nx sz : Nat) (hnx : S.2.1 3 = nI nx) (hsz : S.2.1 4 = nI sz) (hx5 : nx < 60000) (hs5 : sz ≤ 8) (hnb : bN (S.1 (4 + nx % 8))) (x : Int32) : kX l yX3_addStory cX3_addStory 2 (some .int) { frames := 8, cells := 6, slots := 36, locals := 131 } V (cWs V) [.ref (eX V 96), .int (x)] (setB S 0 B) (fun r u => ∃ (p0 : Nat), (isEst (x : Int32).toInt) = true ∧ x = nI p0 ∧ 1 ≤ p0 ∧ p0 ≤ 13 ∧ ((isEst (x : Int32).toInt && decide (B.2 0 < 16))) = true ∧ r = nI (B.2 0) ∧ u = setB (hkS S B nx sz) 0 (addB B p0)) (fun E u => (E = "java/lang/IllegalArgumentException" ∧ (isEst (x : Int32).toInt) = false ∧ u = setB S 0 B) ∨ (∃ (p0 : Nat), (isEst (x : Int32).toInt) = true ∧ x = nI p0 ∧ 1 ≤ p0 ∧ p0 ≤ 13 ∧ E = "java/lang/IllegalStateException" ∧ ((isEst (x : Int32).toInt && decide (B.2 0 < 16))) = false ∧ u = setB S 0 B)) 6 36 := by
  refine kX_of (by decide +kernel) (Nat.le_of_ble_eq_true rfl) ?_
  intro pg e s m args below meth c G hret hlocks htab hC hB h ls hl Q hQ
  have hl : lv_has ls 2 [(0, .ref (eX V 96)), (1, .int (x))] := hl
  have hx := G.1
  have hcd := G.2.1
  have hI0 := hI
  obtain ⟨hz, hbn, hn, hm, h3, h54, h4, h7, hr, he, ha, hact, h5⟩ := hI
  refine lv_iload_n hx hcd dX3_addStory_0 rfl (lv_at hl 1 rfl) ?_
  refine k_Si (As := [.int (x)]) (rest := []) G hC hB h (met_X0_isEstimate l V (setB S 0 B) x) mw_788 ks_X0_isEstimate ⟨rfl, rfl⟩ ⟨Nat.le_of_ble_eq_true rfl, Nat.le_of_ble_eq_true rfl⟩ rfl rfl hl.1 (Nat.le_of_ble_eq_true rfl) dX3_addStory_1 ⟨Nat.le_of_ble_eq_true rfl, Nat.le_of_ble_eq_true rfl⟩ (fun r u H locs hp h => ?_)
  obtain ⟨rfl, hu⟩ := hp
  rw [hu] at h
  refine kx_Sv (As := [.int (bz (isEst (x : Int32).toInt))]) (rest := []) G hC hB h (met_X3_requireArgument l hst V (setB S 0 B) (isEst (x : Int32).toInt)) mw_793 ks_X3_requireArgument ⟨rfl, rfl⟩ ⟨Nat.le_of_ble_eq_true rfl, Nat.le_of_ble_eq_true rfl⟩ rfl rfl hl.1 (Nat.le_of_ble_eq_true rfl) dX3_addStory_4 ⟨Nat.le_of_ble_eq_true rfl, Nat.le_of_ble_eq_true rfl⟩ (fun E ce q9 u t H1 locs1 ht9 hpx hb9 hS9 e1 e2 e3 => by subst hQ; exact kx_pass htab hlocks ht9 (Or.inl (hpx)) hb9 hS9 e1 e2 e3 (Nat.le_of_ble_eq_true rfl) (Nat.le_of_ble_eq_true rfl)) (fun u H locs hp h => ?_)
  obtain ⟨hs1, hu⟩ := hp; rw [hu] at h
  obtain ⟨p0, rfl, hp1, hp13⟩ := isEst_ex hs1
  refine lv_aload_n hx hcd dX3_addStory_7 rfl (lv_at hl 0 rfl) ?_
  refine va_get (D := eD V) (ci := 7) (v := .ref (eX V (8 * 0))) (C := RX3) (T := TX3) (N := 11) hx hcd G.2.2.2.2 iwX3 G.2.2.2.1 hC.1 h.1 (96 + 0) (cF_at V _ (i := 0) (by decide)) rfl 0 (by decide) (G.2.2.2.2 _ mw_242) (fun y h9 => h9) rfl dX3_addStory_8 ?_
  refine lv_iload_n hx hcd dX3_addStory_11 rfl (lv_at hl 1 rfl) ?_
  refine k_Vi (As := [.int (nI (p0))]) (rest := []) (b := eX V (8 * 0)) G hC hB h (met_X0_canAddStory l V S 0 B (by omega) hn (nI (p0))) mw_799 kv_X0_canAddStory ⟨rfl, rfl⟩ ⟨Nat.le_of_ble_eq_true rfl, Nat.le_of_ble_eq_true rfl⟩ (r_bV hC h 0 (by omega)) rfl rfl hl.1 (Nat.le_of_ble_eq_true rfl) dX3_addStory_12 ⟨Nat.le_of_ble_eq_true rfl, Nat.le_of_ble_eq_true rfl⟩ (fun r u H locs hp h => ?_)
  obtain ⟨rfl, rfl⟩ := hp
  refine kx_Sv (As := [.int (bz ((isEst (nI (p0) : Int32).toInt && decide (B.2 0 < 16))))]) (rest := []) G hC hB h (met_X3_requireState l hst V (setB S 0 B) (isEst (nI (p0) : Int32).toInt && decide (B.2 0 < 16))) mw_804 ks_X3_requireState ⟨rfl, rfl⟩ ⟨Nat.le_of_ble_eq_true rfl, Nat.le_of_ble_eq_true rfl⟩ rfl rfl hl.1 (Nat.le_of_ble_eq_true rfl) dX3_addStory_15 ⟨Nat.le_of_ble_eq_true rfl, Nat.le_of_ble_eq_true rfl⟩ (fun E ce q9 u t H1 locs1 ht9 hpx hb9 hS9 e1 e2 e3 => by subst hQ; exact kx_pass htab hlocks ht9 (Or.inr (⟨p0, hs1, rfl, hp1, hp13, hpx⟩)) hb9 hS9 e1 e2 e3 (Nat.le_of_ble_eq_true rfl) (Nat.le_of_ble_eq_true rfl)) (fun u H locs hp h => ?_)
  obtain ⟨hs2, hu⟩ := hp; rw [hu] at h
  have g1 := of_decide_eq_true (band_r hs2)
  refine lv_aload_n hx hcd dX3_addStory_18 rfl (lv_at hl 0 rfl) ?_
  refine va_get (D := eD V) (ci := 7) (v := .ref (eX V 97)) (C := RX3) (T := TX3) (N := 11) hx hcd G.2.2.2.2 iwX3 G.2.2.2.1 hC.1 h.1 (96 + 0) (cF_at V _ (i := 0) (by decide)) rfl 4 (by decide) (G.2.2.2.2 _ mw_246) (fun y h9 => h9) rfl dX3_addStory_19 ?_
  refine lv_aload_n hx hcd dX3_addStory_22 rfl (lv_at hl 0 rfl) ?_
  refine va_get (D := eD V) (ci := 7) (v := .ref (eX V (8 * 0))) (C := RX3) (T := TX3) (N := 11) hx hcd G.2.2.2.2 iwX3 G.2.2.2.1 hC.1 h.1 (96 + 0) (cF_at V _ (i := 0) (by decide)) rfl 0 (by decide) (G.2.2.2.2 _ mw_242) (fun y h9 => h9) rfl dX3_addStory_23 ?_
  refine k_Vv (As := [.ref (eX V (8 * 0))]) (rest := []) (b := eX V 97) G hC hB h (met_X2_keep l V (setB S 0 B) 0 (by omega) nx sz hnx hsz hx5 hs5 hz h3 hbn (by rw [setB_ne _ _ (by omega)]; exact hnb)) mw_823 kv_X2_keep ⟨rfl, rfl⟩ ⟨Nat.le_of_ble_eq_true rfl, Nat.le_of_ble_eq_true rfl⟩ (r_hV hC h) rfl rfl hl.1 (Nat.le_of_ble_eq_true rfl) dX3_addStory_26 ⟨Nat.le_of_ble_eq_true rfl, Nat.le_of_ble_eq_true rfl⟩ (fun u H locs hp h => ?_)
  rw [hp, histS_0] at h
  refine lv_aload_n hx hcd dX3_addStory_29 rfl (lv_at hl 0 rfl) ?_
  refine va_get (D := eD V) (ci := 7) (v := .ref (eX V (8 * 0))) (C := RX3) (T := TX3) (N := 11) hx hcd G.2.2.2.2 iwX3 G.2.2.2.1 hC.1 h.1 (96 + 0) (cF_at V _ (i := 0) (by decide)) rfl 0 (by decide) (G.2.2.2.2 _ mw_242) (fun y h9 => h9) rfl dX3_addStory_30 ?_
  refine lv_iload_n hx hcd dX3_addStory_33 rfl (lv_at hl 1 rfl) ?_
  refine k_Vi (As := [.int (nI (p0))]) (rest := []) (b := eX V (8 * 0)) G hC hB h (met_X0_putStory l V (hkS S B nx sz) 0 B (by omega) hz p0 (by omega) (by omega)) mw_832 kv_X0_putStory ⟨rfl, rfl⟩ ⟨Nat.le_of_ble_eq_true rfl, Nat.le_of_ble_eq_true rfl⟩ (r_bV hC h 0 (by omega)) rfl rfl hl.1 (Nat.le_of_ble_eq_true rfl) dX3_addStory_34 ⟨Nat.le_of_ble_eq_true rfl, Nat.le_of_ble_eq_true rfl⟩ (fun r u H locs hp h => ?_)
  obtain ⟨rfl, rfl⟩ := hp
  exact kx_reti hQ G hret hlocks h (⟨p0, hs1, rfl, hp1, hp13, hs2, rfl, rfl⟩) (Nat.le_of_ble_eq_true rfl) (Nat.le_of_ble_eq_true rfl) dX3_addStory_37
set_option maxHeartbeats 4000000 in
set_option maxRecDepth 100000 in
/-- addDeveloper -/
theorem met_X3_addDeveloper (l : Launch) (hst : l.stackTraces = false) (V : kEnv) (S : kCs) (B : kBd) (hI : bI B) (nx sz : Nat) (hnx : S.2.1 3 = nI nx) (hsz : S.2.1 4 = nI sz) (hx5 : nx < 60000) (hs5 : sz ≤ 8) (hnb : bN (S.1 (4 + nx % 8))) (x : Int32) : kX l yX3_addDeveloper cX3_addDeveloper 2 (some .int) { frames := 8, cells := 6, slots := 36, locals := 131 } V (cWs V) [.ref (eX V 96), .int (x)] (setB S 0 B) (fun r u => ∃ (p0 : Nat), (decide (1 ≤ (x : Int32).toInt ∧ (x : Int32).toInt ≤ 4)) = true ∧ x = nI p0 ∧ 1 ≤ p0 ∧ p0 ≤ 4 ∧ ((decide (1 ≤ (x : Int32).toInt ∧ (x : Int32).toInt ≤ 4) && decide (B.2 1 < 4))) = true ∧ r = nI (B.2 1) ∧ u = setB (hkS S B nx sz) 0 (devB B p0)) (fun E u => (E = "java/lang/IllegalArgumentException" ∧ (decide (1 ≤ (x : Int32).toInt ∧ (x : Int32).toInt ≤ 4)) = false ∧ u = setB S 0 B) ∨ (∃ (p0 : Nat), (decide (1 ≤ (x : Int32).toInt ∧ (x : Int32).toInt ≤ 4)) = true ∧ x = nI p0 ∧ 1 ≤ p0 ∧ p0 ≤ 4 ∧ E = "java/lang/IllegalStateException" ∧ ((decide (1 ≤ (x : Int32).toInt ∧ (x : Int32).toInt ≤ 4) && decide (B.2 1 < 4))) = false ∧ u = setB S 0 B)) 6 36 := by
  refine kX_of (by decide +kernel) (Nat.le_of_ble_eq_true rfl) ?_
  intro pg e s m args below meth c G hret hlocks htab hC hB h ls hl Q hQ
  have hl : lv_has ls 2 [(0, .ref (eX V 96)), (1, .int (x))] := hl
  have hx := G.1
  have hcd := G.2.1
  have hI0 := hI
  obtain ⟨hz, hbn, hn, hm, h3, h54, h4, h7, hr, he, ha, hact, h5⟩ := hI
  refine lv_iload_n hx hcd dX3_addDeveloper_0 rfl (lv_at hl 1 rfl) ?_
  refine k_Si (As := [.int (x)]) (rest := []) G hC hB h (met_X0_isSpeed l V (setB S 0 B) x) mw_1054 ks_X0_isSpeed ⟨rfl, rfl⟩ ⟨Nat.le_of_ble_eq_true rfl, Nat.le_of_ble_eq_true rfl⟩ rfl rfl hl.1 (Nat.le_of_ble_eq_true rfl) dX3_addDeveloper_1 ⟨Nat.le_of_ble_eq_true rfl, Nat.le_of_ble_eq_true rfl⟩ (fun r u H locs hp h => ?_)
  obtain ⟨rfl, hu⟩ := hp
  rw [hu] at h
  refine kx_Sv (As := [.int (bz (decide (1 ≤ (x : Int32).toInt ∧ (x : Int32).toInt ≤ 4)))]) (rest := []) G hC hB h (met_X3_requireArgument l hst V (setB S 0 B) (decide (1 ≤ (x : Int32).toInt ∧ (x : Int32).toInt ≤ 4))) mw_793 ks_X3_requireArgument ⟨rfl, rfl⟩ ⟨Nat.le_of_ble_eq_true rfl, Nat.le_of_ble_eq_true rfl⟩ rfl rfl hl.1 (Nat.le_of_ble_eq_true rfl) dX3_addDeveloper_4 ⟨Nat.le_of_ble_eq_true rfl, Nat.le_of_ble_eq_true rfl⟩ (fun E ce q9 u t H1 locs1 ht9 hpx hb9 hS9 e1 e2 e3 => by subst hQ; exact kx_pass htab hlocks ht9 (Or.inl (hpx)) hb9 hS9 e1 e2 e3 (Nat.le_of_ble_eq_true rfl) (Nat.le_of_ble_eq_true rfl)) (fun u H locs hp h => ?_)
  obtain ⟨hs1, hu⟩ := hp; rw [hu] at h
  obtain ⟨p0, rfl, hp1, hp4⟩ := rng_ex (a := 1) (b := 4) (by decide) (of_decide_eq_true hs1)
  refine lv_aload_n hx hcd dX3_addDeveloper_7 rfl (lv_at hl 0 rfl) ?_
  refine va_get (D := eD V) (ci := 7) (v := .ref (eX V (8 * 0))) (C := RX3) (T := TX3) (N := 11) hx hcd G.2.2.2.2 iwX3 G.2.2.2.1 hC.1 h.1 (96 + 0) (cF_at V _ (i := 0) (by decide)) rfl 0 (by decide) (G.2.2.2.2 _ mw_242) (fun y h9 => h9) rfl dX3_addDeveloper_8 ?_
  refine lv_iload_n hx hcd dX3_addDeveloper_11 rfl (lv_at hl 1 rfl) ?_
  refine k_Vi (As := [.int (nI (p0))]) (rest := []) (b := eX V (8 * 0)) G hC hB h (met_X0_canAddDeveloper l V S 0 B (by omega) hm (nI (p0))) mw_1057 kv_X0_canAddDeveloper ⟨rfl, rfl⟩ ⟨Nat.le_of_ble_eq_true rfl, Nat.le_of_ble_eq_true rfl⟩ (r_bV hC h 0 (by omega)) rfl rfl hl.1 (Nat.le_of_ble_eq_true rfl) dX3_addDeveloper_12 ⟨Nat.le_of_ble_eq_true rfl, Nat.le_of_ble_eq_true rfl⟩ (fun r u H locs hp h => ?_)
  obtain ⟨rfl, rfl⟩ := hp
  refine kx_Sv (As := [.int (bz ((decide (1 ≤ (nI (p0) : Int32).toInt ∧ (nI (p0) : Int32).toInt ≤ 4) && decide (B.2 1 < 4))))]) (rest := []) G hC hB h (met_X3_requireState l hst V (setB S 0 B) (decide (1 ≤ (nI (p0) : Int32).toInt ∧ (nI (p0) : Int32).toInt ≤ 4) && decide (B.2 1 < 4))) mw_804 ks_X3_requireState ⟨rfl, rfl⟩ ⟨Nat.le_of_ble_eq_true rfl, Nat.le_of_ble_eq_true rfl⟩ rfl rfl hl.1 (Nat.le_of_ble_eq_true rfl) dX3_addDeveloper_15 ⟨Nat.le_of_ble_eq_true rfl, Nat.le_of_ble_eq_true rfl⟩ (fun E ce q9 u t H1 locs1 ht9 hpx hb9 hS9 e1 e2 e3 => by subst hQ; exact kx_pass htab hlocks ht9 (Or.inr (⟨p0, hs1, rfl, hp1, hp4, hpx⟩)) hb9 hS9 e1 e2 e3 (Nat.le_of_ble_eq_true rfl) (Nat.le_of_ble_eq_true rfl)) (fun u H locs hp h => ?_)
  obtain ⟨hs2, hu⟩ := hp; rw [hu] at h
  have g1 := of_decide_eq_true (band_r hs2)
  refine lv_aload_n hx hcd dX3_addDeveloper_18 rfl (lv_at hl 0 rfl) ?_
  refine va_get (D := eD V) (ci := 7) (v := .ref (eX V 97)) (C := RX3) (T := TX3) (N := 11) hx hcd G.2.2.2.2 iwX3 G.2.2.2.1 hC.1 h.1 (96 + 0) (cF_at V _ (i := 0) (by decide)) rfl 4 (by decide) (G.2.2.2.2 _ mw_246) (fun y h9 => h9) rfl dX3_addDeveloper_19 ?_
  refine lv_aload_n hx hcd dX3_addDeveloper_22 rfl (lv_at hl 0 rfl) ?_
  refine va_get (D := eD V) (ci := 7) (v := .ref (eX V (8 * 0))) (C := RX3) (T := TX3) (N := 11) hx hcd G.2.2.2.2 iwX3 G.2.2.2.1 hC.1 h.1 (96 + 0) (cF_at V _ (i := 0) (by decide)) rfl 0 (by decide) (G.2.2.2.2 _ mw_242) (fun y h9 => h9) rfl dX3_addDeveloper_23 ?_
  refine k_Vv (As := [.ref (eX V (8 * 0))]) (rest := []) (b := eX V 97) G hC hB h (met_X2_keep l V (setB S 0 B) 0 (by omega) nx sz hnx hsz hx5 hs5 hz h3 hbn (by rw [setB_ne _ _ (by omega)]; exact hnb)) mw_823 kv_X2_keep ⟨rfl, rfl⟩ ⟨Nat.le_of_ble_eq_true rfl, Nat.le_of_ble_eq_true rfl⟩ (r_hV hC h) rfl rfl hl.1 (Nat.le_of_ble_eq_true rfl) dX3_addDeveloper_26 ⟨Nat.le_of_ble_eq_true rfl, Nat.le_of_ble_eq_true rfl⟩ (fun u H locs hp h => ?_)
  rw [hp, histS_0] at h
  refine lv_aload_n hx hcd dX3_addDeveloper_29 rfl (lv_at hl 0 rfl) ?_
  refine va_get (D := eD V) (ci := 7) (v := .ref (eX V (8 * 0))) (C := RX3) (T := TX3) (N := 11) hx hcd G.2.2.2.2 iwX3 G.2.2.2.1 hC.1 h.1 (96 + 0) (cF_at V _ (i := 0) (by decide)) rfl 0 (by decide) (G.2.2.2.2 _ mw_242) (fun y h9 => h9) rfl dX3_addDeveloper_30 ?_
  refine lv_iload_n hx hcd dX3_addDeveloper_33 rfl (lv_at hl 1 rfl) ?_
  refine k_Vi (As := [.int (nI (p0))]) (rest := []) (b := eX V (8 * 0)) G hC hB h (met_X0_putDeveloper l V (hkS S B nx sz) 0 B (by omega) hz p0 (by omega) (by omega)) mw_1062 kv_X0_putDeveloper ⟨rfl, rfl⟩ ⟨Nat.le_of_ble_eq_true rfl, Nat.le_of_ble_eq_true rfl⟩ (r_bV hC h 0 (by omega)) rfl rfl hl.1 (Nat.le_of_ble_eq_true rfl) dX3_addDeveloper_34 ⟨Nat.le_of_ble_eq_true rfl, Nat.le_of_ble_eq_true rfl⟩ (fun r u H locs hp h => ?_)
  obtain ⟨rfl, rfl⟩ := hp
  exact kx_reti hQ G hret hlocks h (⟨p0, hs1, rfl, hp1, hp4, hs2, rfl, rfl⟩) (Nat.le_of_ble_eq_true rfl) (Nat.le_of_ble_eq_true rfl) dX3_addDeveloper_37
set_option maxHeartbeats 4000000 in
set_option maxRecDepth 100000 in
/-- startSprint -/
theorem met_X3_startSprint (l : Launch) (hst : l.stackTraces = false) (V : kEnv) (S : kCs) (B : kBd) (hI : bI B) (nx sz : Nat) (hnx : S.2.1 3 = nI nx) (hsz : S.2.1 4 = nI sz) (hx5 : nx < 60000) (hs5 : sz ≤ 8) (hnb : bN (S.1 (4 + nx % 8))) (x : Int32) : kX l yX3_startSprint cX3_startSprint 2 (some .int) { frames := 8, cells := 6, slots := 36, locals := 131 } V (cWs V) [.ref (eX V 96), .int (x)] (setB S 0 B) (fun r u => ∃ (p0 : Nat), (decide (1 ≤ (x : Int32).toInt ∧ (x : Int32).toInt ≤ 10)) = true ∧ x = nI p0 ∧ 1 ≤ p0 ∧ p0 ≤ 10 ∧ (((decide (1 ≤ (x : Int32).toInt ∧ (x : Int32).toInt ≤ 10) && decide (B.2 3 = 0)) && decide (B.2 7 < 9))) = true ∧ r = nI (B.2 7) ∧ u = setB (hkS S B nx sz) 0 (begB B p0)) (fun E u => (E = "java/lang/IllegalArgumentException" ∧ (decide (1 ≤ (x : Int32).toInt ∧ (x : Int32).toInt ≤ 10)) = false ∧ u = setB S 0 B) ∨ (∃ (p0 : Nat), (decide (1 ≤ (x : Int32).toInt ∧ (x : Int32).toInt ≤ 10)) = true ∧ x = nI p0 ∧ 1 ≤ p0 ∧ p0 ≤ 10 ∧ E = "java/lang/IllegalStateException" ∧ (((decide (1 ≤ (x : Int32).toInt ∧ (x : Int32).toInt ≤ 10) && decide (B.2 3 = 0)) && decide (B.2 7 < 9))) = false ∧ u = setB S 0 B)) 6 36 := by
  refine kX_of (by decide +kernel) (Nat.le_of_ble_eq_true rfl) ?_
  intro pg e s m args below meth c G hret hlocks htab hC hB h ls hl Q hQ
  have hl : lv_has ls 2 [(0, .ref (eX V 96)), (1, .int (x))] := hl
  have hx := G.1
  have hcd := G.2.1
  have hI0 := hI
  obtain ⟨hz, hbn, hn, hm, h3, h54, h4, h7, hr, he, ha, hact, h5⟩ := hI
  have hps : psum B 0 < 65536 := Nat.lt_of_le_of_lt (psum_le he hr (by decide)) (by decide)
  refine lv_iload_n hx hcd dX3_startSprint_0 rfl (lv_at hl 1 rfl) ?_
  refine k_Si (As := [.int (x)]) (rest := []) G hC hB h (met_X0_isSprintLength l V (setB S 0 B) x) mw_1165 ks_X0_isSprintLength ⟨rfl, rfl⟩ ⟨Nat.le_of_ble_eq_true rfl, Nat.le_of_ble_eq_true rfl⟩ rfl rfl hl.1 (Nat.le_of_ble_eq_true rfl) dX3_startSprint_1 ⟨Nat.le_of_ble_eq_true rfl, Nat.le_of_ble_eq_true rfl⟩ (fun r u H locs hp h => ?_)
  obtain ⟨rfl, hu⟩ := hp
  rw [hu] at h
  refine kx_Sv (As := [.int (bz (decide (1 ≤ (x : Int32).toInt ∧ (x : Int32).toInt ≤ 10)))]) (rest := []) G hC hB h (met_X3_requireArgument l hst V (setB S 0 B) (decide (1 ≤ (x : Int32).toInt ∧ (x : Int32).toInt ≤ 10))) mw_793 ks_X3_requireArgument ⟨rfl, rfl⟩ ⟨Nat.le_of_ble_eq_true rfl, Nat.le_of_ble_eq_true rfl⟩ rfl rfl hl.1 (Nat.le_of_ble_eq_true rfl) dX3_startSprint_4 ⟨Nat.le_of_ble_eq_true rfl, Nat.le_of_ble_eq_true rfl⟩ (fun E ce q9 u t H1 locs1 ht9 hpx hb9 hS9 e1 e2 e3 => by subst hQ; exact kx_pass htab hlocks ht9 (Or.inl (hpx)) hb9 hS9 e1 e2 e3 (Nat.le_of_ble_eq_true rfl) (Nat.le_of_ble_eq_true rfl)) (fun u H locs hp h => ?_)
  obtain ⟨hs1, hu⟩ := hp; rw [hu] at h
  obtain ⟨p0, rfl, hp1, hp10⟩ := rng_ex (a := 1) (b := 10) (by decide) (of_decide_eq_true hs1)
  refine lv_aload_n hx hcd dX3_startSprint_7 rfl (lv_at hl 0 rfl) ?_
  refine va_get (D := eD V) (ci := 7) (v := .ref (eX V (8 * 0))) (C := RX3) (T := TX3) (N := 11) hx hcd G.2.2.2.2 iwX3 G.2.2.2.1 hC.1 h.1 (96 + 0) (cF_at V _ (i := 0) (by decide)) rfl 0 (by decide) (G.2.2.2.2 _ mw_242) (fun y h9 => h9) rfl dX3_startSprint_8 ?_
  refine lv_iload_n hx hcd dX3_startSprint_11 rfl (lv_at hl 1 rfl) ?_
  refine k_Vi (As := [.int (nI (p0))]) (rest := []) (b := eX V (8 * 0)) G hC hB h (met_X0_canStart l V S 0 B (by omega) hz (nI (p0))) mw_1168 kv_X0_canStart ⟨rfl, rfl⟩ ⟨Nat.le_of_ble_eq_true rfl, Nat.le_of_ble_eq_true rfl⟩ (r_bV hC h 0 (by omega)) rfl rfl hl.1 (Nat.le_of_ble_eq_true rfl) dX3_startSprint_12 ⟨Nat.le_of_ble_eq_true rfl, Nat.le_of_ble_eq_true rfl⟩ (fun r u H locs hp h => ?_)
  obtain ⟨rfl, rfl⟩ := hp
  refine kx_Sv (As := [.int (bz (((decide (1 ≤ (nI (p0) : Int32).toInt ∧ (nI (p0) : Int32).toInt ≤ 10) && decide (B.2 3 = 0)) && decide (B.2 7 < 9))))]) (rest := []) G hC hB h (met_X3_requireState l hst V (setB S 0 B) ((decide (1 ≤ (nI (p0) : Int32).toInt ∧ (nI (p0) : Int32).toInt ≤ 10) && decide (B.2 3 = 0)) && decide (B.2 7 < 9))) mw_804 ks_X3_requireState ⟨rfl, rfl⟩ ⟨Nat.le_of_ble_eq_true rfl, Nat.le_of_ble_eq_true rfl⟩ rfl rfl hl.1 (Nat.le_of_ble_eq_true rfl) dX3_startSprint_15 ⟨Nat.le_of_ble_eq_true rfl, Nat.le_of_ble_eq_true rfl⟩ (fun E ce q9 u t H1 locs1 ht9 hpx hb9 hS9 e1 e2 e3 => by subst hQ; exact kx_pass htab hlocks ht9 (Or.inr (⟨p0, hs1, rfl, hp1, hp10, hpx⟩)) hb9 hS9 e1 e2 e3 (Nat.le_of_ble_eq_true rfl) (Nat.le_of_ble_eq_true rfl)) (fun u H locs hp h => ?_)
  obtain ⟨hs2, hu⟩ := hp; rw [hu] at h
  refine lv_aload_n hx hcd dX3_startSprint_18 rfl (lv_at hl 0 rfl) ?_
  refine va_get (D := eD V) (ci := 7) (v := .ref (eX V 97)) (C := RX3) (T := TX3) (N := 11) hx hcd G.2.2.2.2 iwX3 G.2.2.2.1 hC.1 h.1 (96 + 0) (cF_at V _ (i := 0) (by decide)) rfl 4 (by decide) (G.2.2.2.2 _ mw_246) (fun y h9 => h9) rfl dX3_startSprint_19 ?_
  refine lv_aload_n hx hcd dX3_startSprint_22 rfl (lv_at hl 0 rfl) ?_
  refine va_get (D := eD V) (ci := 7) (v := .ref (eX V (8 * 0))) (C := RX3) (T := TX3) (N := 11) hx hcd G.2.2.2.2 iwX3 G.2.2.2.1 hC.1 h.1 (96 + 0) (cF_at V _ (i := 0) (by decide)) rfl 0 (by decide) (G.2.2.2.2 _ mw_242) (fun y h9 => h9) rfl dX3_startSprint_23 ?_
  refine k_Vv (As := [.ref (eX V (8 * 0))]) (rest := []) (b := eX V 97) G hC hB h (met_X2_keep l V (setB S 0 B) 0 (by omega) nx sz hnx hsz hx5 hs5 hz h3 hbn (by rw [setB_ne _ _ (by omega)]; exact hnb)) mw_823 kv_X2_keep ⟨rfl, rfl⟩ ⟨Nat.le_of_ble_eq_true rfl, Nat.le_of_ble_eq_true rfl⟩ (r_hV hC h) rfl rfl hl.1 (Nat.le_of_ble_eq_true rfl) dX3_startSprint_26 ⟨Nat.le_of_ble_eq_true rfl, Nat.le_of_ble_eq_true rfl⟩ (fun u H locs hp h => ?_)
  rw [hp, histS_0] at h
  refine lv_aload_n hx hcd dX3_startSprint_29 rfl (lv_at hl 0 rfl) ?_
  refine va_get (D := eD V) (ci := 7) (v := .ref (eX V (8 * 0))) (C := RX3) (T := TX3) (N := 11) hx hcd G.2.2.2.2 iwX3 G.2.2.2.1 hC.1 h.1 (96 + 0) (cF_at V _ (i := 0) (by decide)) rfl 0 (by decide) (G.2.2.2.2 _ mw_242) (fun y h9 => h9) rfl dX3_startSprint_30 ?_
  refine lv_iload_n hx hcd dX3_startSprint_33 rfl (lv_at hl 1 rfl) ?_
  refine k_Vi (As := [.int (nI (p0))]) (rest := []) (b := eX V (8 * 0)) G hC hB h (met_X0_beginSprint l V (hkS S B nx sz) 0 B (by omega) hz p0 (by omega) (by assumption)) mw_1173 kv_X0_beginSprint ⟨rfl, rfl⟩ ⟨Nat.le_of_ble_eq_true rfl, Nat.le_of_ble_eq_true rfl⟩ (r_bV hC h 0 (by omega)) rfl rfl hl.1 (Nat.le_of_ble_eq_true rfl) dX3_startSprint_34 ⟨Nat.le_of_ble_eq_true rfl, Nat.le_of_ble_eq_true rfl⟩ (fun r u H locs hp h => ?_)
  obtain ⟨rfl, rfl⟩ := hp
  exact kx_reti hQ G hret hlocks h (⟨p0, hs1, rfl, hp1, hp10, hs2, rfl, rfl⟩) (Nat.le_of_ble_eq_true rfl) (Nat.le_of_ble_eq_true rfl) dX3_startSprint_37
set_option maxHeartbeats 4000000 in
set_option maxRecDepth 100000 in
/-- reestimate -/
theorem met_X3_reestimate (l : Launch) (hst : l.stackTraces = false) (V : kEnv) (S : kCs) (B : kBd) (hI : bI B) (nx sz : Nat) (hnx : S.2.1 3 = nI nx) (hsz : S.2.1 4 = nI sz) (hx5 : nx < 60000) (hs5 : sz ≤ 8) (hnb : bN (S.1 (4 + nx % 8))) (x : Int32) (y : Int32) : kX l yX3_reestimate cX3_reestimate 3 (some .int) { frames := 8, cells := 6, slots := 36, locals := 131 } V (cWs V) [.ref (eX V 96), .int (x), .int (y)] (setB S 0 B) (fun r u => ∃ (j : Nat) (p0 : Nat), x = nI j ∧ j < B.2 0 ∧ (isEst (y : Int32).toInt) = true ∧ y = nI p0 ∧ 1 ≤ p0 ∧ p0 ≤ 13 ∧ (((decide (j < B.2 0) && isEst (y : Int32).toInt) && decide (B.1 1 j ≠ 0))) = true ∧ r = nI (p0 - min (B.1 0 j - B.1 1 j) p0) ∧ u = setB (hkS S B nx sz) 0 (reB B j p0)) (fun E u => (E = "java/lang/IndexOutOfBoundsException" ∧ inR (B.2 0) x = false ∧ u = setB S 0 B) ∨ (∃ (j : Nat), x = nI j ∧ j < B.2 0 ∧ E = "java/lang/IllegalArgumentException" ∧ (isEst (y : Int32).toInt) = false ∧ u = setB S 0 B) ∨ (∃ (j : Nat) (p0 : Nat), x = nI j ∧ j < B.2 0 ∧ (isEst (y : Int32).toInt) = true ∧ y = nI p0 ∧ 1 ≤ p0 ∧ p0 ≤ 13 ∧ E = "java/lang/IllegalStateException" ∧ (((decide (j < B.2 0) && isEst (y : Int32).toInt) && decide (B.1 1 j ≠ 0))) = false ∧ u = setB S 0 B)) 6 36 := by
  refine kX_of (by decide +kernel) (Nat.le_of_ble_eq_true rfl) ?_
  intro pg e s m args below meth c G hret hlocks htab hC hB h ls hl Q hQ
  have hl : lv_has ls 3 [(0, .ref (eX V 96)), (1, .int (x)), (2, .int (y))] := hl
  have hx := G.1
  have hcd := G.2.1
  have hI0 := hI
  obtain ⟨hz, hbn, hn, hm, h3, h54, h4, h7, hr, he, ha, hact, h5⟩ := hI
  refine lv_aload_n hx hcd dX3_reestimate_0 rfl (lv_at hl 0 rfl) ?_
  refine lv_iload_n hx hcd dX3_reestimate_1 rfl (lv_at hl 1 rfl) ?_
  refine kx_Vv (As := [.int (x)]) (rest := []) (b := eX V 96) G hC hB h (met_X3_requireStory l hst V S B hI0 x) mw_846 kv_X3_requireStory ⟨rfl, rfl⟩ ⟨Nat.le_of_ble_eq_true rfl, Nat.le_of_ble_eq_true rfl⟩ (r_sV hC h) rfl rfl hl.1 (Nat.le_of_ble_eq_true rfl) dX3_reestimate_2 ⟨Nat.le_of_ble_eq_true rfl, Nat.le_of_ble_eq_true rfl⟩ (fun E ce q9 u t H1 locs1 ht9 hpx hb9 hS9 e1 e2 e3 => by subst hQ; exact kx_pass htab hlocks ht9 (Or.inl (hpx)) hb9 hS9 e1 e2 e3 (Nat.le_of_ble_eq_true rfl) (Nat.le_of_ble_eq_true rfl)) (fun u H locs hp h => ?_)
  obtain ⟨hs1, hu⟩ := hp; rw [hu] at h
  obtain ⟨j, hj, rfl⟩ := inR_ex (by omega) hs1
  refine lv_iload_n hx hcd dX3_reestimate_5 rfl (lv_at hl 2 rfl) ?_
  refine k_Si (As := [.int (y)]) (rest := []) G hC hB h (met_X0_isEstimate l V (setB S 0 B) y) mw_788 ks_X0_isEstimate ⟨rfl, rfl⟩ ⟨Nat.le_of_ble_eq_true rfl, Nat.le_of_ble_eq_true rfl⟩ rfl rfl hl.1 (Nat.le_of_ble_eq_true rfl) dX3_reestimate_6 ⟨Nat.le_of_ble_eq_true rfl, Nat.le_of_ble_eq_true rfl⟩ (fun r u H locs hp h => ?_)
  obtain ⟨rfl, hu⟩ := hp
  rw [hu] at h
  refine kx_Sv (As := [.int (bz (isEst (y : Int32).toInt))]) (rest := []) G hC hB h (met_X3_requireArgument l hst V (setB S 0 B) (isEst (y : Int32).toInt)) mw_793 ks_X3_requireArgument ⟨rfl, rfl⟩ ⟨Nat.le_of_ble_eq_true rfl, Nat.le_of_ble_eq_true rfl⟩ rfl rfl hl.1 (Nat.le_of_ble_eq_true rfl) dX3_reestimate_9 ⟨Nat.le_of_ble_eq_true rfl, Nat.le_of_ble_eq_true rfl⟩ (fun E ce q9 u t H1 locs1 ht9 hpx hb9 hS9 e1 e2 e3 => by subst hQ; exact kx_pass htab hlocks ht9 (Or.inr (Or.inl (⟨j, rfl, hj, hpx⟩))) hb9 hS9 e1 e2 e3 (Nat.le_of_ble_eq_true rfl) (Nat.le_of_ble_eq_true rfl)) (fun u H locs hp h => ?_)
  obtain ⟨hs2, hu⟩ := hp; rw [hu] at h
  obtain ⟨p0, rfl, hp1, hp13⟩ := isEst_ex hs2
  refine lv_aload_n hx hcd dX3_reestimate_12 rfl (lv_at hl 0 rfl) ?_
  refine va_get (D := eD V) (ci := 7) (v := .ref (eX V (8 * 0))) (C := RX3) (T := TX3) (N := 11) hx hcd G.2.2.2.2 iwX3 G.2.2.2.1 hC.1 h.1 (96 + 0) (cF_at V _ (i := 0) (by decide)) rfl 0 (by decide) (G.2.2.2.2 _ mw_242) (fun y h9 => h9) rfl dX3_reestimate_13 ?_
  refine lv_iload_n hx hcd dX3_reestimate_16 rfl (lv_at hl 1 rfl) ?_
  refine lv_iload_n hx hcd dX3_reestimate_17 rfl (lv_at hl 2 rfl) ?_
  refine k_Vi (As := [.int (nI (j)), .int (nI (p0))]) (rest := []) (b := eX V (8 * 0)) G hC hB h (met_X0_canReestimate l V S 0 B (by omega) hz hn j (by omega) (nI (p0))) mw_866 kv_X0_canReestimate ⟨rfl, rfl⟩ ⟨Nat.le_of_ble_eq_true rfl, Nat.le_of_ble_eq_true rfl⟩ (r_bV hC h 0 (by omega)) rfl rfl hl.1 (Nat.le_of_ble_eq_true rfl) dX3_reestimate_18 ⟨Nat.le_of_ble_eq_true rfl, Nat.le_of_ble_eq_true rfl⟩ (fun r u H locs hp h => ?_)
  obtain ⟨rfl, rfl⟩ := hp
  refine kx_Sv (As := [.int (bz (((decide (j < B.2 0) && isEst (nI (p0) : Int32).toInt) && decide (B.1 1 j ≠ 0))))]) (rest := []) G hC hB h (met_X3_requireState l hst V (setB S 0 B) ((decide (j < B.2 0) && isEst (nI (p0) : Int32).toInt) && decide (B.1 1 j ≠ 0))) mw_804 ks_X3_requireState ⟨rfl, rfl⟩ ⟨Nat.le_of_ble_eq_true rfl, Nat.le_of_ble_eq_true rfl⟩ rfl rfl hl.1 (Nat.le_of_ble_eq_true rfl) dX3_reestimate_21 ⟨Nat.le_of_ble_eq_true rfl, Nat.le_of_ble_eq_true rfl⟩ (fun E ce q9 u t H1 locs1 ht9 hpx hb9 hS9 e1 e2 e3 => by subst hQ; exact kx_pass htab hlocks ht9 (Or.inr (Or.inr (⟨j, p0, rfl, hj, hs2, rfl, hp1, hp13, hpx⟩))) hb9 hS9 e1 e2 e3 (Nat.le_of_ble_eq_true rfl) (Nat.le_of_ble_eq_true rfl)) (fun u H locs hp h => ?_)
  obtain ⟨hs3, hu⟩ := hp; rw [hu] at h
  have hrj := hr j
  refine lv_aload_n hx hcd dX3_reestimate_24 rfl (lv_at hl 0 rfl) ?_
  refine va_get (D := eD V) (ci := 7) (v := .ref (eX V 97)) (C := RX3) (T := TX3) (N := 11) hx hcd G.2.2.2.2 iwX3 G.2.2.2.1 hC.1 h.1 (96 + 0) (cF_at V _ (i := 0) (by decide)) rfl 4 (by decide) (G.2.2.2.2 _ mw_246) (fun y h9 => h9) rfl dX3_reestimate_25 ?_
  refine lv_aload_n hx hcd dX3_reestimate_28 rfl (lv_at hl 0 rfl) ?_
  refine va_get (D := eD V) (ci := 7) (v := .ref (eX V (8 * 0))) (C := RX3) (T := TX3) (N := 11) hx hcd G.2.2.2.2 iwX3 G.2.2.2.1 hC.1 h.1 (96 + 0) (cF_at V _ (i := 0) (by decide)) rfl 0 (by decide) (G.2.2.2.2 _ mw_242) (fun y h9 => h9) rfl dX3_reestimate_29 ?_
  refine k_Vv (As := [.ref (eX V (8 * 0))]) (rest := []) (b := eX V 97) G hC hB h (met_X2_keep l V (setB S 0 B) 0 (by omega) nx sz hnx hsz hx5 hs5 hz h3 hbn (by rw [setB_ne _ _ (by omega)]; exact hnb)) mw_823 kv_X2_keep ⟨rfl, rfl⟩ ⟨Nat.le_of_ble_eq_true rfl, Nat.le_of_ble_eq_true rfl⟩ (r_hV hC h) rfl rfl hl.1 (Nat.le_of_ble_eq_true rfl) dX3_reestimate_32 ⟨Nat.le_of_ble_eq_true rfl, Nat.le_of_ble_eq_true rfl⟩ (fun u H locs hp h => ?_)
  rw [hp, histS_0] at h
  refine lv_aload_n hx hcd dX3_reestimate_35 rfl (lv_at hl 0 rfl) ?_
  refine va_get (D := eD V) (ci := 7) (v := .ref (eX V (8 * 0))) (C := RX3) (T := TX3) (N := 11) hx hcd G.2.2.2.2 iwX3 G.2.2.2.1 hC.1 h.1 (96 + 0) (cF_at V _ (i := 0) (by decide)) rfl 0 (by decide) (G.2.2.2.2 _ mw_242) (fun y h9 => h9) rfl dX3_reestimate_36 ?_
  refine lv_iload_n hx hcd dX3_reestimate_39 rfl (lv_at hl 1 rfl) ?_
  refine lv_iload_n hx hcd dX3_reestimate_40 rfl (lv_at hl 2 rfl) ?_
  refine k_Vi (As := [.int (nI (j)), .int (nI (p0))]) (rest := []) (b := eX V (8 * 0)) G hC hB h (met_X0_changeEstimate l V (hkS S B nx sz) 0 B (by omega) hz hn hm j p0 (by first | omega | assumption) (by omega) (by omega)) mw_871 kv_X0_changeEstimate ⟨rfl, rfl⟩ ⟨Nat.le_of_ble_eq_true rfl, Nat.le_of_ble_eq_true rfl⟩ (r_bV hC h 0 (by omega)) rfl rfl hl.1 (Nat.le_of_ble_eq_true rfl) dX3_reestimate_41 ⟨Nat.le_of_ble_eq_true rfl, Nat.le_of_ble_eq_true rfl⟩ (fun r u H locs hp h => ?_)
  obtain ⟨rfl, rfl⟩ := hp
  exact kx_reti hQ G hret hlocks h (⟨j, p0, rfl, hj, hs2, rfl, hp1, hp13, hs3, rfl, rfl⟩) (Nat.le_of_ble_eq_true rfl) (Nat.le_of_ble_eq_true rfl) dX3_reestimate_44
set_option maxHeartbeats 4000000 in
set_option maxRecDepth 100000 in
/-- block -/
theorem met_X3_block (l : Launch) (hst : l.stackTraces = false) (V : kEnv) (S : kCs) (B : kBd) (hI : bI B) (nx sz : Nat) (hnx : S.2.1 3 = nI nx) (hsz : S.2.1 4 = nI sz) (hx5 : nx < 60000) (hs5 : sz ≤ 8) (hnb : bN (S.1 (4 + nx % 8))) (x : Int32) (y : Int32) : kX l yX3_block cX3_block 3 (some .int) { frames := 8, cells := 6, slots := 36, locals := 131 } V (cWs V) [.ref (eX V 96), .int (x), .int (y)] (setB S 0 B) (fun r u => ∃ (j : Nat) (k : Nat), x = nI j ∧ j < B.2 0 ∧ y = nI k ∧ k < B.2 0 ∧ j ≠ k ∧ ((decide (j < B.2 0) && decide (k < B.2 0)) && (B.1 2 j).testBit k) = false ∧ (decide (j < B.2 0) && decide (B.1 1 j = 0)) = false ∧ ((((((decide (j < B.2 0) && decide (k < B.2 0)) && decide (j ≠ k)) && !(B.1 2 j).testBit k) && decide (B.1 1 j ≠ 0)) && !fnd B k j)) = true ∧ r = nI (pcn ((blkB B j k).1 2 j)) ∧ u = setB (hkS S B nx sz) 0 (blkB B j k)) (fun E u => (E = "java/lang/IndexOutOfBoundsException" ∧ inR (B.2 0) x = false ∧ u = setB S 0 B) ∨ (∃ (j : Nat), x = nI j ∧ j < B.2 0 ∧ E = "java/lang/IndexOutOfBoundsException" ∧ inR (B.2 0) y = false ∧ u = setB S 0 B) ∨ (∃ (j : Nat) (k : Nat), x = nI j ∧ j < B.2 0 ∧ y = nI k ∧ k < B.2 0 ∧ E = "java/lang/IllegalArgumentException" ∧ j = k ∧ u = setB S 0 B) ∨ (∃ (j : Nat) (k : Nat), x = nI j ∧ j < B.2 0 ∧ y = nI k ∧ k < B.2 0 ∧ j ≠ k ∧ E = "java/lang/IllegalStateException" ∧ (((decide (j < B.2 0) && decide (k < B.2 0)) && (B.1 2 j).testBit k) = true ∨ (decide (j < B.2 0) && decide (B.1 1 j = 0)) = true) ∧ u = setB S 0 B) ∨ (∃ (j : Nat) (k : Nat), x = nI j ∧ j < B.2 0 ∧ y = nI k ∧ k < B.2 0 ∧ j ≠ k ∧ ((decide (j < B.2 0) && decide (k < B.2 0)) && (B.1 2 j).testBit k) = false ∧ (decide (j < B.2 0) && decide (B.1 1 j = 0)) = false ∧ E = "java/lang/UnsupportedOperationException" ∧ ((((((decide (j < B.2 0) && decide (k < B.2 0)) && decide (j ≠ k)) && !(B.1 2 j).testBit k) && decide (B.1 1 j ≠ 0)) && !fnd B k j)) = false ∧ u = setB S 0 B)) 6 36 := by
  refine kX_of (by decide +kernel) (Nat.le_of_ble_eq_true rfl) ?_
  intro pg e s m args below meth c G hret hlocks htab hC hB h ls hl Q hQ
  have hl : lv_has ls 3 [(0, .ref (eX V 96)), (1, .int (x)), (2, .int (y))] := hl
  have hx := G.1
  have hcd := G.2.1
  have hI0 := hI
  obtain ⟨hz, hbn, hn, hm, h3, h54, h4, h7, hr, he, ha, hact, h5⟩ := hI
  refine lv_aload_n hx hcd dX3_block_0 rfl (lv_at hl 0 rfl) ?_
  refine lv_iload_n hx hcd dX3_block_1 rfl (lv_at hl 1 rfl) ?_
  refine kx_Vv (As := [.int (x)]) (rest := []) (b := eX V 96) G hC hB h (met_X3_requireStory l hst V S B hI0 x) mw_846 kv_X3_requireStory ⟨rfl, rfl⟩ ⟨Nat.le_of_ble_eq_true rfl, Nat.le_of_ble_eq_true rfl⟩ (r_sV hC h) rfl rfl hl.1 (Nat.le_of_ble_eq_true rfl) dX3_block_2 ⟨Nat.le_of_ble_eq_true rfl, Nat.le_of_ble_eq_true rfl⟩ (fun E ce q9 u t H1 locs1 ht9 hpx hb9 hS9 e1 e2 e3 => by subst hQ; exact kx_pass htab hlocks ht9 (Or.inl (hpx)) hb9 hS9 e1 e2 e3 (Nat.le_of_ble_eq_true rfl) (Nat.le_of_ble_eq_true rfl)) (fun u H locs hp h => ?_)
  obtain ⟨hs1, hu⟩ := hp; rw [hu] at h
  obtain ⟨j, hj, rfl⟩ := inR_ex (by omega) hs1
  refine lv_aload_n hx hcd dX3_block_5 rfl (lv_at hl 0 rfl) ?_
  refine lv_iload_n hx hcd dX3_block_6 rfl (lv_at hl 2 rfl) ?_
  refine kx_Vv (As := [.int (y)]) (rest := []) (b := eX V 96) G hC hB h (met_X3_requireStory l hst V S B hI0 y) mw_846 kv_X3_requireStory ⟨rfl, rfl⟩ ⟨Nat.le_of_ble_eq_true rfl, Nat.le_of_ble_eq_true rfl⟩ (r_sV hC h) rfl rfl hl.1 (Nat.le_of_ble_eq_true rfl) dX3_block_7 ⟨Nat.le_of_ble_eq_true rfl, Nat.le_of_ble_eq_true rfl⟩ (fun E ce q9 u t H1 locs1 ht9 hpx hb9 hS9 e1 e2 e3 => by subst hQ; exact kx_pass htab hlocks ht9 (Or.inr (Or.inl (⟨j, rfl, hj, hpx⟩))) hb9 hS9 e1 e2 e3 (Nat.le_of_ble_eq_true rfl) (Nat.le_of_ble_eq_true rfl)) (fun u H locs hp h => ?_)
  obtain ⟨hs2, hu⟩ := hp; rw [hu] at h
  obtain ⟨k, hk, rfl⟩ := inR_ex (by omega) hs2
  refine lv_iload_n hx hcd dX3_block_10 rfl (lv_at hl 1 rfl) ?_
  refine lv_iload_n hx hcd dX3_block_11 rfl (lv_at hl 2 rfl) ?_
  refine lv_icmp_eq (tgt := 19) hx hcd dX3_block_12 (by decide) (fun c_1 => ?_) (fun c_1 => ?_)
  · have c_1 := cEq (tN (n := j) (by omega)) (tN (n := k) (by omega)) c_1
    refine lv_iconst (v := nI 0) hx hcd dX3_block_19 (by decide) ?_
    refine kx_Sv (As := [.int (nI 0)]) (rest := []) G hC hB h (met_X3_requireArgument l hst V (setB S 0 B) false) mw_793 ks_X3_requireArgument ⟨rfl, rfl⟩ ⟨Nat.le_of_ble_eq_true rfl, Nat.le_of_ble_eq_true rfl⟩ rfl rfl hl.1 (Nat.le_of_ble_eq_true rfl) dX3_block_20 ⟨Nat.le_of_ble_eq_true rfl, Nat.le_of_ble_eq_true rfl⟩ (fun E ce q9 u t H1 locs1 ht9 hpx hb9 hS9 e1 e2 e3 => by subst hQ; exact kx_pass htab hlocks ht9 (Or.inr (Or.inr (Or.inl (⟨j, k, rfl, hj, rfl, hk, ⟨hpx.1, by omega, hpx.2.2⟩⟩)))) hb9 hS9 e1 e2 e3 (Nat.le_of_ble_eq_true rfl) (Nat.le_of_ble_eq_true rfl)) (fun u H locs hp h => ?_)
    obtain ⟨hlit, hu⟩ := hp; rw [hu] at h
    exact absurd hlit (by decide)
  · have c_1 := cNe (tN (n := j) (by omega)) (tN (n := k) (by omega)) c_1
    refine lv_iconst (v := nI 1) hx hcd dX3_block_15 (by decide) ?_
    refine lv_goto (tgt := 20) hx hcd dX3_block_16 (by decide) ?_
    refine kx_Sv (As := [.int (nI 1)]) (rest := []) G hC hB h (met_X3_requireArgument l hst V (setB S 0 B) true) mw_793 ks_X3_requireArgument ⟨rfl, rfl⟩ ⟨Nat.le_of_ble_eq_true rfl, Nat.le_of_ble_eq_true rfl⟩ rfl rfl hl.1 (Nat.le_of_ble_eq_true rfl) dX3_block_20 ⟨Nat.le_of_ble_eq_true rfl, Nat.le_of_ble_eq_true rfl⟩ (fun E ce q9 u t H1 locs1 ht9 hpx hb9 hS9 e1 e2 e3 => by subst hQ; exact kx_pass htab hlocks ht9 (absurd hpx.2.1 (by decide)) hb9 hS9 e1 e2 e3 (Nat.le_of_ble_eq_true rfl) (Nat.le_of_ble_eq_true rfl)) (fun u H locs hp h => ?_)
    obtain ⟨hlit, hu⟩ := hp; rw [hu] at h
    refine lv_aload_n hx hcd dX3_block_23 rfl (lv_at hl 0 rfl) ?_
    refine va_get (D := eD V) (ci := 7) (v := .ref (eX V (8 * 0))) (C := RX3) (T := TX3) (N := 11) hx hcd G.2.2.2.2 iwX3 G.2.2.2.1 hC.1 h.1 (96 + 0) (cF_at V _ (i := 0) (by decide)) rfl 0 (by decide) (G.2.2.2.2 _ mw_242) (fun y h9 => h9) rfl dX3_block_24 ?_
    refine lv_iload_n hx hcd dX3_block_27 rfl (lv_at hl 1 rfl) ?_
    refine lv_iload_n hx hcd dX3_block_28 rfl (lv_at hl 2 rfl) ?_
    refine k_Vi (As := [.int (nI (j)), .int (nI (k))]) (rest := []) (b := eX V (8 * 0)) G hC hB h (met_X0_hasBlocker l V S 0 B (by omega) hz hn j (by omega) k (by omega)) mw_770 kv_X0_hasBlocker ⟨rfl, rfl⟩ ⟨Nat.le_of_ble_eq_true rfl, Nat.le_of_ble_eq_true rfl⟩ (r_bV hC h 0 (by omega)) rfl rfl hl.1 (Nat.le_of_ble_eq_true rfl) dX3_block_29 ⟨Nat.le_of_ble_eq_true rfl, Nat.le_of_ble_eq_true rfl⟩ (fun r u H locs hp h => ?_)
    obtain ⟨rfl, rfl⟩ := hp
    refine lv_if_ne (tgt := 50) hx hcd dX3_block_32 (by decide) (fun c_2 => ?_) (fun c_2 => ?_)
    · have c_2 := bz1 c_2
      have f_3 := of_decide_eq_true (band_l (band_l c_2))
      have f_4 := of_decide_eq_true (band_r (band_l c_2))
      have f_5 := (band_r c_2)
      refine lv_iconst (v := nI 0) hx hcd dX3_block_50 (by decide) ?_
      refine kx_Sv (As := [.int (nI 0)]) (rest := []) G hC hB h (met_X3_requireState l hst V (setB S 0 B) false) mw_804 ks_X3_requireState ⟨rfl, rfl⟩ ⟨Nat.le_of_ble_eq_true rfl, Nat.le_of_ble_eq_true rfl⟩ rfl rfl hl.1 (Nat.le_of_ble_eq_true rfl) dX3_block_51 ⟨Nat.le_of_ble_eq_true rfl, Nat.le_of_ble_eq_true rfl⟩ (fun E ce q9 u t H1 locs1 ht9 hpx hb9 hS9 e1 e2 e3 => by subst hQ; exact kx_pass htab hlocks ht9 (Or.inr (Or.inr (Or.inr (Or.inl (⟨j, k, rfl, hj, rfl, hk, by omega, ⟨hpx.1, by first | exact Or.inl (by assumption) | exact Or.inr (by assumption), hpx.2.2⟩⟩))))) hb9 hS9 e1 e2 e3 (Nat.le_of_ble_eq_true rfl) (Nat.le_of_ble_eq_true rfl)) (fun u H locs hp h => ?_)
      obtain ⟨hlit, hu⟩ := hp; rw [hu] at h
      exact absurd hlit (by decide)
    · have c_2 := bz0 c_2
      have f_6 : ¬ (((j < B.2 0) ∧ (k < B.2 0)) ∧ ((B.1 2 j).testBit k = true)) := fun z => Bool.noConfusion (c_2.symm.trans (band_t (band_t (decide_eq_true z.1.1) (decide_eq_true z.1.2)) z.2))
      refine lv_aload_n hx hcd dX3_block_35 rfl (lv_at hl 0 rfl) ?_
      refine va_get (D := eD V) (ci := 7) (v := .ref (eX V (8 * 0))) (C := RX3) (T := TX3) (N := 11) hx hcd G.2.2.2.2 iwX3 G.2.2.2.1 hC.1 h.1 (96 + 0) (cF_at V _ (i := 0) (by decide)) rfl 0 (by decide) (G.2.2.2.2 _ mw_242) (fun y h9 => h9) rfl dX3_block_36 ?_
      refine lv_iload_n hx hcd dX3_block_39 rfl (lv_at hl 1 rfl) ?_
      refine k_Vi (As := [.int (nI (j))]) (rest := []) (b := eX V (8 * 0)) G hC hB h (met_X0_isFinished l V S 0 B (by omega) hz hn j (by omega)) mw_741 kv_X0_isFinished ⟨rfl, rfl⟩ ⟨Nat.le_of_ble_eq_true rfl, Nat.le_of_ble_eq_true rfl⟩ (r_bV hC h 0 (by omega)) rfl rfl hl.1 (Nat.le_of_ble_eq_true rfl) dX3_block_40 ⟨Nat.le_of_ble_eq_true rfl, Nat.le_of_ble_eq_true rfl⟩ (fun r u H locs hp h => ?_)
      obtain ⟨rfl, rfl⟩ := hp
      refine lv_if_ne (tgt := 50) hx hcd dX3_block_43 (by decide) (fun c_7 => ?_) (fun c_7 => ?_)
      · have c_7 := bz1 c_7
        have f_8 := of_decide_eq_true (band_l c_7)
        have f_9 := of_decide_eq_true (band_r c_7)
        refine lv_iconst (v := nI 0) hx hcd dX3_block_50 (by decide) ?_
        refine kx_Sv (As := [.int (nI 0)]) (rest := []) G hC hB h (met_X3_requireState l hst V (setB S 0 B) false) mw_804 ks_X3_requireState ⟨rfl, rfl⟩ ⟨Nat.le_of_ble_eq_true rfl, Nat.le_of_ble_eq_true rfl⟩ rfl rfl hl.1 (Nat.le_of_ble_eq_true rfl) dX3_block_51 ⟨Nat.le_of_ble_eq_true rfl, Nat.le_of_ble_eq_true rfl⟩ (fun E ce q9 u t H1 locs1 ht9 hpx hb9 hS9 e1 e2 e3 => by subst hQ; exact kx_pass htab hlocks ht9 (Or.inr (Or.inr (Or.inr (Or.inl (⟨j, k, rfl, hj, rfl, hk, by omega, ⟨hpx.1, by first | exact Or.inl (by assumption) | exact Or.inr (by assumption), hpx.2.2⟩⟩))))) hb9 hS9 e1 e2 e3 (Nat.le_of_ble_eq_true rfl) (Nat.le_of_ble_eq_true rfl)) (fun u H locs hp h => ?_)
        obtain ⟨hlit, hu⟩ := hp; rw [hu] at h
        exact absurd hlit (by decide)
      · have c_7 := bz0 c_7
        have f_10 : ¬ ((j < B.2 0) ∧ (B.1 1 j = 0)) := fun z => Bool.noConfusion (c_7.symm.trans (band_t (decide_eq_true z.1) (decide_eq_true z.2)))
        refine lv_iconst (v := nI 1) hx hcd dX3_block_46 (by decide) ?_
        refine lv_goto (tgt := 51) hx hcd dX3_block_47 (by decide) ?_
        refine kx_Sv (As := [.int (nI 1)]) (rest := []) G hC hB h (met_X3_requireState l hst V (setB S 0 B) true) mw_804 ks_X3_requireState ⟨rfl, rfl⟩ ⟨Nat.le_of_ble_eq_true rfl, Nat.le_of_ble_eq_true rfl⟩ rfl rfl hl.1 (Nat.le_of_ble_eq_true rfl) dX3_block_51 ⟨Nat.le_of_ble_eq_true rfl, Nat.le_of_ble_eq_true rfl⟩ (fun E ce q9 u t H1 locs1 ht9 hpx hb9 hS9 e1 e2 e3 => by subst hQ; exact kx_pass htab hlocks ht9 (absurd hpx.2.1 (by decide)) hb9 hS9 e1 e2 e3 (Nat.le_of_ble_eq_true rfl) (Nat.le_of_ble_eq_true rfl)) (fun u H locs hp h => ?_)
        obtain ⟨hlit, hu⟩ := hp; rw [hu] at h
        refine lv_aload_n hx hcd dX3_block_54 rfl (lv_at hl 0 rfl) ?_
        refine va_get (D := eD V) (ci := 7) (v := .ref (eX V (8 * 0))) (C := RX3) (T := TX3) (N := 11) hx hcd G.2.2.2.2 iwX3 G.2.2.2.1 hC.1 h.1 (96 + 0) (cF_at V _ (i := 0) (by decide)) rfl 0 (by decide) (G.2.2.2.2 _ mw_242) (fun y h9 => h9) rfl dX3_block_55 ?_
        refine lv_iload_n hx hcd dX3_block_58 rfl (lv_at hl 1 rfl) ?_
        refine lv_iload_n hx hcd dX3_block_59 rfl (lv_at hl 2 rfl) ?_
        refine k_Vi (As := [.int (nI (j)), .int (nI (k))]) (rest := []) (b := eX V (8 * 0)) G hC hB h (met_X0_canBlock l V S 0 B (by omega) hz hn j (by omega) k (by omega)) mw_884 kv_X0_canBlock ⟨rfl, rfl⟩ ⟨Nat.le_of_ble_eq_true rfl, Nat.le_of_ble_eq_true rfl⟩ (r_bV hC h 0 (by omega)) rfl rfl hl.1 (Nat.le_of_ble_eq_true rfl) dX3_block_60 ⟨Nat.le_of_ble_eq_true rfl, Nat.le_of_ble_eq_true rfl⟩ (fun r u H locs hp h => ?_)
        obtain ⟨rfl, rfl⟩ := hp
        refine kx_Sv (As := [.int (bz ((((((decide (j < B.2 0) && decide (k < B.2 0)) && decide (j ≠ k)) && !(B.1 2 j).testBit k) && decide (B.1 1 j ≠ 0)) && !fnd B k j)))]) (rest := []) G hC hB h (met_X3_requireSupport l hst V (setB S 0 B) (((((decide (j < B.2 0) && decide (k < B.2 0)) && decide (j ≠ k)) && !(B.1 2 j).testBit k) && decide (B.1 1 j ≠ 0)) && !fnd B k j)) mw_890 ks_X3_requireSupport ⟨rfl, rfl⟩ ⟨Nat.le_of_ble_eq_true rfl, Nat.le_of_ble_eq_true rfl⟩ rfl rfl hl.1 (Nat.le_of_ble_eq_true rfl) dX3_block_63 ⟨Nat.le_of_ble_eq_true rfl, Nat.le_of_ble_eq_true rfl⟩ (fun E ce q9 u t H1 locs1 ht9 hpx hb9 hS9 e1 e2 e3 => by subst hQ; exact kx_pass htab hlocks ht9 (Or.inr (Or.inr (Or.inr (Or.inr (⟨j, k, rfl, hj, rfl, hk, by omega, by assumption, by assumption, hpx⟩))))) hb9 hS9 e1 e2 e3 (Nat.le_of_ble_eq_true rfl) (Nat.le_of_ble_eq_true rfl)) (fun u H locs hp h => ?_)
        obtain ⟨hs9, hu⟩ := hp; rw [hu] at h
        refine lv_aload_n hx hcd dX3_block_66 rfl (lv_at hl 0 rfl) ?_
        refine va_get (D := eD V) (ci := 7) (v := .ref (eX V 97)) (C := RX3) (T := TX3) (N := 11) hx hcd G.2.2.2.2 iwX3 G.2.2.2.1 hC.1 h.1 (96 + 0) (cF_at V _ (i := 0) (by decide)) rfl 4 (by decide) (G.2.2.2.2 _ mw_246) (fun y h9 => h9) rfl dX3_block_67 ?_
        refine lv_aload_n hx hcd dX3_block_70 rfl (lv_at hl 0 rfl) ?_
        refine va_get (D := eD V) (ci := 7) (v := .ref (eX V (8 * 0))) (C := RX3) (T := TX3) (N := 11) hx hcd G.2.2.2.2 iwX3 G.2.2.2.1 hC.1 h.1 (96 + 0) (cF_at V _ (i := 0) (by decide)) rfl 0 (by decide) (G.2.2.2.2 _ mw_242) (fun y h9 => h9) rfl dX3_block_71 ?_
        refine k_Vv (As := [.ref (eX V (8 * 0))]) (rest := []) (b := eX V 97) G hC hB h (met_X2_keep l V (setB S 0 B) 0 (by omega) nx sz hnx hsz hx5 hs5 hz h3 hbn (by rw [setB_ne _ _ (by omega)]; exact hnb)) mw_823 kv_X2_keep ⟨rfl, rfl⟩ ⟨Nat.le_of_ble_eq_true rfl, Nat.le_of_ble_eq_true rfl⟩ (r_hV hC h) rfl rfl hl.1 (Nat.le_of_ble_eq_true rfl) dX3_block_74 ⟨Nat.le_of_ble_eq_true rfl, Nat.le_of_ble_eq_true rfl⟩ (fun u H locs hp h => ?_)
        rw [hp, histS_0] at h
        refine lv_aload_n hx hcd dX3_block_77 rfl (lv_at hl 0 rfl) ?_
        refine va_get (D := eD V) (ci := 7) (v := .ref (eX V (8 * 0))) (C := RX3) (T := TX3) (N := 11) hx hcd G.2.2.2.2 iwX3 G.2.2.2.1 hC.1 h.1 (96 + 0) (cF_at V _ (i := 0) (by decide)) rfl 0 (by decide) (G.2.2.2.2 _ mw_242) (fun y h9 => h9) rfl dX3_block_78 ?_
        refine lv_iload_n hx hcd dX3_block_81 rfl (lv_at hl 1 rfl) ?_
        refine lv_iload_n hx hcd dX3_block_82 rfl (lv_at hl 2 rfl) ?_
        refine k_Vi (As := [.int (nI (j)), .int (nI (k))]) (rest := []) (b := eX V (8 * 0)) G hC hB h (met_X0_putBlocker l V (hkS S B nx sz) 0 B (by omega) hz hn j (by omega) k (by omega)) mw_909 kv_X0_putBlocker ⟨rfl, rfl⟩ ⟨Nat.le_of_ble_eq_true rfl, Nat.le_of_ble_eq_true rfl⟩ (r_bV hC h 0 (by omega)) rfl rfl hl.1 (Nat.le_of_ble_eq_true rfl) dX3_block_83 ⟨Nat.le_of_ble_eq_true rfl, Nat.le_of_ble_eq_true rfl⟩ (fun r u H locs hp h => ?_)
        obtain ⟨rfl, rfl⟩ := hp
        exact kx_reti hQ G hret hlocks h (⟨j, k, rfl, hj, rfl, hk, by omega, by assumption, by assumption, hs9, rfl, rfl⟩) (Nat.le_of_ble_eq_true rfl) (Nat.le_of_ble_eq_true rfl) dX3_block_86
set_option maxHeartbeats 4000000 in
set_option maxRecDepth 100000 in
/-- unblock -/
theorem met_X3_unblock (l : Launch) (hst : l.stackTraces = false) (V : kEnv) (S : kCs) (B : kBd) (hI : bI B) (nx sz : Nat) (hnx : S.2.1 3 = nI nx) (hsz : S.2.1 4 = nI sz) (hx5 : nx < 60000) (hs5 : sz ≤ 8) (hnb : bN (S.1 (4 + nx % 8))) (x : Int32) (y : Int32) : kX l yX3_unblock cX3_unblock 3 (some .int) { frames := 8, cells := 6, slots := 36, locals := 131 } V (cWs V) [.ref (eX V 96), .int (x), .int (y)] (setB S 0 B) (fun r u => ∃ (j : Nat) (k : Nat), x = nI j ∧ j < B.2 0 ∧ y = nI k ∧ k < B.2 0 ∧ (((decide (j < B.2 0) && decide (k < B.2 0)) && (B.1 2 j).testBit k)) = true ∧ r = nI (pcn ((ublB B j k).1 2 j)) ∧ u = setB (hkS S B nx sz) 0 (ublB B j k)) (fun E u => (E = "java/lang/IndexOutOfBoundsException" ∧ inR (B.2 0) x = false ∧ u = setB S 0 B) ∨ (∃ (j : Nat), x = nI j ∧ j < B.2 0 ∧ E = "java/lang/IndexOutOfBoundsException" ∧ inR (B.2 0) y = false ∧ u = setB S 0 B) ∨ (∃ (j : Nat) (k : Nat), x = nI j ∧ j < B.2 0 ∧ y = nI k ∧ k < B.2 0 ∧ E = "java/lang/IllegalStateException" ∧ (((decide (j < B.2 0) && decide (k < B.2 0)) && (B.1 2 j).testBit k)) = false ∧ u = setB S 0 B)) 6 36 := by
  refine kX_of (by decide +kernel) (Nat.le_of_ble_eq_true rfl) ?_
  intro pg e s m args below meth c G hret hlocks htab hC hB h ls hl Q hQ
  have hl : lv_has ls 3 [(0, .ref (eX V 96)), (1, .int (x)), (2, .int (y))] := hl
  have hx := G.1
  have hcd := G.2.1
  have hI0 := hI
  obtain ⟨hz, hbn, hn, hm, h3, h54, h4, h7, hr, he, ha, hact, h5⟩ := hI
  refine lv_aload_n hx hcd dX3_unblock_0 rfl (lv_at hl 0 rfl) ?_
  refine lv_iload_n hx hcd dX3_unblock_1 rfl (lv_at hl 1 rfl) ?_
  refine kx_Vv (As := [.int (x)]) (rest := []) (b := eX V 96) G hC hB h (met_X3_requireStory l hst V S B hI0 x) mw_846 kv_X3_requireStory ⟨rfl, rfl⟩ ⟨Nat.le_of_ble_eq_true rfl, Nat.le_of_ble_eq_true rfl⟩ (r_sV hC h) rfl rfl hl.1 (Nat.le_of_ble_eq_true rfl) dX3_unblock_2 ⟨Nat.le_of_ble_eq_true rfl, Nat.le_of_ble_eq_true rfl⟩ (fun E ce q9 u t H1 locs1 ht9 hpx hb9 hS9 e1 e2 e3 => by subst hQ; exact kx_pass htab hlocks ht9 (Or.inl (hpx)) hb9 hS9 e1 e2 e3 (Nat.le_of_ble_eq_true rfl) (Nat.le_of_ble_eq_true rfl)) (fun u H locs hp h => ?_)
  obtain ⟨hs1, hu⟩ := hp; rw [hu] at h
  obtain ⟨j, hj, rfl⟩ := inR_ex (by omega) hs1
  refine lv_aload_n hx hcd dX3_unblock_5 rfl (lv_at hl 0 rfl) ?_
  refine lv_iload_n hx hcd dX3_unblock_6 rfl (lv_at hl 2 rfl) ?_
  refine kx_Vv (As := [.int (y)]) (rest := []) (b := eX V 96) G hC hB h (met_X3_requireStory l hst V S B hI0 y) mw_846 kv_X3_requireStory ⟨rfl, rfl⟩ ⟨Nat.le_of_ble_eq_true rfl, Nat.le_of_ble_eq_true rfl⟩ (r_sV hC h) rfl rfl hl.1 (Nat.le_of_ble_eq_true rfl) dX3_unblock_7 ⟨Nat.le_of_ble_eq_true rfl, Nat.le_of_ble_eq_true rfl⟩ (fun E ce q9 u t H1 locs1 ht9 hpx hb9 hS9 e1 e2 e3 => by subst hQ; exact kx_pass htab hlocks ht9 (Or.inr (Or.inl (⟨j, rfl, hj, hpx⟩))) hb9 hS9 e1 e2 e3 (Nat.le_of_ble_eq_true rfl) (Nat.le_of_ble_eq_true rfl)) (fun u H locs hp h => ?_)
  obtain ⟨hs2, hu⟩ := hp; rw [hu] at h
  obtain ⟨k, hk, rfl⟩ := inR_ex (by omega) hs2
  refine lv_aload_n hx hcd dX3_unblock_10 rfl (lv_at hl 0 rfl) ?_
  refine va_get (D := eD V) (ci := 7) (v := .ref (eX V (8 * 0))) (C := RX3) (T := TX3) (N := 11) hx hcd G.2.2.2.2 iwX3 G.2.2.2.1 hC.1 h.1 (96 + 0) (cF_at V _ (i := 0) (by decide)) rfl 0 (by decide) (G.2.2.2.2 _ mw_242) (fun y h9 => h9) rfl dX3_unblock_11 ?_
  refine lv_iload_n hx hcd dX3_unblock_14 rfl (lv_at hl 1 rfl) ?_
  refine lv_iload_n hx hcd dX3_unblock_15 rfl (lv_at hl 2 rfl) ?_
  refine k_Vi (As := [.int (nI (j)), .int (nI (k))]) (rest := []) (b := eX V (8 * 0)) G hC hB h (met_X0_canUnblock l V S 0 B (by omega) hz hn j (by omega) k (by omega)) mw_926 kv_X0_canUnblock ⟨rfl, rfl⟩ ⟨Nat.le_of_ble_eq_true rfl, Nat.le_of_ble_eq_true rfl⟩ (r_bV hC h 0 (by omega)) rfl rfl hl.1 (Nat.le_of_ble_eq_true rfl) dX3_unblock_16 ⟨Nat.le_of_ble_eq_true rfl, Nat.le_of_ble_eq_true rfl⟩ (fun r u H locs hp h => ?_)
  obtain ⟨rfl, rfl⟩ := hp
  refine kx_Sv (As := [.int (bz (((decide (j < B.2 0) && decide (k < B.2 0)) && (B.1 2 j).testBit k)))]) (rest := []) G hC hB h (met_X3_requireState l hst V (setB S 0 B) ((decide (j < B.2 0) && decide (k < B.2 0)) && (B.1 2 j).testBit k)) mw_804 ks_X3_requireState ⟨rfl, rfl⟩ ⟨Nat.le_of_ble_eq_true rfl, Nat.le_of_ble_eq_true rfl⟩ rfl rfl hl.1 (Nat.le_of_ble_eq_true rfl) dX3_unblock_19 ⟨Nat.le_of_ble_eq_true rfl, Nat.le_of_ble_eq_true rfl⟩ (fun E ce q9 u t H1 locs1 ht9 hpx hb9 hS9 e1 e2 e3 => by subst hQ; exact kx_pass htab hlocks ht9 (Or.inr (Or.inr (⟨j, k, rfl, hj, rfl, hk, hpx⟩))) hb9 hS9 e1 e2 e3 (Nat.le_of_ble_eq_true rfl) (Nat.le_of_ble_eq_true rfl)) (fun u H locs hp h => ?_)
  obtain ⟨hs3, hu⟩ := hp; rw [hu] at h
  refine lv_aload_n hx hcd dX3_unblock_22 rfl (lv_at hl 0 rfl) ?_
  refine va_get (D := eD V) (ci := 7) (v := .ref (eX V 97)) (C := RX3) (T := TX3) (N := 11) hx hcd G.2.2.2.2 iwX3 G.2.2.2.1 hC.1 h.1 (96 + 0) (cF_at V _ (i := 0) (by decide)) rfl 4 (by decide) (G.2.2.2.2 _ mw_246) (fun y h9 => h9) rfl dX3_unblock_23 ?_
  refine lv_aload_n hx hcd dX3_unblock_26 rfl (lv_at hl 0 rfl) ?_
  refine va_get (D := eD V) (ci := 7) (v := .ref (eX V (8 * 0))) (C := RX3) (T := TX3) (N := 11) hx hcd G.2.2.2.2 iwX3 G.2.2.2.1 hC.1 h.1 (96 + 0) (cF_at V _ (i := 0) (by decide)) rfl 0 (by decide) (G.2.2.2.2 _ mw_242) (fun y h9 => h9) rfl dX3_unblock_27 ?_
  refine k_Vv (As := [.ref (eX V (8 * 0))]) (rest := []) (b := eX V 97) G hC hB h (met_X2_keep l V (setB S 0 B) 0 (by omega) nx sz hnx hsz hx5 hs5 hz h3 hbn (by rw [setB_ne _ _ (by omega)]; exact hnb)) mw_823 kv_X2_keep ⟨rfl, rfl⟩ ⟨Nat.le_of_ble_eq_true rfl, Nat.le_of_ble_eq_true rfl⟩ (r_hV hC h) rfl rfl hl.1 (Nat.le_of_ble_eq_true rfl) dX3_unblock_30 ⟨Nat.le_of_ble_eq_true rfl, Nat.le_of_ble_eq_true rfl⟩ (fun u H locs hp h => ?_)
  rw [hp, histS_0] at h
  refine lv_aload_n hx hcd dX3_unblock_33 rfl (lv_at hl 0 rfl) ?_
  refine va_get (D := eD V) (ci := 7) (v := .ref (eX V (8 * 0))) (C := RX3) (T := TX3) (N := 11) hx hcd G.2.2.2.2 iwX3 G.2.2.2.1 hC.1 h.1 (96 + 0) (cF_at V _ (i := 0) (by decide)) rfl 0 (by decide) (G.2.2.2.2 _ mw_242) (fun y h9 => h9) rfl dX3_unblock_34 ?_
  refine lv_iload_n hx hcd dX3_unblock_37 rfl (lv_at hl 1 rfl) ?_
  refine lv_iload_n hx hcd dX3_unblock_38 rfl (lv_at hl 2 rfl) ?_
  refine k_Vi (As := [.int (nI (j)), .int (nI (k))]) (rest := []) (b := eX V (8 * 0)) G hC hB h (met_X0_removeBlocker l V (hkS S B nx sz) 0 B (by omega) hz hn j (by omega) k (by omega)) mw_930 kv_X0_removeBlocker ⟨rfl, rfl⟩ ⟨Nat.le_of_ble_eq_true rfl, Nat.le_of_ble_eq_true rfl⟩ (r_bV hC h 0 (by omega)) rfl rfl hl.1 (Nat.le_of_ble_eq_true rfl) dX3_unblock_39 ⟨Nat.le_of_ble_eq_true rfl, Nat.le_of_ble_eq_true rfl⟩ (fun r u H locs hp h => ?_)
  obtain ⟨rfl, rfl⟩ := hp
  exact kx_reti hQ G hret hlocks h (⟨j, k, rfl, hj, rfl, hk, hs3, rfl, rfl⟩) (Nat.le_of_ble_eq_true rfl) (Nat.le_of_ble_eq_true rfl) dX3_unblock_42
set_option maxHeartbeats 4000000 in
set_option maxRecDepth 100000 in
/-- estimateOf -/
theorem met_X3_estimateOf (l : Launch) (hst : l.stackTraces = false) (V : kEnv) (S : kCs) (B : kBd) (hI : bI B) (x : Int32) : kX l yX3_estimateOf cX3_estimateOf 2 (some .int) { frames := 8, cells := 6, slots := 36, locals := 131 } V (cWs V) [.ref (eX V 96), .int (x)] (setB S 0 B) (fun r u => ∃ (j : Nat), x = nI j ∧ j < B.2 0 ∧ r = nI (B.1 0 j) ∧ u = setB S 0 B) (fun E u => (E = "java/lang/IndexOutOfBoundsException" ∧ inR (B.2 0) x = false ∧ u = setB S 0 B)) 6 36 := by
  refine kX_of (by decide +kernel) (Nat.le_of_ble_eq_true rfl) ?_
  intro pg e s m args below meth c G hret hlocks htab hC hB h ls hl Q hQ
  have hl : lv_has ls 2 [(0, .ref (eX V 96)), (1, .int (x))] := hl
  have hx := G.1
  have hcd := G.2.1
  have hI0 := hI
  obtain ⟨hz, hbn, hn, hm, h3, h54, h4, h7, hr, he, ha, hact, h5⟩ := hI
  refine lv_aload_n hx hcd dX3_estimateOf_0 rfl (lv_at hl 0 rfl) ?_
  refine lv_iload_n hx hcd dX3_estimateOf_1 rfl (lv_at hl 1 rfl) ?_
  refine kx_Vv (As := [.int (x)]) (rest := []) (b := eX V 96) G hC hB h (met_X3_requireStory l hst V S B hI0 x) mw_846 kv_X3_requireStory ⟨rfl, rfl⟩ ⟨Nat.le_of_ble_eq_true rfl, Nat.le_of_ble_eq_true rfl⟩ (r_sV hC h) rfl rfl hl.1 (Nat.le_of_ble_eq_true rfl) dX3_estimateOf_2 ⟨Nat.le_of_ble_eq_true rfl, Nat.le_of_ble_eq_true rfl⟩ (fun E ce q9 u t H1 locs1 ht9 hpx hb9 hS9 e1 e2 e3 => by subst hQ; exact kx_pass htab hlocks ht9 (hpx) hb9 hS9 e1 e2 e3 (Nat.le_of_ble_eq_true rfl) (Nat.le_of_ble_eq_true rfl)) (fun u H locs hp h => ?_)
  obtain ⟨hs1, hu⟩ := hp; rw [hu] at h
  obtain ⟨j, hj, rfl⟩ := inR_ex (by omega) hs1
  refine lv_aload_n hx hcd dX3_estimateOf_5 rfl (lv_at hl 0 rfl) ?_
  refine va_get (D := eD V) (ci := 7) (v := .ref (eX V (8 * 0))) (C := RX3) (T := TX3) (N := 11) hx hcd G.2.2.2.2 iwX3 G.2.2.2.1 hC.1 h.1 (96 + 0) (cF_at V _ (i := 0) (by decide)) rfl 0 (by decide) (G.2.2.2.2 _ mw_242) (fun y h9 => h9) rfl dX3_estimateOf_6 ?_
  refine r_bA G hC h 0 0 (by omega) (by decide) mw_99 dX3_estimateOf_9 ?_
  refine lv_iload_n hx hcd dX3_estimateOf_12 rfl (lv_at hl 1 rfl) ?_
  refine r_bL G hC h 0 0 j (by omega) (by decide) (setB_at _ _ _) rfl (show j < 16 by omega) (x := nI (B.1 0 (j))) rfl dX3_estimateOf_13 ?_
  have q_1 := hz.1 0 (j)
  exact kx_reti hQ G hret hlocks h (⟨j, rfl, hj, rfl, rfl⟩) (Nat.le_of_ble_eq_true rfl) (Nat.le_of_ble_eq_true rfl) dX3_estimateOf_14
set_option maxHeartbeats 4000000 in
set_option maxRecDepth 100000 in
/-- leftOf -/
theorem met_X3_leftOf (l : Launch) (hst : l.stackTraces = false) (V : kEnv) (S : kCs) (B : kBd) (hI : bI B) (x : Int32) : kX l yX3_leftOf cX3_leftOf 2 (some .int) { frames := 8, cells := 6, slots := 36, locals := 131 } V (cWs V) [.ref (eX V 96), .int (x)] (setB S 0 B) (fun r u => ∃ (j : Nat), x = nI j ∧ j < B.2 0 ∧ r = nI (B.1 1 j) ∧ u = setB S 0 B) (fun E u => (E = "java/lang/IndexOutOfBoundsException" ∧ inR (B.2 0) x = false ∧ u = setB S 0 B)) 6 36 := by
  refine kX_of (by decide +kernel) (Nat.le_of_ble_eq_true rfl) ?_
  intro pg e s m args below meth c G hret hlocks htab hC hB h ls hl Q hQ
  have hl : lv_has ls 2 [(0, .ref (eX V 96)), (1, .int (x))] := hl
  have hx := G.1
  have hcd := G.2.1
  have hI0 := hI
  obtain ⟨hz, hbn, hn, hm, h3, h54, h4, h7, hr, he, ha, hact, h5⟩ := hI
  refine lv_aload_n hx hcd dX3_leftOf_0 rfl (lv_at hl 0 rfl) ?_
  refine lv_iload_n hx hcd dX3_leftOf_1 rfl (lv_at hl 1 rfl) ?_
  refine kx_Vv (As := [.int (x)]) (rest := []) (b := eX V 96) G hC hB h (met_X3_requireStory l hst V S B hI0 x) mw_846 kv_X3_requireStory ⟨rfl, rfl⟩ ⟨Nat.le_of_ble_eq_true rfl, Nat.le_of_ble_eq_true rfl⟩ (r_sV hC h) rfl rfl hl.1 (Nat.le_of_ble_eq_true rfl) dX3_leftOf_2 ⟨Nat.le_of_ble_eq_true rfl, Nat.le_of_ble_eq_true rfl⟩ (fun E ce q9 u t H1 locs1 ht9 hpx hb9 hS9 e1 e2 e3 => by subst hQ; exact kx_pass htab hlocks ht9 (hpx) hb9 hS9 e1 e2 e3 (Nat.le_of_ble_eq_true rfl) (Nat.le_of_ble_eq_true rfl)) (fun u H locs hp h => ?_)
  obtain ⟨hs1, hu⟩ := hp; rw [hu] at h
  obtain ⟨j, hj, rfl⟩ := inR_ex (by omega) hs1
  refine lv_aload_n hx hcd dX3_leftOf_5 rfl (lv_at hl 0 rfl) ?_
  refine va_get (D := eD V) (ci := 7) (v := .ref (eX V (8 * 0))) (C := RX3) (T := TX3) (N := 11) hx hcd G.2.2.2.2 iwX3 G.2.2.2.1 hC.1 h.1 (96 + 0) (cF_at V _ (i := 0) (by decide)) rfl 0 (by decide) (G.2.2.2.2 _ mw_242) (fun y h9 => h9) rfl dX3_leftOf_6 ?_
  refine r_bA G hC h 0 1 (by omega) (by decide) mw_101 dX3_leftOf_9 ?_
  refine lv_iload_n hx hcd dX3_leftOf_12 rfl (lv_at hl 1 rfl) ?_
  refine r_bL G hC h 0 1 j (by omega) (by decide) (setB_at _ _ _) rfl (show j < 16 by omega) (x := nI (B.1 1 (j))) rfl dX3_leftOf_13 ?_
  have q_1 := hz.1 1 (j)
  exact kx_reti hQ G hret hlocks h (⟨j, rfl, hj, rfl, rfl⟩) (Nat.le_of_ble_eq_true rfl) (Nat.le_of_ble_eq_true rfl) dX3_leftOf_14
set_option maxHeartbeats 4000000 in
set_option maxRecDepth 100000 in
/-- workedOn -/
theorem met_X3_workedOn (l : Launch) (hst : l.stackTraces = false) (V : kEnv) (S : kCs) (B : kBd) (hI : bI B) (x : Int32) : kX l yX3_workedOn cX3_workedOn 2 (some .int) { frames := 8, cells := 6, slots := 36, locals := 131 } V (cWs V) [.ref (eX V 96), .int (x)] (setB S 0 B) (fun r u => ∃ (j : Nat), x = nI j ∧ j < B.2 0 ∧ r = nI (B.1 0 j - B.1 1 j) ∧ u = setB S 0 B) (fun E u => (E = "java/lang/IndexOutOfBoundsException" ∧ inR (B.2 0) x = false ∧ u = setB S 0 B)) 6 36 := by
  refine kX_of (by decide +kernel) (Nat.le_of_ble_eq_true rfl) ?_
  intro pg e s m args below meth c G hret hlocks htab hC hB h ls hl Q hQ
  have hl : lv_has ls 2 [(0, .ref (eX V 96)), (1, .int (x))] := hl
  have hx := G.1
  have hcd := G.2.1
  have hI0 := hI
  obtain ⟨hz, hbn, hn, hm, h3, h54, h4, h7, hr, he, ha, hact, h5⟩ := hI
  refine lv_aload_n hx hcd dX3_workedOn_0 rfl (lv_at hl 0 rfl) ?_
  refine lv_iload_n hx hcd dX3_workedOn_1 rfl (lv_at hl 1 rfl) ?_
  refine kx_Vv (As := [.int (x)]) (rest := []) (b := eX V 96) G hC hB h (met_X3_requireStory l hst V S B hI0 x) mw_846 kv_X3_requireStory ⟨rfl, rfl⟩ ⟨Nat.le_of_ble_eq_true rfl, Nat.le_of_ble_eq_true rfl⟩ (r_sV hC h) rfl rfl hl.1 (Nat.le_of_ble_eq_true rfl) dX3_workedOn_2 ⟨Nat.le_of_ble_eq_true rfl, Nat.le_of_ble_eq_true rfl⟩ (fun E ce q9 u t H1 locs1 ht9 hpx hb9 hS9 e1 e2 e3 => by subst hQ; exact kx_pass htab hlocks ht9 (hpx) hb9 hS9 e1 e2 e3 (Nat.le_of_ble_eq_true rfl) (Nat.le_of_ble_eq_true rfl)) (fun u H locs hp h => ?_)
  obtain ⟨hs1, hu⟩ := hp; rw [hu] at h
  obtain ⟨j, hj, rfl⟩ := inR_ex (by omega) hs1
  have hrj := hr j
  refine lv_aload_n hx hcd dX3_workedOn_5 rfl (lv_at hl 0 rfl) ?_
  refine va_get (D := eD V) (ci := 7) (v := .ref (eX V (8 * 0))) (C := RX3) (T := TX3) (N := 11) hx hcd G.2.2.2.2 iwX3 G.2.2.2.1 hC.1 h.1 (96 + 0) (cF_at V _ (i := 0) (by decide)) rfl 0 (by decide) (G.2.2.2.2 _ mw_242) (fun y h9 => h9) rfl dX3_workedOn_6 ?_
  refine r_bA G hC h 0 0 (by omega) (by decide) mw_99 dX3_workedOn_9 ?_
  refine lv_iload_n hx hcd dX3_workedOn_12 rfl (lv_at hl 1 rfl) ?_
  refine r_bL G hC h 0 0 j (by omega) (by decide) (setB_at _ _ _) rfl (show j < 16 by omega) (x := nI (B.1 0 (j))) rfl dX3_workedOn_13 ?_
  have q_1 := hz.1 0 (j)
  refine lv_aload_n hx hcd dX3_workedOn_14 rfl (lv_at hl 0 rfl) ?_
  refine va_get (D := eD V) (ci := 7) (v := .ref (eX V (8 * 0))) (C := RX3) (T := TX3) (N := 11) hx hcd G.2.2.2.2 iwX3 G.2.2.2.1 hC.1 h.1 (96 + 0) (cF_at V _ (i := 0) (by decide)) rfl 0 (by decide) (G.2.2.2.2 _ mw_242) (fun y h9 => h9) rfl dX3_workedOn_15 ?_
  refine r_bA G hC h 0 1 (by omega) (by decide) mw_101 dX3_workedOn_18 ?_
  refine lv_iload_n hx hcd dX3_workedOn_21 rfl (lv_at hl 1 rfl) ?_
  refine r_bL G hC h 0 1 j (by omega) (by decide) (setB_at _ _ _) rfl (show j < 16 by omega) (x := nI (B.1 1 (j))) rfl dX3_workedOn_22 ?_
  have q_2 := hz.1 1 (j)
  refine w_isub (v := nI ((B.1 0 (j)) - (B.1 1 (j)))) hx hcd dX3_workedOn_23 (pk_sub (by omega)) ?_
  exact kx_reti hQ G hret hlocks h (⟨j, rfl, hj, rfl, rfl⟩) (Nat.le_of_ble_eq_true rfl) (Nat.le_of_ble_eq_true rfl) dX3_workedOn_24
set_option maxHeartbeats 4000000 in
set_option maxRecDepth 100000 in
/-- isDone -/
theorem met_X3_isDone (l : Launch) (hst : l.stackTraces = false) (V : kEnv) (S : kCs) (B : kBd) (hI : bI B) (x : Int32) : kX l yX3_isDone cX3_isDone 2 (some .boolean) { frames := 8, cells := 6, slots := 36, locals := 131 } V (cWs V) [.ref (eX V 96), .int (x)] (setB S 0 B) (fun r u => ∃ (j : Nat), x = nI j ∧ j < B.2 0 ∧ r = bz ((decide (j < B.2 0) && decide (B.1 1 j = 0))) ∧ u = setB S 0 B) (fun E u => (E = "java/lang/IndexOutOfBoundsException" ∧ inR (B.2 0) x = false ∧ u = setB S 0 B)) 6 36 := by
  refine kX_of (by decide +kernel) (Nat.le_of_ble_eq_true rfl) ?_
  intro pg e s m args below meth c G hret hlocks htab hC hB h ls hl Q hQ
  have hl : lv_has ls 2 [(0, .ref (eX V 96)), (1, .int (x))] := hl
  have hx := G.1
  have hcd := G.2.1
  have hI0 := hI
  obtain ⟨hz, hbn, hn, hm, h3, h54, h4, h7, hr, he, ha, hact, h5⟩ := hI
  refine lv_aload_n hx hcd dX3_isDone_0 rfl (lv_at hl 0 rfl) ?_
  refine lv_iload_n hx hcd dX3_isDone_1 rfl (lv_at hl 1 rfl) ?_
  refine kx_Vv (As := [.int (x)]) (rest := []) (b := eX V 96) G hC hB h (met_X3_requireStory l hst V S B hI0 x) mw_846 kv_X3_requireStory ⟨rfl, rfl⟩ ⟨Nat.le_of_ble_eq_true rfl, Nat.le_of_ble_eq_true rfl⟩ (r_sV hC h) rfl rfl hl.1 (Nat.le_of_ble_eq_true rfl) dX3_isDone_2 ⟨Nat.le_of_ble_eq_true rfl, Nat.le_of_ble_eq_true rfl⟩ (fun E ce q9 u t H1 locs1 ht9 hpx hb9 hS9 e1 e2 e3 => by subst hQ; exact kx_pass htab hlocks ht9 (hpx) hb9 hS9 e1 e2 e3 (Nat.le_of_ble_eq_true rfl) (Nat.le_of_ble_eq_true rfl)) (fun u H locs hp h => ?_)
  obtain ⟨hs1, hu⟩ := hp; rw [hu] at h
  obtain ⟨j, hj, rfl⟩ := inR_ex (by omega) hs1
  refine lv_aload_n hx hcd dX3_isDone_5 rfl (lv_at hl 0 rfl) ?_
  refine va_get (D := eD V) (ci := 7) (v := .ref (eX V (8 * 0))) (C := RX3) (T := TX3) (N := 11) hx hcd G.2.2.2.2 iwX3 G.2.2.2.1 hC.1 h.1 (96 + 0) (cF_at V _ (i := 0) (by decide)) rfl 0 (by decide) (G.2.2.2.2 _ mw_242) (fun y h9 => h9) rfl dX3_isDone_6 ?_
  refine lv_iload_n hx hcd dX3_isDone_9 rfl (lv_at hl 1 rfl) ?_
  refine k_Vi (As := [.int (nI (j))]) (rest := []) (b := eX V (8 * 0)) G hC hB h (met_X0_isFinished l V S 0 B (by omega) hz hn j (by omega)) mw_741 kv_X0_isFinished ⟨rfl, rfl⟩ ⟨Nat.le_of_ble_eq_true rfl, Nat.le_of_ble_eq_true rfl⟩ (r_bV hC h 0 (by omega)) rfl rfl hl.1 (Nat.le_of_ble_eq_true rfl) dX3_isDone_10 ⟨Nat.le_of_ble_eq_true rfl, Nat.le_of_ble_eq_true rfl⟩ (fun r u H locs hp h => ?_)
  obtain ⟨rfl, rfl⟩ := hp
  exact kx_retz hQ G hret hlocks h (bz01 _) (⟨j, rfl, hj, rfl, rfl⟩) (Nat.le_of_ble_eq_true rfl) (Nat.le_of_ble_eq_true rfl) dX3_isDone_13
set_option maxHeartbeats 4000000 in
set_option maxRecDepth 100000 in
/-- isBlocked -/
theorem met_X3_isBlocked (l : Launch) (hst : l.stackTraces = false) (V : kEnv) (S : kCs) (B : kBd) (hI : bI B) (x : Int32) : kX l yX3_isBlocked cX3_isBlocked 2 (some .boolean) { frames := 8, cells := 6, slots := 36, locals := 131 } V (cWs V) [.ref (eX V 96), .int (x)] (setB S 0 B) (fun r u => ∃ (j : Nat), x = nI j ∧ j < B.2 0 ∧ r = bz (decide (0 < opn B j)) ∧ u = setB S 0 B) (fun E u => (E = "java/lang/IndexOutOfBoundsException" ∧ inR (B.2 0) x = false ∧ u = setB S 0 B)) 6 36 := by
  refine kX_of (by decide +kernel) (Nat.le_of_ble_eq_true rfl) ?_
  intro pg e s m args below meth c G hret hlocks htab hC hB h ls hl Q hQ
  have hl : lv_has ls 2 [(0, .ref (eX V 96)), (1, .int (x))] := hl
  have hx := G.1
  have hcd := G.2.1
  have hI0 := hI
  obtain ⟨hz, hbn, hn, hm, h3, h54, h4, h7, hr, he, ha, hact, h5⟩ := hI
  refine lv_aload_n hx hcd dX3_isBlocked_0 rfl (lv_at hl 0 rfl) ?_
  refine lv_iload_n hx hcd dX3_isBlocked_1 rfl (lv_at hl 1 rfl) ?_
  refine kx_Vv (As := [.int (x)]) (rest := []) (b := eX V 96) G hC hB h (met_X3_requireStory l hst V S B hI0 x) mw_846 kv_X3_requireStory ⟨rfl, rfl⟩ ⟨Nat.le_of_ble_eq_true rfl, Nat.le_of_ble_eq_true rfl⟩ (r_sV hC h) rfl rfl hl.1 (Nat.le_of_ble_eq_true rfl) dX3_isBlocked_2 ⟨Nat.le_of_ble_eq_true rfl, Nat.le_of_ble_eq_true rfl⟩ (fun E ce q9 u t H1 locs1 ht9 hpx hb9 hS9 e1 e2 e3 => by subst hQ; exact kx_pass htab hlocks ht9 (hpx) hb9 hS9 e1 e2 e3 (Nat.le_of_ble_eq_true rfl) (Nat.le_of_ble_eq_true rfl)) (fun u H locs hp h => ?_)
  obtain ⟨hs1, hu⟩ := hp; rw [hu] at h
  obtain ⟨j, hj, rfl⟩ := inR_ex (by omega) hs1
  refine lv_aload_n hx hcd dX3_isBlocked_5 rfl (lv_at hl 0 rfl) ?_
  refine va_get (D := eD V) (ci := 7) (v := .ref (eX V (8 * 0))) (C := RX3) (T := TX3) (N := 11) hx hcd G.2.2.2.2 iwX3 G.2.2.2.1 hC.1 h.1 (96 + 0) (cF_at V _ (i := 0) (by decide)) rfl 0 (by decide) (G.2.2.2.2 _ mw_242) (fun y h9 => h9) rfl dX3_isBlocked_6 ?_
  refine lv_iload_n hx hcd dX3_isBlocked_9 rfl (lv_at hl 1 rfl) ?_
  refine k_Vi (As := [.int (nI (j))]) (rest := []) (b := eX V (8 * 0)) G hC hB h (met_X0_openBlockerCount l V S 0 B (by omega) hz hn j (by omega)) mw_969 kv_X0_openBlockerCount ⟨rfl, rfl⟩ ⟨Nat.le_of_ble_eq_true rfl, Nat.le_of_ble_eq_true rfl⟩ (r_bV hC h 0 (by omega)) rfl rfl hl.1 (Nat.le_of_ble_eq_true rfl) dX3_isBlocked_10 ⟨Nat.le_of_ble_eq_true rfl, Nat.le_of_ble_eq_true rfl⟩ (fun r u H locs hp h => ?_)
  obtain ⟨rfl, rfl⟩ := hp
  have q_1 := opn_le B j
  refine lv_if_le (tgt := 20) hx hcd dX3_isBlocked_13 (by decide) (fun c_2 => ?_) (fun c_2 => ?_)
  · have c_2 := cLe (tN (n := opn B j) (by omega)) t0 c_2
    refine lv_iconst (v := nI 0) hx hcd dX3_isBlocked_20 (by decide) ?_
    exact kx_retz hQ G hret hlocks h (Or.inl rfl) (⟨j, rfl, hj, (bz_f (decide_eq_false (by omega))).symm, rfl⟩) (Nat.le_of_ble_eq_true rfl) (Nat.le_of_ble_eq_true rfl) dX3_isBlocked_21
  · have c_2 := cNle (tN (n := opn B j) (by omega)) t0 c_2
    refine lv_iconst (v := nI 1) hx hcd dX3_isBlocked_16 (by decide) ?_
    refine lv_goto (tgt := 21) hx hcd dX3_isBlocked_17 (by decide) ?_
    exact kx_retz hQ G hret hlocks h (Or.inr rfl) (⟨j, rfl, hj, (bz_t (decide_eq_true (by omega))).symm, rfl⟩) (Nat.le_of_ble_eq_true rfl) (Nat.le_of_ble_eq_true rfl) dX3_isBlocked_21
set_option maxHeartbeats 4000000 in
set_option maxRecDepth 100000 in
/-- openBlockers -/
theorem met_X3_openBlockers (l : Launch) (hst : l.stackTraces = false) (V : kEnv) (S : kCs) (B : kBd) (hI : bI B) (x : Int32) : kX l yX3_openBlockers cX3_openBlockers 2 (some .int) { frames := 8, cells := 6, slots := 36, locals := 131 } V (cWs V) [.ref (eX V 96), .int (x)] (setB S 0 B) (fun r u => ∃ (j : Nat), x = nI j ∧ j < B.2 0 ∧ r = nI (opn B j) ∧ u = setB S 0 B) (fun E u => (E = "java/lang/IndexOutOfBoundsException" ∧ inR (B.2 0) x = false ∧ u = setB S 0 B)) 6 36 := by
  refine kX_of (by decide +kernel) (Nat.le_of_ble_eq_true rfl) ?_
  intro pg e s m args below meth c G hret hlocks htab hC hB h ls hl Q hQ
  have hl : lv_has ls 2 [(0, .ref (eX V 96)), (1, .int (x))] := hl
  have hx := G.1
  have hcd := G.2.1
  have hI0 := hI
  obtain ⟨hz, hbn, hn, hm, h3, h54, h4, h7, hr, he, ha, hact, h5⟩ := hI
  refine lv_aload_n hx hcd dX3_openBlockers_0 rfl (lv_at hl 0 rfl) ?_
  refine lv_iload_n hx hcd dX3_openBlockers_1 rfl (lv_at hl 1 rfl) ?_
  refine kx_Vv (As := [.int (x)]) (rest := []) (b := eX V 96) G hC hB h (met_X3_requireStory l hst V S B hI0 x) mw_846 kv_X3_requireStory ⟨rfl, rfl⟩ ⟨Nat.le_of_ble_eq_true rfl, Nat.le_of_ble_eq_true rfl⟩ (r_sV hC h) rfl rfl hl.1 (Nat.le_of_ble_eq_true rfl) dX3_openBlockers_2 ⟨Nat.le_of_ble_eq_true rfl, Nat.le_of_ble_eq_true rfl⟩ (fun E ce q9 u t H1 locs1 ht9 hpx hb9 hS9 e1 e2 e3 => by subst hQ; exact kx_pass htab hlocks ht9 (hpx) hb9 hS9 e1 e2 e3 (Nat.le_of_ble_eq_true rfl) (Nat.le_of_ble_eq_true rfl)) (fun u H locs hp h => ?_)
  obtain ⟨hs1, hu⟩ := hp; rw [hu] at h
  obtain ⟨j, hj, rfl⟩ := inR_ex (by omega) hs1
  refine lv_aload_n hx hcd dX3_openBlockers_5 rfl (lv_at hl 0 rfl) ?_
  refine va_get (D := eD V) (ci := 7) (v := .ref (eX V (8 * 0))) (C := RX3) (T := TX3) (N := 11) hx hcd G.2.2.2.2 iwX3 G.2.2.2.1 hC.1 h.1 (96 + 0) (cF_at V _ (i := 0) (by decide)) rfl 0 (by decide) (G.2.2.2.2 _ mw_242) (fun y h9 => h9) rfl dX3_openBlockers_6 ?_
  refine lv_iload_n hx hcd dX3_openBlockers_9 rfl (lv_at hl 1 rfl) ?_
  refine k_Vi (As := [.int (nI (j))]) (rest := []) (b := eX V (8 * 0)) G hC hB h (met_X0_openBlockerCount l V S 0 B (by omega) hz hn j (by omega)) mw_969 kv_X0_openBlockerCount ⟨rfl, rfl⟩ ⟨Nat.le_of_ble_eq_true rfl, Nat.le_of_ble_eq_true rfl⟩ (r_bV hC h 0 (by omega)) rfl rfl hl.1 (Nat.le_of_ble_eq_true rfl) dX3_openBlockers_10 ⟨Nat.le_of_ble_eq_true rfl, Nat.le_of_ble_eq_true rfl⟩ (fun r u H locs hp h => ?_)
  obtain ⟨rfl, rfl⟩ := hp
  have q_1 := opn_le B j
  exact kx_reti hQ G hret hlocks h (⟨j, rfl, hj, rfl, rfl⟩) (Nat.le_of_ble_eq_true rfl) (Nat.le_of_ble_eq_true rfl) dX3_openBlockers_13
set_option maxHeartbeats 4000000 in
set_option maxRecDepth 100000 in
/-- isBlocker -/
theorem met_X3_isBlocker (l : Launch) (hst : l.stackTraces = false) (V : kEnv) (S : kCs) (B : kBd) (hI : bI B) (x : Int32) (y : Int32) : kX l yX3_isBlocker cX3_isBlocker 3 (some .boolean) { frames := 8, cells := 6, slots := 36, locals := 131 } V (cWs V) [.ref (eX V 96), .int (x), .int (y)] (setB S 0 B) (fun r u => ∃ (j : Nat) (k : Nat), x = nI j ∧ j < B.2 0 ∧ y = nI k ∧ k < B.2 0 ∧ r = bz (((decide (j < B.2 0) && decide (k < B.2 0)) && (B.1 2 j).testBit k)) ∧ u = setB S 0 B) (fun E u => (E = "java/lang/IndexOutOfBoundsException" ∧ inR (B.2 0) x = false ∧ u = setB S 0 B) ∨ (∃ (j : Nat), x = nI j ∧ j < B.2 0 ∧ E = "java/lang/IndexOutOfBoundsException" ∧ inR (B.2 0) y = false ∧ u = setB S 0 B)) 6 36 := by
  refine kX_of (by decide +kernel) (Nat.le_of_ble_eq_true rfl) ?_
  intro pg e s m args below meth c G hret hlocks htab hC hB h ls hl Q hQ
  have hl : lv_has ls 3 [(0, .ref (eX V 96)), (1, .int (x)), (2, .int (y))] := hl
  have hx := G.1
  have hcd := G.2.1
  have hI0 := hI
  obtain ⟨hz, hbn, hn, hm, h3, h54, h4, h7, hr, he, ha, hact, h5⟩ := hI
  refine lv_aload_n hx hcd dX3_isBlocker_0 rfl (lv_at hl 0 rfl) ?_
  refine lv_iload_n hx hcd dX3_isBlocker_1 rfl (lv_at hl 1 rfl) ?_
  refine kx_Vv (As := [.int (x)]) (rest := []) (b := eX V 96) G hC hB h (met_X3_requireStory l hst V S B hI0 x) mw_846 kv_X3_requireStory ⟨rfl, rfl⟩ ⟨Nat.le_of_ble_eq_true rfl, Nat.le_of_ble_eq_true rfl⟩ (r_sV hC h) rfl rfl hl.1 (Nat.le_of_ble_eq_true rfl) dX3_isBlocker_2 ⟨Nat.le_of_ble_eq_true rfl, Nat.le_of_ble_eq_true rfl⟩ (fun E ce q9 u t H1 locs1 ht9 hpx hb9 hS9 e1 e2 e3 => by subst hQ; exact kx_pass htab hlocks ht9 (Or.inl (hpx)) hb9 hS9 e1 e2 e3 (Nat.le_of_ble_eq_true rfl) (Nat.le_of_ble_eq_true rfl)) (fun u H locs hp h => ?_)
  obtain ⟨hs1, hu⟩ := hp; rw [hu] at h
  obtain ⟨j, hj, rfl⟩ := inR_ex (by omega) hs1
  refine lv_aload_n hx hcd dX3_isBlocker_5 rfl (lv_at hl 0 rfl) ?_
  refine lv_iload_n hx hcd dX3_isBlocker_6 rfl (lv_at hl 2 rfl) ?_
  refine kx_Vv (As := [.int (y)]) (rest := []) (b := eX V 96) G hC hB h (met_X3_requireStory l hst V S B hI0 y) mw_846 kv_X3_requireStory ⟨rfl, rfl⟩ ⟨Nat.le_of_ble_eq_true rfl, Nat.le_of_ble_eq_true rfl⟩ (r_sV hC h) rfl rfl hl.1 (Nat.le_of_ble_eq_true rfl) dX3_isBlocker_7 ⟨Nat.le_of_ble_eq_true rfl, Nat.le_of_ble_eq_true rfl⟩ (fun E ce q9 u t H1 locs1 ht9 hpx hb9 hS9 e1 e2 e3 => by subst hQ; exact kx_pass htab hlocks ht9 (Or.inr (⟨j, rfl, hj, hpx⟩)) hb9 hS9 e1 e2 e3 (Nat.le_of_ble_eq_true rfl) (Nat.le_of_ble_eq_true rfl)) (fun u H locs hp h => ?_)
  obtain ⟨hs2, hu⟩ := hp; rw [hu] at h
  obtain ⟨k, hk, rfl⟩ := inR_ex (by omega) hs2
  refine lv_aload_n hx hcd dX3_isBlocker_10 rfl (lv_at hl 0 rfl) ?_
  refine va_get (D := eD V) (ci := 7) (v := .ref (eX V (8 * 0))) (C := RX3) (T := TX3) (N := 11) hx hcd G.2.2.2.2 iwX3 G.2.2.2.1 hC.1 h.1 (96 + 0) (cF_at V _ (i := 0) (by decide)) rfl 0 (by decide) (G.2.2.2.2 _ mw_242) (fun y h9 => h9) rfl dX3_isBlocker_11 ?_
  refine lv_iload_n hx hcd dX3_isBlocker_14 rfl (lv_at hl 1 rfl) ?_
  refine lv_iload_n hx hcd dX3_isBlocker_15 rfl (lv_at hl 2 rfl) ?_
  refine k_Vi (As := [.int (nI (j)), .int (nI (k))]) (rest := []) (b := eX V (8 * 0)) G hC hB h (met_X0_hasBlocker l V S 0 B (by omega) hz hn j (by omega) k (by omega)) mw_770 kv_X0_hasBlocker ⟨rfl, rfl⟩ ⟨Nat.le_of_ble_eq_true rfl, Nat.le_of_ble_eq_true rfl⟩ (r_bV hC h 0 (by omega)) rfl rfl hl.1 (Nat.le_of_ble_eq_true rfl) dX3_isBlocker_16 ⟨Nat.le_of_ble_eq_true rfl, Nat.le_of_ble_eq_true rfl⟩ (fun r u H locs hp h => ?_)
  obtain ⟨rfl, rfl⟩ := hp
  exact kx_retz hQ G hret hlocks h (bz01 _) (⟨j, k, rfl, hj, rfl, hk, rfl, rfl⟩) (Nat.le_of_ble_eq_true rfl) (Nat.le_of_ble_eq_true rfl) dX3_isBlocker_19
set_option maxHeartbeats 4000000 in
set_option maxRecDepth 100000 in
/-- dependsOn -/
theorem met_X3_dependsOn (l : Launch) (hst : l.stackTraces = false) (V : kEnv) (S : kCs) (B : kBd) (hI : bI B) (x : Int32) (y : Int32) : kX l yX3_dependsOn cX3_dependsOn 3 (some .boolean) { frames := 8, cells := 6, slots := 36, locals := 131 } V (cWs V) [.ref (eX V 96), .int (x), .int (y)] (setB S 0 B) (fun r u => ∃ (j : Nat) (k : Nat), x = nI j ∧ j < B.2 0 ∧ y = nI k ∧ k < B.2 0 ∧ r = bz (fnd B j k) ∧ u = setB S 0 B) (fun E u => (E = "java/lang/IndexOutOfBoundsException" ∧ inR (B.2 0) x = false ∧ u = setB S 0 B) ∨ (∃ (j : Nat), x = nI j ∧ j < B.2 0 ∧ E = "java/lang/IndexOutOfBoundsException" ∧ inR (B.2 0) y = false ∧ u = setB S 0 B)) 6 36 := by
  refine kX_of (by decide +kernel) (Nat.le_of_ble_eq_true rfl) ?_
  intro pg e s m args below meth c G hret hlocks htab hC hB h ls hl Q hQ
  have hl : lv_has ls 3 [(0, .ref (eX V 96)), (1, .int (x)), (2, .int (y))] := hl
  have hx := G.1
  have hcd := G.2.1
  have hI0 := hI
  obtain ⟨hz, hbn, hn, hm, h3, h54, h4, h7, hr, he, ha, hact, h5⟩ := hI
  refine lv_aload_n hx hcd dX3_dependsOn_0 rfl (lv_at hl 0 rfl) ?_
  refine lv_iload_n hx hcd dX3_dependsOn_1 rfl (lv_at hl 1 rfl) ?_
  refine kx_Vv (As := [.int (x)]) (rest := []) (b := eX V 96) G hC hB h (met_X3_requireStory l hst V S B hI0 x) mw_846 kv_X3_requireStory ⟨rfl, rfl⟩ ⟨Nat.le_of_ble_eq_true rfl, Nat.le_of_ble_eq_true rfl⟩ (r_sV hC h) rfl rfl hl.1 (Nat.le_of_ble_eq_true rfl) dX3_dependsOn_2 ⟨Nat.le_of_ble_eq_true rfl, Nat.le_of_ble_eq_true rfl⟩ (fun E ce q9 u t H1 locs1 ht9 hpx hb9 hS9 e1 e2 e3 => by subst hQ; exact kx_pass htab hlocks ht9 (Or.inl (hpx)) hb9 hS9 e1 e2 e3 (Nat.le_of_ble_eq_true rfl) (Nat.le_of_ble_eq_true rfl)) (fun u H locs hp h => ?_)
  obtain ⟨hs1, hu⟩ := hp; rw [hu] at h
  obtain ⟨j, hj, rfl⟩ := inR_ex (by omega) hs1
  refine lv_aload_n hx hcd dX3_dependsOn_5 rfl (lv_at hl 0 rfl) ?_
  refine lv_iload_n hx hcd dX3_dependsOn_6 rfl (lv_at hl 2 rfl) ?_
  refine kx_Vv (As := [.int (y)]) (rest := []) (b := eX V 96) G hC hB h (met_X3_requireStory l hst V S B hI0 y) mw_846 kv_X3_requireStory ⟨rfl, rfl⟩ ⟨Nat.le_of_ble_eq_true rfl, Nat.le_of_ble_eq_true rfl⟩ (r_sV hC h) rfl rfl hl.1 (Nat.le_of_ble_eq_true rfl) dX3_dependsOn_7 ⟨Nat.le_of_ble_eq_true rfl, Nat.le_of_ble_eq_true rfl⟩ (fun E ce q9 u t H1 locs1 ht9 hpx hb9 hS9 e1 e2 e3 => by subst hQ; exact kx_pass htab hlocks ht9 (Or.inr (⟨j, rfl, hj, hpx⟩)) hb9 hS9 e1 e2 e3 (Nat.le_of_ble_eq_true rfl) (Nat.le_of_ble_eq_true rfl)) (fun u H locs hp h => ?_)
  obtain ⟨hs2, hu⟩ := hp; rw [hu] at h
  obtain ⟨k, hk, rfl⟩ := inR_ex (by omega) hs2
  refine lv_aload_n hx hcd dX3_dependsOn_10 rfl (lv_at hl 0 rfl) ?_
  refine va_get (D := eD V) (ci := 7) (v := .ref (eX V (8 * 0))) (C := RX3) (T := TX3) (N := 11) hx hcd G.2.2.2.2 iwX3 G.2.2.2.1 hC.1 h.1 (96 + 0) (cF_at V _ (i := 0) (by decide)) rfl 0 (by decide) (G.2.2.2.2 _ mw_242) (fun y h9 => h9) rfl dX3_dependsOn_11 ?_
  refine lv_iload_n hx hcd dX3_dependsOn_14 rfl (lv_at hl 1 rfl) ?_
  refine lv_iload_n hx hcd dX3_dependsOn_15 rfl (lv_at hl 2 rfl) ?_
  refine k_Vi (As := [.int (nI (j)), .int (nI (k))]) (rest := []) (b := eX V (8 * 0)) G hC hB h (met_X0_finds l V S 0 B (by omega) hz j k (by omega) (by omega)) mw_721 kv_X0_finds ⟨rfl, rfl⟩ ⟨Nat.le_of_ble_eq_true rfl, Nat.le_of_ble_eq_true rfl⟩ (r_bV hC h 0 (by omega)) rfl rfl hl.1 (Nat.le_of_ble_eq_true rfl) dX3_dependsOn_16 ⟨Nat.le_of_ble_eq_true rfl, Nat.le_of_ble_eq_true rfl⟩ (fun r u H locs hp h => ?_)
  obtain ⟨rfl, rfl⟩ := hp
  exact kx_retz hQ G hret hlocks h (bz01 _) (⟨j, k, rfl, hj, rfl, hk, rfl, rfl⟩) (Nat.le_of_ble_eq_true rfl) (Nat.le_of_ble_eq_true rfl) dX3_dependsOn_19
