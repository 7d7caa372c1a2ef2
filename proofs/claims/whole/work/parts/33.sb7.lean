/-- whether command k with its numbers is allowed; what it does -/
def alw (B : kBd) : Nat → Nat → Nat → Bool
  | 0, a, b => (isEst (nI (a) : Int32).toInt && decide (B.2 0 < 16))
  | 1, a, b => (decide (1 ≤ (nI (a) : Int32).toInt ∧ (nI (a) : Int32).toInt ≤ 4) && decide (B.2 1 < 4))
  | 2, a, b => (((((decide (a < B.2 0) && decide (b < B.2 0)) && decide (a ≠ b)) && !(B.1 2 a).testBit b) && decide (B.1 1 a ≠ 0)) && !fnd B b a)
  | 3, a, b => ((decide (a < B.2 0) && decide (b < B.2 0)) && (B.1 2 a).testBit b)
  | 4, a, b => ((decide (a < B.2 0) && !(B.2 2).testBit a) && decide (B.1 1 a ≠ 0))
  | 5, a, b => ((decide (a < B.2 0) && (B.2 2).testBit a) && decide (asgOf B a = 0))
  | 6, a, b => ((decide (1 ≤ (nI (a) : Int32).toInt ∧ (nI (a) : Int32).toInt ≤ 10) && decide (B.2 3 = 0)) && decide (B.2 7 < 9))
  | 7, a, b => (((((decide (B.2 3 ≠ 0) && (decide (a < B.2 0) && (B.2 2).testBit a)) && decide (B.1 1 a ≠ 0)) && decide (asgOf B a = 0)) && decide (b < B.2 1)) && decide (B.1 4 b = 0))
  | 8, a, b => (decide (a < B.2 1) && decide (B.1 4 a ≠ 0))
  | 9, a, b => ((decide (a < B.2 0) && isEst (nI (b) : Int32).toInt) && decide (B.1 1 a ≠ 0))
  | 10, a, b => (decide (B.2 3 ≠ 0) && decide (B.2 5 < B.2 4))
  | _, a, b => decide (B.2 3 ≠ 0)
def cry (B : kBd) : Nat → Nat → Nat → kBd
  | 0, a, b => addB B a
  | 1, a, b => devB B a
  | 2, a, b => blkB B a b
  | 3, a, b => ublB B a b
  | 4, a, b => bPut B 2 (B.2 2 ||| 2 ^ a)
  | 5, a, b => bPut B 2 (andn (B.2 2) (2 ^ a))
  | 6, a, b => begB B a
  | 7, a, b => bSet B 4 b (a + 1)
  | 8, a, b => bSet B 4 a 0
  | 9, a, b => reB B a b
  | 10, a, b => dayB B
  | _, a, b => endB B
def rcN (kd fa sb : Nat → Nat) : Nat → Nat → kBd → Nat × kBd
  | 0, _, B => (0, B)
  | f + 1, i, B => if alw B (kd i) (fa i) (sb i) = true then rcN kd fa sb f (i + 1) (cry B (kd i) (fa i) (sb i)) else (i + 1, B)
set_option maxHeartbeats 4000000 in
set_option maxRecDepth 100000 in
/-- allows(0, a, b) -/
theorem met_allows_0 (l : Launch) (V : kEnv) (S : kCs) (B : kBd) (hI : bI B) (a b : Nat) (ha9 : a < 100) (hb9 : b < 100) : kI l yX3_allows cX3_allows 4 (some .boolean) { frames := 4, cells := 0, slots := 0, locals := 91 } V (cWs V) [.ref (eX V 96), .int (nI 0), .int (nI (a)), .int (nI (b))] (setB S 0 B) (fun r u => r = bz (alw B 0 a b) ∧ u = setB S 0 B) 0 0 := by
  refine kI_of (by decide +kernel) (Nat.le_of_ble_eq_true rfl) ?_
  intro pg e s m args below meth c G hret hlocks hC hB h ls hl Q hQ
  have hl : lv_has ls 4 [(0, .ref (eX V 96)), (1, .int (nI 0)), (2, .int (nI (a))), (3, .int (nI (b)))] := hl
  have hx := G.1
  have hcd := G.2.1
  have hI0 := hI
  obtain ⟨hz, hbn, hn, hm, h3, h54, h4, h7, hr, he, ha, hact, h5⟩ := hI
  refine lv_iload_n hx hcd dX3_allows_0 rfl (lv_at hl 1 rfl) ?_
  have t_1 : (nI 0 : Int32).toInt = (0 : Int) := (tN (n := 0) (by decide))
  refine lv_tableIn (off := 63) (tgt := 64) hx hcd dX3_allows_1 (by rw [t_1]; decide) (by rw [t_1]; decide) (by rw [t_1]; decide) (by decide) ?_
  refine lv_aload_n hx hcd dX3_allows_64 rfl (lv_at hl 0 rfl) ?_
  refine va_get (D := eD V) (ci := 7) (v := .ref (eX V (8 * 0))) (C := RX3) (T := TX3) (N := 11) hx hcd G.2.2.2.2 iwX3 G.2.2.2.1 hC.1 h.1 (96 + 0) (cF_at V _ (i := 0) (by decide)) rfl 0 (by decide) (G.2.2.2.2 _ mw_242) (fun y h9 => h9) rfl dX3_allows_65 ?_
  refine lv_iload_n hx hcd dX3_allows_68 rfl (lv_at hl 2 rfl) ?_
  refine k_Vi (As := [.int (nI (a))]) (rest := []) (b := eX V (8 * 0)) G hC hB h (met_X0_canAddStory l V S 0 B (by omega) hn (nI (a))) mw_799 kv_X0_canAddStory ⟨rfl, rfl⟩ ⟨Nat.le_of_ble_eq_true rfl, Nat.le_of_ble_eq_true rfl⟩ (r_bV hC h 0 (by omega)) rfl rfl hl.1 (Nat.le_of_ble_eq_true rfl) dX3_allows_69 ⟨Nat.le_of_ble_eq_true rfl, Nat.le_of_ble_eq_true rfl⟩ (fun r u H locs hp h => ?_)
  obtain ⟨rfl, rfl⟩ := hp
  exact k_retz hQ G hret hlocks h (bz01 _) (⟨rfl, rfl⟩) (Nat.le_of_ble_eq_true rfl) (Nat.le_of_ble_eq_true rfl) dX3_allows_72
set_option maxHeartbeats 4000000 in
set_option maxRecDepth 100000 in
/-- allows(1, a, b) -/
theorem met_allows_1 (l : Launch) (V : kEnv) (S : kCs) (B : kBd) (hI : bI B) (a b : Nat) (ha9 : a < 100) (hb9 : b < 100) : kI l yX3_allows cX3_allows 4 (some .boolean) { frames := 4, cells := 0, slots := 0, locals := 91 } V (cWs V) [.ref (eX V 96), .int (nI 1), .int (nI (a)), .int (nI (b))] (setB S 0 B) (fun r u => r = bz (alw B 1 a b) ∧ u = setB S 0 B) 0 0 := by
  refine kI_of (by decide +kernel) (Nat.le_of_ble_eq_true rfl) ?_
  intro pg e s m args below meth c G hret hlocks hC hB h ls hl Q hQ
  have hl : lv_has ls 4 [(0, .ref (eX V 96)), (1, .int (nI 1)), (2, .int (nI (a))), (3, .int (nI (b)))] := hl
  have hx := G.1
  have hcd := G.2.1
  have hI0 := hI
  obtain ⟨hz, hbn, hn, hm, h3, h54, h4, h7, hr, he, ha, hact, h5⟩ := hI
  refine lv_iload_n hx hcd dX3_allows_0 rfl (lv_at hl 1 rfl) ?_
  have t_1 : (nI 1 : Int32).toInt = (1 : Int) := (tN (n := 1) (by decide))
  refine lv_tableIn (off := 72) (tgt := 73) hx hcd dX3_allows_1 (by rw [t_1]; decide) (by rw [t_1]; decide) (by rw [t_1]; decide) (by decide) ?_
  refine lv_aload_n hx hcd dX3_allows_73 rfl (lv_at hl 0 rfl) ?_
  refine va_get (D := eD V) (ci := 7) (v := .ref (eX V (8 * 0))) (C := RX3) (T := TX3) (N := 11) hx hcd G.2.2.2.2 iwX3 G.2.2.2.1 hC.1 h.1 (96 + 0) (cF_at V _ (i := 0) (by decide)) rfl 0 (by decide) (G.2.2.2.2 _ mw_242) (fun y h9 => h9) rfl dX3_allows_74 ?_
  refine lv_iload_n hx hcd dX3_allows_77 rfl (lv_at hl 2 rfl) ?_
  refine k_Vi (As := [.int (nI (a))]) (rest := []) (b := eX V (8 * 0)) G hC hB h (met_X0_canAddDeveloper l V S 0 B (by omega) hm (nI (a))) mw_1057 kv_X0_canAddDeveloper ⟨rfl, rfl⟩ ⟨Nat.le_of_ble_eq_true rfl, Nat.le_of_ble_eq_true rfl⟩ (r_bV hC h 0 (by omega)) rfl rfl hl.1 (Nat.le_of_ble_eq_true rfl) dX3_allows_78 ⟨Nat.le_of_ble_eq_true rfl, Nat.le_of_ble_eq_true rfl⟩ (fun r u H locs hp h => ?_)
  obtain ⟨rfl, rfl⟩ := hp
  exact k_retz hQ G hret hlocks h (bz01 _) (⟨rfl, rfl⟩) (Nat.le_of_ble_eq_true rfl) (Nat.le_of_ble_eq_true rfl) dX3_allows_81
set_option maxHeartbeats 4000000 in
set_option maxRecDepth 100000 in
/-- allows(2, a, b) -/
theorem met_allows_2 (l : Launch) (V : kEnv) (S : kCs) (B : kBd) (hI : bI B) (a b : Nat) (ha9 : a < 100) (hb9 : b < 100) : kI l yX3_allows cX3_allows 4 (some .boolean) { frames := 4, cells := 0, slots := 0, locals := 91 } V (cWs V) [.ref (eX V 96), .int (nI 2), .int (nI (a)), .int (nI (b))] (setB S 0 B) (fun r u => r = bz (alw B 2 a b) ∧ u = setB S 0 B) 0 0 := by
  refine kI_of (by decide +kernel) (Nat.le_of_ble_eq_true rfl) ?_
  intro pg e s m args below meth c G hret hlocks hC hB h ls hl Q hQ
  have hl : lv_has ls 4 [(0, .ref (eX V 96)), (1, .int (nI 2)), (2, .int (nI (a))), (3, .int (nI (b)))] := hl
  have hx := G.1
  have hcd := G.2.1
  have hI0 := hI
  obtain ⟨hz, hbn, hn, hm, h3, h54, h4, h7, hr, he, ha, hact, h5⟩ := hI
  refine lv_iload_n hx hcd dX3_allows_0 rfl (lv_at hl 1 rfl) ?_
  have t_1 : (nI 2 : Int32).toInt = (2 : Int) := (tN (n := 2) (by decide))
  refine lv_tableIn (off := 81) (tgt := 82) hx hcd dX3_allows_1 (by rw [t_1]; decide) (by rw [t_1]; decide) (by rw [t_1]; decide) (by decide) ?_
  refine lv_aload_n hx hcd dX3_allows_82 rfl (lv_at hl 0 rfl) ?_
  refine va_get (D := eD V) (ci := 7) (v := .ref (eX V (8 * 0))) (C := RX3) (T := TX3) (N := 11) hx hcd G.2.2.2.2 iwX3 G.2.2.2.1 hC.1 h.1 (96 + 0) (cF_at V _ (i := 0) (by decide)) rfl 0 (by decide) (G.2.2.2.2 _ mw_242) (fun y h9 => h9) rfl dX3_allows_83 ?_
  refine lv_iload_n hx hcd dX3_allows_86 rfl (lv_at hl 2 rfl) ?_
  refine lv_iload_n hx hcd dX3_allows_87 rfl (lv_at hl 3 rfl) ?_
  refine k_Vi (As := [.int (nI (a)), .int (nI (b))]) (rest := []) (b := eX V (8 * 0)) G hC hB h (met_X0_canBlock l V S 0 B (by omega) hz hn a (by omega) b (by omega)) mw_884 kv_X0_canBlock ⟨rfl, rfl⟩ ⟨Nat.le_of_ble_eq_true rfl, Nat.le_of_ble_eq_true rfl⟩ (r_bV hC h 0 (by omega)) rfl rfl hl.1 (Nat.le_of_ble_eq_true rfl) dX3_allows_88 ⟨Nat.le_of_ble_eq_true rfl, Nat.le_of_ble_eq_true rfl⟩ (fun r u H locs hp h => ?_)
  obtain ⟨rfl, rfl⟩ := hp
  exact k_retz hQ G hret hlocks h (bz01 _) (⟨rfl, rfl⟩) (Nat.le_of_ble_eq_true rfl) (Nat.le_of_ble_eq_true rfl) dX3_allows_91
set_option maxHeartbeats 4000000 in
set_option maxRecDepth 100000 in
/-- allows(3, a, b) -/
theorem met_allows_3 (l : Launch) (V : kEnv) (S : kCs) (B : kBd) (hI : bI B) (a b : Nat) (ha9 : a < 100) (hb9 : b < 100) : kI l yX3_allows cX3_allows 4 (some .boolean) { frames := 4, cells := 0, slots := 0, locals := 91 } V (cWs V) [.ref (eX V 96), .int (nI 3), .int (nI (a)), .int (nI (b))] (setB S 0 B) (fun r u => r = bz (alw B 3 a b) ∧ u = setB S 0 B) 0 0 := by
  refine kI_of (by decide +kernel) (Nat.le_of_ble_eq_true rfl) ?_
  intro pg e s m args below meth c G hret hlocks hC hB h ls hl Q hQ
  have hl : lv_has ls 4 [(0, .ref (eX V 96)), (1, .int (nI 3)), (2, .int (nI (a))), (3, .int (nI (b)))] := hl
  have hx := G.1
  have hcd := G.2.1
  have hI0 := hI
  obtain ⟨hz, hbn, hn, hm, h3, h54, h4, h7, hr, he, ha, hact, h5⟩ := hI
  refine lv_iload_n hx hcd dX3_allows_0 rfl (lv_at hl 1 rfl) ?_
  have t_1 : (nI 3 : Int32).toInt = (3 : Int) := (tN (n := 3) (by decide))
  refine lv_tableIn (off := 91) (tgt := 92) hx hcd dX3_allows_1 (by rw [t_1]; decide) (by rw [t_1]; decide) (by rw [t_1]; decide) (by decide) ?_
  refine lv_aload_n hx hcd dX3_allows_92 rfl (lv_at hl 0 rfl) ?_
  refine va_get (D := eD V) (ci := 7) (v := .ref (eX V (8 * 0))) (C := RX3) (T := TX3) (N := 11) hx hcd G.2.2.2.2 iwX3 G.2.2.2.1 hC.1 h.1 (96 + 0) (cF_at V _ (i := 0) (by decide)) rfl 0 (by decide) (G.2.2.2.2 _ mw_242) (fun y h9 => h9) rfl dX3_allows_93 ?_
  refine lv_iload_n hx hcd dX3_allows_96 rfl (lv_at hl 2 rfl) ?_
  refine lv_iload_n hx hcd dX3_allows_97 rfl (lv_at hl 3 rfl) ?_
  refine k_Vi (As := [.int (nI (a)), .int (nI (b))]) (rest := []) (b := eX V (8 * 0)) G hC hB h (met_X0_canUnblock l V S 0 B (by omega) hz hn a (by omega) b (by omega)) mw_926 kv_X0_canUnblock ⟨rfl, rfl⟩ ⟨Nat.le_of_ble_eq_true rfl, Nat.le_of_ble_eq_true rfl⟩ (r_bV hC h 0 (by omega)) rfl rfl hl.1 (Nat.le_of_ble_eq_true rfl) dX3_allows_98 ⟨Nat.le_of_ble_eq_true rfl, Nat.le_of_ble_eq_true rfl⟩ (fun r u H locs hp h => ?_)
  obtain ⟨rfl, rfl⟩ := hp
  exact k_retz hQ G hret hlocks h (bz01 _) (⟨rfl, rfl⟩) (Nat.le_of_ble_eq_true rfl) (Nat.le_of_ble_eq_true rfl) dX3_allows_101
set_option maxHeartbeats 4000000 in
set_option maxRecDepth 100000 in
/-- allows(4, a, b) -/
theorem met_allows_4 (l : Launch) (V : kEnv) (S : kCs) (B : kBd) (hI : bI B) (a b : Nat) (ha9 : a < 100) (hb9 : b < 100) : kI l yX3_allows cX3_allows 4 (some .boolean) { frames := 4, cells := 0, slots := 0, locals := 91 } V (cWs V) [.ref (eX V 96), .int (nI 4), .int (nI (a)), .int (nI (b))] (setB S 0 B) (fun r u => r = bz (alw B 4 a b) ∧ u = setB S 0 B) 0 0 := by
  refine kI_of (by decide +kernel) (Nat.le_of_ble_eq_true rfl) ?_
  intro pg e s m args below meth c G hret hlocks hC hB h ls hl Q hQ
  have hl : lv_has ls 4 [(0, .ref (eX V 96)), (1, .int (nI 4)), (2, .int (nI (a))), (3, .int (nI (b)))] := hl
  have hx := G.1
  have hcd := G.2.1
  have hI0 := hI
  obtain ⟨hz, hbn, hn, hm, h3, h54, h4, h7, hr, he, ha, hact, h5⟩ := hI
  refine lv_iload_n hx hcd dX3_allows_0 rfl (lv_at hl 1 rfl) ?_
  have t_1 : (nI 4 : Int32).toInt = (4 : Int) := (tN (n := 4) (by decide))
  refine lv_tableIn (off := 101) (tgt := 102) hx hcd dX3_allows_1 (by rw [t_1]; decide) (by rw [t_1]; decide) (by rw [t_1]; decide) (by decide) ?_
  refine lv_aload_n hx hcd dX3_allows_102 rfl (lv_at hl 0 rfl) ?_
  refine va_get (D := eD V) (ci := 7) (v := .ref (eX V (8 * 0))) (C := RX3) (T := TX3) (N := 11) hx hcd G.2.2.2.2 iwX3 G.2.2.2.1 hC.1 h.1 (96 + 0) (cF_at V _ (i := 0) (by decide)) rfl 0 (by decide) (G.2.2.2.2 _ mw_242) (fun y h9 => h9) rfl dX3_allows_103 ?_
  refine lv_iload_n hx hcd dX3_allows_106 rfl (lv_at hl 2 rfl) ?_
  refine k_Vi (As := [.int (nI (a))]) (rest := []) (b := eX V (8 * 0)) G hC hB h (met_X0_canPlan l V S 0 B (by omega) hz hn a (by omega)) mw_1134 kv_X0_canPlan ⟨rfl, rfl⟩ ⟨Nat.le_of_ble_eq_true rfl, Nat.le_of_ble_eq_true rfl⟩ (r_bV hC h 0 (by omega)) rfl rfl hl.1 (Nat.le_of_ble_eq_true rfl) dX3_allows_107 ⟨Nat.le_of_ble_eq_true rfl, Nat.le_of_ble_eq_true rfl⟩ (fun r u H locs hp h => ?_)
  obtain ⟨rfl, rfl⟩ := hp
  exact k_retz hQ G hret hlocks h (bz01 _) (⟨rfl, rfl⟩) (Nat.le_of_ble_eq_true rfl) (Nat.le_of_ble_eq_true rfl) dX3_allows_110
set_option maxHeartbeats 4000000 in
set_option maxRecDepth 100000 in
/-- allows(5, a, b) -/
theorem met_allows_5 (l : Launch) (V : kEnv) (S : kCs) (B : kBd) (hI : bI B) (a b : Nat) (ha9 : a < 100) (hb9 : b < 100) : kI l yX3_allows cX3_allows 4 (some .boolean) { frames := 4, cells := 0, slots := 0, locals := 91 } V (cWs V) [.ref (eX V 96), .int (nI 5), .int (nI (a)), .int (nI (b))] (setB S 0 B) (fun r u => r = bz (alw B 5 a b) ∧ u = setB S 0 B) 0 0 := by
  refine kI_of (by decide +kernel) (Nat.le_of_ble_eq_true rfl) ?_
  intro pg e s m args below meth c G hret hlocks hC hB h ls hl Q hQ
  have hl : lv_has ls 4 [(0, .ref (eX V 96)), (1, .int (nI 5)), (2, .int (nI (a))), (3, .int (nI (b)))] := hl
  have hx := G.1
  have hcd := G.2.1
  have hI0 := hI
  obtain ⟨hz, hbn, hn, hm, h3, h54, h4, h7, hr, he, ha, hact, h5⟩ := hI
  refine lv_iload_n hx hcd dX3_allows_0 rfl (lv_at hl 1 rfl) ?_
  have t_1 : (nI 5 : Int32).toInt = (5 : Int) := (tN (n := 5) (by decide))
  refine lv_tableIn (off := 110) (tgt := 111) hx hcd dX3_allows_1 (by rw [t_1]; decide) (by rw [t_1]; decide) (by rw [t_1]; decide) (by decide) ?_
  refine lv_aload_n hx hcd dX3_allows_111 rfl (lv_at hl 0 rfl) ?_
  refine va_get (D := eD V) (ci := 7) (v := .ref (eX V (8 * 0))) (C := RX3) (T := TX3) (N := 11) hx hcd G.2.2.2.2 iwX3 G.2.2.2.1 hC.1 h.1 (96 + 0) (cF_at V _ (i := 0) (by decide)) rfl 0 (by decide) (G.2.2.2.2 _ mw_242) (fun y h9 => h9) rfl dX3_allows_112 ?_
  refine lv_iload_n hx hcd dX3_allows_115 rfl (lv_at hl 2 rfl) ?_
  refine k_Vi (As := [.int (nI (a))]) (rest := []) (b := eX V (8 * 0)) G hC hB h (met_X0_canUnplan l V S 0 B (by omega) hz hn a (by omega)) mw_1150 kv_X0_canUnplan ⟨rfl, rfl⟩ ⟨Nat.le_of_ble_eq_true rfl, Nat.le_of_ble_eq_true rfl⟩ (r_bV hC h 0 (by omega)) rfl rfl hl.1 (Nat.le_of_ble_eq_true rfl) dX3_allows_116 ⟨Nat.le_of_ble_eq_true rfl, Nat.le_of_ble_eq_true rfl⟩ (fun r u H locs hp h => ?_)
  obtain ⟨rfl, rfl⟩ := hp
  exact k_retz hQ G hret hlocks h (bz01 _) (⟨rfl, rfl⟩) (Nat.le_of_ble_eq_true rfl) (Nat.le_of_ble_eq_true rfl) dX3_allows_119
set_option maxHeartbeats 4000000 in
set_option maxRecDepth 100000 in
/-- allows(6, a, b) -/
theorem met_allows_6 (l : Launch) (V : kEnv) (S : kCs) (B : kBd) (hI : bI B) (a b : Nat) (ha9 : a < 100) (hb9 : b < 100) : kI l yX3_allows cX3_allows 4 (some .boolean) { frames := 4, cells := 0, slots := 0, locals := 91 } V (cWs V) [.ref (eX V 96), .int (nI 6), .int (nI (a)), .int (nI (b))] (setB S 0 B) (fun r u => r = bz (alw B 6 a b) ∧ u = setB S 0 B) 0 0 := by
  refine kI_of (by decide +kernel) (Nat.le_of_ble_eq_true rfl) ?_
  intro pg e s m args below meth c G hret hlocks hC hB h ls hl Q hQ
  have hl : lv_has ls 4 [(0, .ref (eX V 96)), (1, .int (nI 6)), (2, .int (nI (a))), (3, .int (nI (b)))] := hl
  have hx := G.1
  have hcd := G.2.1
  have hI0 := hI
  obtain ⟨hz, hbn, hn, hm, h3, h54, h4, h7, hr, he, ha, hact, h5⟩ := hI
  refine lv_iload_n hx hcd dX3_allows_0 rfl (lv_at hl 1 rfl) ?_
  have t_1 : (nI 6 : Int32).toInt = (6 : Int) := (tN (n := 6) (by decide))
  refine lv_tableIn (off := 119) (tgt := 120) hx hcd dX3_allows_1 (by rw [t_1]; decide) (by rw [t_1]; decide) (by rw [t_1]; decide) (by decide) ?_
  refine lv_aload_n hx hcd dX3_allows_120 rfl (lv_at hl 0 rfl) ?_
  refine va_get (D := eD V) (ci := 7) (v := .ref (eX V (8 * 0))) (C := RX3) (T := TX3) (N := 11) hx hcd G.2.2.2.2 iwX3 G.2.2.2.1 hC.1 h.1 (96 + 0) (cF_at V _ (i := 0) (by decide)) rfl 0 (by decide) (G.2.2.2.2 _ mw_242) (fun y h9 => h9) rfl dX3_allows_121 ?_
  refine lv_iload_n hx hcd dX3_allows_124 rfl (lv_at hl 2 rfl) ?_
  refine k_Vi (As := [.int (nI (a))]) (rest := []) (b := eX V (8 * 0)) G hC hB h (met_X0_canStart l V S 0 B (by omega) hz (nI (a))) mw_1168 kv_X0_canStart ⟨rfl, rfl⟩ ⟨Nat.le_of_ble_eq_true rfl, Nat.le_of_ble_eq_true rfl⟩ (r_bV hC h 0 (by omega)) rfl rfl hl.1 (Nat.le_of_ble_eq_true rfl) dX3_allows_125 ⟨Nat.le_of_ble_eq_true rfl, Nat.le_of_ble_eq_true rfl⟩ (fun r u H locs hp h => ?_)
  obtain ⟨rfl, rfl⟩ := hp
  exact k_retz hQ G hret hlocks h (bz01 _) (⟨rfl, rfl⟩) (Nat.le_of_ble_eq_true rfl) (Nat.le_of_ble_eq_true rfl) dX3_allows_128
set_option maxHeartbeats 4000000 in
set_option maxRecDepth 100000 in
/-- allows(7, a, b) -/
theorem met_allows_7 (l : Launch) (V : kEnv) (S : kCs) (B : kBd) (hI : bI B) (a b : Nat) (ha9 : a < 100) (hb9 : b < 100) : kI l yX3_allows cX3_allows 4 (some .boolean) { frames := 4, cells := 0, slots := 0, locals := 91 } V (cWs V) [.ref (eX V 96), .int (nI 7), .int (nI (a)), .int (nI (b))] (setB S 0 B) (fun r u => r = bz (alw B 7 a b) ∧ u = setB S 0 B) 0 0 := by
  refine kI_of (by decide +kernel) (Nat.le_of_ble_eq_true rfl) ?_
  intro pg e s m args below meth c G hret hlocks hC hB h ls hl Q hQ
  have hl : lv_has ls 4 [(0, .ref (eX V 96)), (1, .int (nI 7)), (2, .int (nI (a))), (3, .int (nI (b)))] := hl
  have hx := G.1
  have hcd := G.2.1
  have hI0 := hI
  obtain ⟨hz, hbn, hn, hm, h3, h54, h4, h7, hr, he, ha, hact, h5⟩ := hI
  refine lv_iload_n hx hcd dX3_allows_0 rfl (lv_at hl 1 rfl) ?_
  have t_1 : (nI 7 : Int32).toInt = (7 : Int) := (tN (n := 7) (by decide))
  refine lv_tableIn (off := 128) (tgt := 129) hx hcd dX3_allows_1 (by rw [t_1]; decide) (by rw [t_1]; decide) (by rw [t_1]; decide) (by decide) ?_
  refine lv_aload_n hx hcd dX3_allows_129 rfl (lv_at hl 0 rfl) ?_
  refine va_get (D := eD V) (ci := 7) (v := .ref (eX V (8 * 0))) (C := RX3) (T := TX3) (N := 11) hx hcd G.2.2.2.2 iwX3 G.2.2.2.1 hC.1 h.1 (96 + 0) (cF_at V _ (i := 0) (by decide)) rfl 0 (by decide) (G.2.2.2.2 _ mw_242) (fun y h9 => h9) rfl dX3_allows_130 ?_
  refine lv_iload_n hx hcd dX3_allows_133 rfl (lv_at hl 2 rfl) ?_
  refine lv_iload_n hx hcd dX3_allows_134 rfl (lv_at hl 3 rfl) ?_
  refine k_Vi (As := [.int (nI (a)), .int (nI (b))]) (rest := []) (b := eX V (8 * 0)) G hC hB h (met_X0_canAssign l V S 0 B (by omega) hz hn hm a (by omega) b (by omega)) mw_1078 kv_X0_canAssign ⟨rfl, rfl⟩ ⟨Nat.le_of_ble_eq_true rfl, Nat.le_of_ble_eq_true rfl⟩ (r_bV hC h 0 (by omega)) rfl rfl hl.1 (Nat.le_of_ble_eq_true rfl) dX3_allows_135 ⟨Nat.le_of_ble_eq_true rfl, Nat.le_of_ble_eq_true rfl⟩ (fun r u H locs hp h => ?_)
  obtain ⟨rfl, rfl⟩ := hp
  exact k_retz hQ G hret hlocks h (bz01 _) (⟨rfl, rfl⟩) (Nat.le_of_ble_eq_true rfl) (Nat.le_of_ble_eq_true rfl) dX3_allows_138
set_option maxHeartbeats 4000000 in
set_option maxRecDepth 100000 in
/-- allows(8, a, b) -/
theorem met_allows_8 (l : Launch) (V : kEnv) (S : kCs) (B : kBd) (hI : bI B) (a b : Nat) (ha9 : a < 100) (hb9 : b < 100) : kI l yX3_allows cX3_allows 4 (some .boolean) { frames := 4, cells := 0, slots := 0, locals := 91 } V (cWs V) [.ref (eX V 96), .int (nI 8), .int (nI (a)), .int (nI (b))] (setB S 0 B) (fun r u => r = bz (alw B 8 a b) ∧ u = setB S 0 B) 0 0 := by
  refine kI_of (by decide +kernel) (Nat.le_of_ble_eq_true rfl) ?_
  intro pg e s m args below meth c G hret hlocks hC hB h ls hl Q hQ
  have hl : lv_has ls 4 [(0, .ref (eX V 96)), (1, .int (nI 8)), (2, .int (nI (a))), (3, .int (nI (b)))] := hl
  have hx := G.1
  have hcd := G.2.1
  have hI0 := hI
  obtain ⟨hz, hbn, hn, hm, h3, h54, h4, h7, hr, he, ha, hact, h5⟩ := hI
  refine lv_iload_n hx hcd dX3_allows_0 rfl (lv_at hl 1 rfl) ?_
  have t_1 : (nI 8 : Int32).toInt = (8 : Int) := (tN (n := 8) (by decide))
  refine lv_tableIn (off := 138) (tgt := 139) hx hcd dX3_allows_1 (by rw [t_1]; decide) (by rw [t_1]; decide) (by rw [t_1]; decide) (by decide) ?_
  refine lv_aload_n hx hcd dX3_allows_139 rfl (lv_at hl 0 rfl) ?_
  refine va_get (D := eD V) (ci := 7) (v := .ref (eX V (8 * 0))) (C := RX3) (T := TX3) (N := 11) hx hcd G.2.2.2.2 iwX3 G.2.2.2.1 hC.1 h.1 (96 + 0) (cF_at V _ (i := 0) (by decide)) rfl 0 (by decide) (G.2.2.2.2 _ mw_242) (fun y h9 => h9) rfl dX3_allows_140 ?_
  refine lv_iload_n hx hcd dX3_allows_143 rfl (lv_at hl 2 rfl) ?_
  refine k_Vi (As := [.int (nI (a))]) (rest := []) (b := eX V (8 * 0)) G hC hB h (met_X0_canUnassign l V S 0 B (by omega) hz hm a (by omega)) mw_1097 kv_X0_canUnassign ⟨rfl, rfl⟩ ⟨Nat.le_of_ble_eq_true rfl, Nat.le_of_ble_eq_true rfl⟩ (r_bV hC h 0 (by omega)) rfl rfl hl.1 (Nat.le_of_ble_eq_true rfl) dX3_allows_144 ⟨Nat.le_of_ble_eq_true rfl, Nat.le_of_ble_eq_true rfl⟩ (fun r u H locs hp h => ?_)
  obtain ⟨rfl, rfl⟩ := hp
  exact k_retz hQ G hret hlocks h (bz01 _) (⟨rfl, rfl⟩) (Nat.le_of_ble_eq_true rfl) (Nat.le_of_ble_eq_true rfl) dX3_allows_147
set_option maxHeartbeats 4000000 in
set_option maxRecDepth 100000 in
/-- allows(9, a, b) -/
theorem met_allows_9 (l : Launch) (V : kEnv) (S : kCs) (B : kBd) (hI : bI B) (a b : Nat) (ha9 : a < 100) (hb9 : b < 100) : kI l yX3_allows cX3_allows 4 (some .boolean) { frames := 4, cells := 0, slots := 0, locals := 91 } V (cWs V) [.ref (eX V 96), .int (nI 9), .int (nI (a)), .int (nI (b))] (setB S 0 B) (fun r u => r = bz (alw B 9 a b) ∧ u = setB S 0 B) 0 0 := by
  refine kI_of (by decide +kernel) (Nat.le_of_ble_eq_true rfl) ?_
  intro pg e s m args below meth c G hret hlocks hC hB h ls hl Q hQ
  have hl : lv_has ls 4 [(0, .ref (eX V 96)), (1, .int (nI 9)), (2, .int (nI (a))), (3, .int (nI (b)))] := hl
  have hx := G.1
  have hcd := G.2.1
  have hI0 := hI
  obtain ⟨hz, hbn, hn, hm, h3, h54, h4, h7, hr, he, ha, hact, h5⟩ := hI
  refine lv_iload_n hx hcd dX3_allows_0 rfl (lv_at hl 1 rfl) ?_
  have t_1 : (nI 9 : Int32).toInt = (9 : Int) := (tN (n := 9) (by decide))
  refine lv_tableIn (off := 147) (tgt := 148) hx hcd dX3_allows_1 (by rw [t_1]; decide) (by rw [t_1]; decide) (by rw [t_1]; decide) (by decide) ?_
  refine lv_aload_n hx hcd dX3_allows_148 rfl (lv_at hl 0 rfl) ?_
  refine va_get (D := eD V) (ci := 7) (v := .ref (eX V (8 * 0))) (C := RX3) (T := TX3) (N := 11) hx hcd G.2.2.2.2 iwX3 G.2.2.2.1 hC.1 h.1 (96 + 0) (cF_at V _ (i := 0) (by decide)) rfl 0 (by decide) (G.2.2.2.2 _ mw_242) (fun y h9 => h9) rfl dX3_allows_149 ?_
  refine lv_iload_n hx hcd dX3_allows_152 rfl (lv_at hl 2 rfl) ?_
  refine lv_iload_n hx hcd dX3_allows_153 rfl (lv_at hl 3 rfl) ?_
  refine k_Vi (As := [.int (nI (a)), .int (nI (b))]) (rest := []) (b := eX V (8 * 0)) G hC hB h (met_X0_canReestimate l V S 0 B (by omega) hz hn a (by omega) (nI (b))) mw_866 kv_X0_canReestimate ⟨rfl, rfl⟩ ⟨Nat.le_of_ble_eq_true rfl, Nat.le_of_ble_eq_true rfl⟩ (r_bV hC h 0 (by omega)) rfl rfl hl.1 (Nat.le_of_ble_eq_true rfl) dX3_allows_154 ⟨Nat.le_of_ble_eq_true rfl, Nat.le_of_ble_eq_true rfl⟩ (fun r u H locs hp h => ?_)
  obtain ⟨rfl, rfl⟩ := hp
  exact k_retz hQ G hret hlocks h (bz01 _) (⟨rfl, rfl⟩) (Nat.le_of_ble_eq_true rfl) (Nat.le_of_ble_eq_true rfl) dX3_allows_157
set_option maxHeartbeats 4000000 in
set_option maxRecDepth 100000 in
/-- allows(10, a, b) -/
theorem met_allows_10 (l : Launch) (V : kEnv) (S : kCs) (B : kBd) (hI : bI B) (a b : Nat) (ha9 : a < 100) (hb9 : b < 100) : kI l yX3_allows cX3_allows 4 (some .boolean) { frames := 4, cells := 0, slots := 0, locals := 91 } V (cWs V) [.ref (eX V 96), .int (nI 10), .int (nI (a)), .int (nI (b))] (setB S 0 B) (fun r u => r = bz (alw B 10 a b) ∧ u = setB S 0 B) 0 0 := by
  refine kI_of (by decide +kernel) (Nat.le_of_ble_eq_true rfl) ?_
  intro pg e s m args below meth c G hret hlocks hC hB h ls hl Q hQ
  have hl : lv_has ls 4 [(0, .ref (eX V 96)), (1, .int (nI 10)), (2, .int (nI (a))), (3, .int (nI (b)))] := hl
  have hx := G.1
  have hcd := G.2.1
  have hI0 := hI
  obtain ⟨hz, hbn, hn, hm, h3, h54, h4, h7, hr, he, ha, hact, h5⟩ := hI
  refine lv_iload_n hx hcd dX3_allows_0 rfl (lv_at hl 1 rfl) ?_
  have t_1 : (nI 10 : Int32).toInt = (10 : Int) := (tN (n := 10) (by decide))
  refine lv_tableIn (off := 157) (tgt := 158) hx hcd dX3_allows_1 (by rw [t_1]; decide) (by rw [t_1]; decide) (by rw [t_1]; decide) (by decide) ?_
  refine lv_aload_n hx hcd dX3_allows_158 rfl (lv_at hl 0 rfl) ?_
  refine va_get (D := eD V) (ci := 7) (v := .ref (eX V (8 * 0))) (C := RX3) (T := TX3) (N := 11) hx hcd G.2.2.2.2 iwX3 G.2.2.2.1 hC.1 h.1 (96 + 0) (cF_at V _ (i := 0) (by decide)) rfl 0 (by decide) (G.2.2.2.2 _ mw_242) (fun y h9 => h9) rfl dX3_allows_159 ?_
  refine k_Vi (As := []) (rest := []) (b := eX V (8 * 0)) G hC hB h (met_X0_canPassDay l V S 0 B (by omega) hz ) mw_1185 kv_X0_canPassDay ⟨rfl, rfl⟩ ⟨Nat.le_of_ble_eq_true rfl, Nat.le_of_ble_eq_true rfl⟩ (r_bV hC h 0 (by omega)) rfl rfl hl.1 (Nat.le_of_ble_eq_true rfl) dX3_allows_162 ⟨Nat.le_of_ble_eq_true rfl, Nat.le_of_ble_eq_true rfl⟩ (fun r u H locs hp h => ?_)
  obtain ⟨rfl, rfl⟩ := hp
  exact k_retz hQ G hret hlocks h (bz01 _) (⟨rfl, rfl⟩) (Nat.le_of_ble_eq_true rfl) (Nat.le_of_ble_eq_true rfl) dX3_allows_165
set_option maxHeartbeats 4000000 in
set_option maxRecDepth 100000 in
/-- allows(11, a, b) -/
theorem met_allows_11 (l : Launch) (V : kEnv) (S : kCs) (B : kBd) (hI : bI B) (a b : Nat) (ha9 : a < 100) (hb9 : b < 100) : kI l yX3_allows cX3_allows 4 (some .boolean) { frames := 4, cells := 0, slots := 0, locals := 91 } V (cWs V) [.ref (eX V 96), .int (nI 11), .int (nI (a)), .int (nI (b))] (setB S 0 B) (fun r u => r = bz (alw B 11 a b) ∧ u = setB S 0 B) 0 0 := by
  refine kI_of (by decide +kernel) (Nat.le_of_ble_eq_true rfl) ?_
  intro pg e s m args below meth c G hret hlocks hC hB h ls hl Q hQ
  have hl : lv_has ls 4 [(0, .ref (eX V 96)), (1, .int (nI 11)), (2, .int (nI (a))), (3, .int (nI (b)))] := hl
  have hx := G.1
  have hcd := G.2.1
  have hI0 := hI
  obtain ⟨hz, hbn, hn, hm, h3, h54, h4, h7, hr, he, ha, hact, h5⟩ := hI
  refine lv_iload_n hx hcd dX3_allows_0 rfl (lv_at hl 1 rfl) ?_
  have t_1 : (nI 11 : Int32).toInt = (11 : Int) := (tN (n := 11) (by decide))
  refine lv_tableIn (off := 165) (tgt := 166) hx hcd dX3_allows_1 (by rw [t_1]; decide) (by rw [t_1]; decide) (by rw [t_1]; decide) (by decide) ?_
  refine lv_aload_n hx hcd dX3_allows_166 rfl (lv_at hl 0 rfl) ?_
  refine va_get (D := eD V) (ci := 7) (v := .ref (eX V (8 * 0))) (C := RX3) (T := TX3) (N := 11) hx hcd G.2.2.2.2 iwX3 G.2.2.2.1 hC.1 h.1 (96 + 0) (cF_at V _ (i := 0) (by decide)) rfl 0 (by decide) (G.2.2.2.2 _ mw_242) (fun y h9 => h9) rfl dX3_allows_167 ?_
  refine r_bS G hC h 0 3 (by omega) (by decide) (setB_at _ _ _) mw_117 (x := nI (B.2 3)) rfl dX3_allows_170 ?_
  have q_2 := hz.2 3
  exact k_retz hQ G hret hlocks h (act01 h3) (⟨act_bz h3, rfl⟩) (Nat.le_of_ble_eq_true rfl) (Nat.le_of_ble_eq_true rfl) dX3_allows_173
theorem met_allows (l : Launch) (V : kEnv) (S : kCs) (B : kBd) (hI : bI B) (k : Nat) (hk : k < 12) (a b : Nat) (ha9 : a < 100) (hb9 : b < 100) : kI l yX3_allows cX3_allows 4 (some .boolean) { frames := 4, cells := 0, slots := 0, locals := 91 } V (cWs V) [.ref (eX V 96), .int (nI k), .int (nI a), .int (nI b)] (setB S 0 B) (fun r u => r = bz (alw B k a b) ∧ u = setB S 0 B) 0 0 := by
  match k, hk with
  | 0, _ => exact met_allows_0 l V S B hI a b ha9 hb9
  | 1, _ => exact met_allows_1 l V S B hI a b ha9 hb9
  | 2, _ => exact met_allows_2 l V S B hI a b ha9 hb9
  | 3, _ => exact met_allows_3 l V S B hI a b ha9 hb9
  | 4, _ => exact met_allows_4 l V S B hI a b ha9 hb9
  | 5, _ => exact met_allows_5 l V S B hI a b ha9 hb9
  | 6, _ => exact met_allows_6 l V S B hI a b ha9 hb9
  | 7, _ => exact met_allows_7 l V S B hI a b ha9 hb9
  | 8, _ => exact met_allows_8 l V S B hI a b ha9 hb9
  | 9, _ => exact met_allows_9 l V S B hI a b ha9 hb9
  | 10, _ => exact met_allows_10 l V S B hI a b ha9 hb9
  | 11, _ => exact met_allows_11 l V S B hI a b ha9 hb9
set_option maxHeartbeats 4000000 in
set_option maxRecDepth 100000 in
/-- carryOut(0, a, b) -/
theorem met_carryOut_0 (l : Launch) (V : kEnv) (S : kCs) (B : kBd) (hI : bI B) (a b : Nat) (ha9 : a < 100) (hb9 : b < 100) (hal : alw B 0 a b = true) : kU l yX3_carryOut cX3_carryOut 4 { frames := 4, cells := 0, slots := 0, locals := 87 } V (cWs V) [.ref (eX V 96), .int (nI 0), .int (nI (a)), .int (nI (b))] (setB S 0 B) (fun u => u = setB S 0 (cry B 0 a b)) 0 0 := by
  refine kU_of (by decide +kernel) (Nat.le_of_ble_eq_true rfl) ?_
  intro pg e s m args below meth c G hret hlocks hC hB h ls hl Q hQ
  have hl : lv_has ls 4 [(0, .ref (eX V 96)), (1, .int (nI 0)), (2, .int (nI (a))), (3, .int (nI (b)))] := hl
  have hx := G.1
  have hcd := G.2.1
  have hI0 := hI
  obtain ⟨hz, hbn, hn, hm, h3, h54, h4, h7, hr, he, ha, hact, h5⟩ := hI
  have hal : ((isEst (nI (a) : Int32).toInt && decide (B.2 0 < 16))) = true := hal
  have g0 : isEst (nI (a) : Int32).toInt = true := (band_l hal)
  have g1 : B.2 0 < 16 := of_decide_eq_true (band_r hal)
  refine lv_iload_n hx hcd dX3_carryOut_0 rfl (lv_at hl 1 rfl) ?_
  have t_1 : (nI 0 : Int32).toInt = (0 : Int) := (tN (n := 0) (by decide))
  refine lv_tableIn (off := 63) (tgt := 64) hx hcd dX3_carryOut_1 (by rw [t_1]; decide) (by rw [t_1]; decide) (by rw [t_1]; decide) (by decide) ?_
  refine lv_aload_n hx hcd dX3_carryOut_64 rfl (lv_at hl 0 rfl) ?_
  refine va_get (D := eD V) (ci := 7) (v := .ref (eX V (8 * 0))) (C := RX3) (T := TX3) (N := 11) hx hcd G.2.2.2.2 iwX3 G.2.2.2.1 hC.1 h.1 (96 + 0) (cF_at V _ (i := 0) (by decide)) rfl 0 (by decide) (G.2.2.2.2 _ mw_242) (fun y h9 => h9) rfl dX3_carryOut_65 ?_
  refine lv_iload_n hx hcd dX3_carryOut_68 rfl (lv_at hl 2 rfl) ?_
  refine k_Vi (As := [.int (nI (a))]) (rest := []) (b := eX V (8 * 0)) G hC hB h (met_X0_putStory l V S 0 B (by omega) hz a (by omega) (by omega)) mw_832 kv_X0_putStory ⟨rfl, rfl⟩ ⟨Nat.le_of_ble_eq_true rfl, Nat.le_of_ble_eq_true rfl⟩ (r_bV hC h 0 (by omega)) rfl rfl hl.1 (Nat.le_of_ble_eq_true rfl) dX3_carryOut_69 ⟨Nat.le_of_ble_eq_true rfl, Nat.le_of_ble_eq_true rfl⟩ (fun r u H locs hp h => ?_)
  obtain ⟨rfl, rfl⟩ := hp
  refine lv_pop hx hcd dX3_carryOut_72 rfl ?_
  refine lv_goto (tgt := 209) hx hcd dX3_carryOut_73 (by decide) ?_
  exact k_retv hQ G hret hlocks h (rfl) (Nat.le_of_ble_eq_true rfl) (Nat.le_of_ble_eq_true rfl) dX3_carryOut_209
set_option maxHeartbeats 4000000 in
set_option maxRecDepth 100000 in
/-- carryOut(1, a, b) -/
theorem met_carryOut_1 (l : Launch) (V : kEnv) (S : kCs) (B : kBd) (hI : bI B) (a b : Nat) (ha9 : a < 100) (hb9 : b < 100) (hal : alw B 1 a b = true) : kU l yX3_carryOut cX3_carryOut 4 { frames := 4, cells := 0, slots := 0, locals := 87 } V (cWs V) [.ref (eX V 96), .int (nI 1), .int (nI (a)), .int (nI (b))] (setB S 0 B) (fun u => u = setB S 0 (cry B 1 a b)) 0 0 := by
  refine kU_of (by decide +kernel) (Nat.le_of_ble_eq_true rfl) ?_
  intro pg e s m args below meth c G hret hlocks hC hB h ls hl Q hQ
  have hl : lv_has ls 4 [(0, .ref (eX V 96)), (1, .int (nI 1)), (2, .int (nI (a))), (3, .int (nI (b)))] := hl
  have hx := G.1
  have hcd := G.2.1
  have hI0 := hI
  obtain ⟨hz, hbn, hn, hm, h3, h54, h4, h7, hr, he, ha, hact, h5⟩ := hI
  have hal : ((decide (1 ≤ (nI (a) : Int32).toInt ∧ (nI (a) : Int32).toInt ≤ 4) && decide (B.2 1 < 4))) = true := hal
  have g0 : 1 ≤ (nI (a) : Int32).toInt ∧ (nI (a) : Int32).toInt ≤ 4 := of_decide_eq_true (band_l hal)
  have g1 : B.2 1 < 4 := of_decide_eq_true (band_r hal)
  refine lv_iload_n hx hcd dX3_carryOut_0 rfl (lv_at hl 1 rfl) ?_
  have t_1 : (nI 1 : Int32).toInt = (1 : Int) := (tN (n := 1) (by decide))
  refine lv_tableIn (off := 75) (tgt := 76) hx hcd dX3_carryOut_1 (by rw [t_1]; decide) (by rw [t_1]; decide) (by rw [t_1]; decide) (by decide) ?_
  refine lv_aload_n hx hcd dX3_carryOut_76 rfl (lv_at hl 0 rfl) ?_
  refine va_get (D := eD V) (ci := 7) (v := .ref (eX V (8 * 0))) (C := RX3) (T := TX3) (N := 11) hx hcd G.2.2.2.2 iwX3 G.2.2.2.1 hC.1 h.1 (96 + 0) (cF_at V _ (i := 0) (by decide)) rfl 0 (by decide) (G.2.2.2.2 _ mw_242) (fun y h9 => h9) rfl dX3_carryOut_77 ?_
  refine lv_iload_n hx hcd dX3_carryOut_80 rfl (lv_at hl 2 rfl) ?_
  refine k_Vi (As := [.int (nI (a))]) (rest := []) (b := eX V (8 * 0)) G hC hB h (met_X0_putDeveloper l V S 0 B (by omega) hz a (by omega) (by omega)) mw_1062 kv_X0_putDeveloper ⟨rfl, rfl⟩ ⟨Nat.le_of_ble_eq_true rfl, Nat.le_of_ble_eq_true rfl⟩ (r_bV hC h 0 (by omega)) rfl rfl hl.1 (Nat.le_of_ble_eq_true rfl) dX3_carryOut_81 ⟨Nat.le_of_ble_eq_true rfl, Nat.le_of_ble_eq_true rfl⟩ (fun r u H locs hp h => ?_)
  obtain ⟨rfl, rfl⟩ := hp
  refine lv_pop hx hcd dX3_carryOut_84 rfl ?_
  refine lv_goto (tgt := 209) hx hcd dX3_carryOut_85 (by decide) ?_
  exact k_retv hQ G hret hlocks h (rfl) (Nat.le_of_ble_eq_true rfl) (Nat.le_of_ble_eq_true rfl) dX3_carryOut_209
set_option maxHeartbeats 4000000 in
set_option maxRecDepth 100000 in
/-- carryOut(2, a, b) -/
theorem met_carryOut_2 (l : Launch) (V : kEnv) (S : kCs) (B : kBd) (hI : bI B) (a b : Nat) (ha9 : a < 100) (hb9 : b < 100) (hal : alw B 2 a b = true) : kU l yX3_carryOut cX3_carryOut 4 { frames := 4, cells := 0, slots := 0, locals := 87 } V (cWs V) [.ref (eX V 96), .int (nI 2), .int (nI (a)), .int (nI (b))] (setB S 0 B) (fun u => u = setB S 0 (cry B 2 a b)) 0 0 := by
  refine kU_of (by decide +kernel) (Nat.le_of_ble_eq_true rfl) ?_
  intro pg e s m args below meth c G hret hlocks hC hB h ls hl Q hQ
  have hl : lv_has ls 4 [(0, .ref (eX V 96)), (1, .int (nI 2)), (2, .int (nI (a))), (3, .int (nI (b)))] := hl
  have hx := G.1
  have hcd := G.2.1
  have hI0 := hI
  obtain ⟨hz, hbn, hn, hm, h3, h54, h4, h7, hr, he, ha, hact, h5⟩ := hI
  have hal : ((((((decide (a < B.2 0) && decide (b < B.2 0)) && decide (a ≠ b)) && !(B.1 2 a).testBit b) && decide (B.1 1 a ≠ 0)) && !fnd B b a)) = true := hal
  have g0 : a < B.2 0 := of_decide_eq_true (band_l (band_l (band_l (band_l (band_l hal)))))
  have g1 : b < B.2 0 := of_decide_eq_true (band_r (band_l (band_l (band_l (band_l hal)))))
  have g2 : a ≠ b := of_decide_eq_true (band_r (band_l (band_l (band_l hal))))
  have g3 : (B.1 2 a).testBit b = false := nb_i (band_r (band_l (band_l hal)))
  have g4 : B.1 1 a ≠ 0 := of_decide_eq_true (band_r (band_l hal))
  have g5 : fnd B b a = false := nb_i (band_r hal)
  refine lv_iload_n hx hcd dX3_carryOut_0 rfl (lv_at hl 1 rfl) ?_
  have t_1 : (nI 2 : Int32).toInt = (2 : Int) := (tN (n := 2) (by decide))
  refine lv_tableIn (off := 87) (tgt := 88) hx hcd dX3_carryOut_1 (by rw [t_1]; decide) (by rw [t_1]; decide) (by rw [t_1]; decide) (by decide) ?_
  refine lv_aload_n hx hcd dX3_carryOut_88 rfl (lv_at hl 0 rfl) ?_
  refine va_get (D := eD V) (ci := 7) (v := .ref (eX V (8 * 0))) (C := RX3) (T := TX3) (N := 11) hx hcd G.2.2.2.2 iwX3 G.2.2.2.1 hC.1 h.1 (96 + 0) (cF_at V _ (i := 0) (by decide)) rfl 0 (by decide) (G.2.2.2.2 _ mw_242) (fun y h9 => h9) rfl dX3_carryOut_89 ?_
  refine lv_iload_n hx hcd dX3_carryOut_92 rfl (lv_at hl 2 rfl) ?_
  refine lv_iload_n hx hcd dX3_carryOut_93 rfl (lv_at hl 3 rfl) ?_
  refine k_Vi (As := [.int (nI (a)), .int (nI (b))]) (rest := []) (b := eX V (8 * 0)) G hC hB h (met_X0_putBlocker l V S 0 B (by omega) hz hn a (by omega) b (by omega)) mw_909 kv_X0_putBlocker ⟨rfl, rfl⟩ ⟨Nat.le_of_ble_eq_true rfl, Nat.le_of_ble_eq_true rfl⟩ (r_bV hC h 0 (by omega)) rfl rfl hl.1 (Nat.le_of_ble_eq_true rfl) dX3_carryOut_94 ⟨Nat.le_of_ble_eq_true rfl, Nat.le_of_ble_eq_true rfl⟩ (fun r u H locs hp h => ?_)
  obtain ⟨rfl, rfl⟩ := hp
  refine lv_pop hx hcd dX3_carryOut_97 rfl ?_
  refine lv_goto (tgt := 209) hx hcd dX3_carryOut_98 (by decide) ?_
  exact k_retv hQ G hret hlocks h (rfl) (Nat.le_of_ble_eq_true rfl) (Nat.le_of_ble_eq_true rfl) dX3_carryOut_209
set_option maxHeartbeats 4000000 in
set_option maxRecDepth 100000 in
/-- carryOut(3, a, b) -/
theorem met_carryOut_3 (l : Launch) (V : kEnv) (S : kCs) (B : kBd) (hI : bI B) (a b : Nat) (ha9 : a < 100) (hb9 : b < 100) (hal : alw B 3 a b = true) : kU l yX3_carryOut cX3_carryOut 4 { frames := 4, cells := 0, slots := 0, locals := 87 } V (cWs V) [.ref (eX V 96), .int (nI 3), .int (nI (a)), .int (nI (b))] (setB S 0 B) (fun u => u = setB S 0 (cry B 3 a b)) 0 0 := by
  refine kU_of (by decide +kernel) (Nat.le_of_ble_eq_true rfl) ?_
  intro pg e s m args below meth c G hret hlocks hC hB h ls hl Q hQ
  have hl : lv_has ls 4 [(0, .ref (eX V 96)), (1, .int (nI 3)), (2, .int (nI (a))), (3, .int (nI (b)))] := hl
  have hx := G.1
  have hcd := G.2.1
  have hI0 := hI
  obtain ⟨hz, hbn, hn, hm, h3, h54, h4, h7, hr, he, ha, hact, h5⟩ := hI
  have hal : (((decide (a < B.2 0) && decide (b < B.2 0)) && (B.1 2 a).testBit b)) = true := hal
  have g0 : a < B.2 0 := of_decide_eq_true (band_l (band_l hal))
  have g1 : b < B.2 0 := of_decide_eq_true (band_r (band_l hal))
  have g2 : (B.1 2 a).testBit b = true := (band_r hal)
  refine lv_iload_n hx hcd dX3_carryOut_0 rfl (lv_at hl 1 rfl) ?_
  have t_1 : (nI 3 : Int32).toInt = (3 : Int) := (tN (n := 3) (by decide))
  refine lv_tableIn (off := 100) (tgt := 101) hx hcd dX3_carryOut_1 (by rw [t_1]; decide) (by rw [t_1]; decide) (by rw [t_1]; decide) (by decide) ?_
  refine lv_aload_n hx hcd dX3_carryOut_101 rfl (lv_at hl 0 rfl) ?_
  refine va_get (D := eD V) (ci := 7) (v := .ref (eX V (8 * 0))) (C := RX3) (T := TX3) (N := 11) hx hcd G.2.2.2.2 iwX3 G.2.2.2.1 hC.1 h.1 (96 + 0) (cF_at V _ (i := 0) (by decide)) rfl 0 (by decide) (G.2.2.2.2 _ mw_242) (fun y h9 => h9) rfl dX3_carryOut_102 ?_
  refine lv_iload_n hx hcd dX3_carryOut_105 rfl (lv_at hl 2 rfl) ?_
  refine lv_iload_n hx hcd dX3_carryOut_106 rfl (lv_at hl 3 rfl) ?_
  refine k_Vi (As := [.int (nI (a)), .int (nI (b))]) (rest := []) (b := eX V (8 * 0)) G hC hB h (met_X0_removeBlocker l V S 0 B (by omega) hz hn a (by omega) b (by omega)) mw_930 kv_X0_removeBlocker ⟨rfl, rfl⟩ ⟨Nat.le_of_ble_eq_true rfl, Nat.le_of_ble_eq_true rfl⟩ (r_bV hC h 0 (by omega)) rfl rfl hl.1 (Nat.le_of_ble_eq_true rfl) dX3_carryOut_107 ⟨Nat.le_of_ble_eq_true rfl, Nat.le_of_ble_eq_true rfl⟩ (fun r u H locs hp h => ?_)
  obtain ⟨rfl, rfl⟩ := hp
  refine lv_pop hx hcd dX3_carryOut_110 rfl ?_
  refine lv_goto (tgt := 209) hx hcd dX3_carryOut_111 (by decide) ?_
  exact k_retv hQ G hret hlocks h (rfl) (Nat.le_of_ble_eq_true rfl) (Nat.le_of_ble_eq_true rfl) dX3_carryOut_209
set_option maxHeartbeats 4000000 in
set_option maxRecDepth 100000 in
/-- carryOut(4, a, b) -/
theorem met_carryOut_4 (l : Launch) (V : kEnv) (S : kCs) (B : kBd) (hI : bI B) (a b : Nat) (ha9 : a < 100) (hb9 : b < 100) (hal : alw B 4 a b = true) : kU l yX3_carryOut cX3_carryOut 4 { frames := 4, cells := 0, slots := 0, locals := 87 } V (cWs V) [.ref (eX V 96), .int (nI 4), .int (nI (a)), .int (nI (b))] (setB S 0 B) (fun u => u = setB S 0 (cry B 4 a b)) 0 0 := by
  refine kU_of (by decide +kernel) (Nat.le_of_ble_eq_true rfl) ?_
  intro pg e s m args below meth c G hret hlocks hC hB h ls hl Q hQ
  have hl : lv_has ls 4 [(0, .ref (eX V 96)), (1, .int (nI 4)), (2, .int (nI (a))), (3, .int (nI (b)))] := hl
  have hx := G.1
  have hcd := G.2.1
  have hI0 := hI
  obtain ⟨hz, hbn, hn, hm, h3, h54, h4, h7, hr, he, ha, hact, h5⟩ := hI
  have hal : (((decide (a < B.2 0) && !(B.2 2).testBit a) && decide (B.1 1 a ≠ 0))) = true := hal
  have g0 : a < B.2 0 := of_decide_eq_true (band_l (band_l hal))
  have g1 : (B.2 2).testBit a = false := nb_i (band_r (band_l hal))
  have g2 : B.1 1 a ≠ 0 := of_decide_eq_true (band_r hal)
  refine lv_iload_n hx hcd dX3_carryOut_0 rfl (lv_at hl 1 rfl) ?_
  have t_1 : (nI 4 : Int32).toInt = (4 : Int) := (tN (n := 4) (by decide))
  refine lv_tableIn (off := 113) (tgt := 114) hx hcd dX3_carryOut_1 (by rw [t_1]; decide) (by rw [t_1]; decide) (by rw [t_1]; decide) (by decide) ?_
  refine lv_aload_n hx hcd dX3_carryOut_114 rfl (lv_at hl 0 rfl) ?_
  refine va_get (D := eD V) (ci := 7) (v := .ref (eX V (8 * 0))) (C := RX3) (T := TX3) (N := 11) hx hcd G.2.2.2.2 iwX3 G.2.2.2.1 hC.1 h.1 (96 + 0) (cF_at V _ (i := 0) (by decide)) rfl 0 (by decide) (G.2.2.2.2 _ mw_242) (fun y h9 => h9) rfl dX3_carryOut_115 ?_
  refine lv_iload_n hx hcd dX3_carryOut_118 rfl (lv_at hl 2 rfl) ?_
  refine k_Vi (As := [.int (nI (a))]) (rest := []) (b := eX V (8 * 0)) G hC hB h (met_X0_putIntoPlan l V S 0 B (by omega) hz a (by omega)) mw_1138 kv_X0_putIntoPlan ⟨rfl, rfl⟩ ⟨Nat.le_of_ble_eq_true rfl, Nat.le_of_ble_eq_true rfl⟩ (r_bV hC h 0 (by omega)) rfl rfl hl.1 (Nat.le_of_ble_eq_true rfl) dX3_carryOut_119 ⟨Nat.le_of_ble_eq_true rfl, Nat.le_of_ble_eq_true rfl⟩ (fun r u H locs hp h => ?_)
  obtain ⟨rfl, rfl⟩ := hp
  refine lv_pop hx hcd dX3_carryOut_122 rfl ?_
  refine lv_goto (tgt := 209) hx hcd dX3_carryOut_123 (by decide) ?_
  exact k_retv hQ G hret hlocks h (rfl) (Nat.le_of_ble_eq_true rfl) (Nat.le_of_ble_eq_true rfl) dX3_carryOut_209
set_option maxHeartbeats 4000000 in
set_option maxRecDepth 100000 in
/-- carryOut(5, a, b) -/
theorem met_carryOut_5 (l : Launch) (V : kEnv) (S : kCs) (B : kBd) (hI : bI B) (a b : Nat) (ha9 : a < 100) (hb9 : b < 100) (hal : alw B 5 a b = true) : kU l yX3_carryOut cX3_carryOut 4 { frames := 4, cells := 0, slots := 0, locals := 87 } V (cWs V) [.ref (eX V 96), .int (nI 5), .int (nI (a)), .int (nI (b))] (setB S 0 B) (fun u => u = setB S 0 (cry B 5 a b)) 0 0 := by
  refine kU_of (by decide +kernel) (Nat.le_of_ble_eq_true rfl) ?_
  intro pg e s m args below meth c G hret hlocks hC hB h ls hl Q hQ
  have hl : lv_has ls 4 [(0, .ref (eX V 96)), (1, .int (nI 5)), (2, .int (nI (a))), (3, .int (nI (b)))] := hl
  have hx := G.1
  have hcd := G.2.1
  have hI0 := hI
  obtain ⟨hz, hbn, hn, hm, h3, h54, h4, h7, hr, he, ha, hact, h5⟩ := hI
  have hal : (((decide (a < B.2 0) && (B.2 2).testBit a) && decide (asgOf B a = 0))) = true := hal
  have g0 : a < B.2 0 := of_decide_eq_true (band_l (band_l hal))
  have g1 : (B.2 2).testBit a = true := (band_r (band_l hal))
  have g2 : asgOf B a = 0 := of_decide_eq_true (band_r hal)
  refine lv_iload_n hx hcd dX3_carryOut_0 rfl (lv_at hl 1 rfl) ?_
  have t_1 : (nI 5 : Int32).toInt = (5 : Int) := (tN (n := 5) (by decide))
  refine lv_tableIn (off := 125) (tgt := 126) hx hcd dX3_carryOut_1 (by rw [t_1]; decide) (by rw [t_1]; decide) (by rw [t_1]; decide) (by decide) ?_
  refine lv_aload_n hx hcd dX3_carryOut_126 rfl (lv_at hl 0 rfl) ?_
  refine va_get (D := eD V) (ci := 7) (v := .ref (eX V (8 * 0))) (C := RX3) (T := TX3) (N := 11) hx hcd G.2.2.2.2 iwX3 G.2.2.2.1 hC.1 h.1 (96 + 0) (cF_at V _ (i := 0) (by decide)) rfl 0 (by decide) (G.2.2.2.2 _ mw_242) (fun y h9 => h9) rfl dX3_carryOut_127 ?_
  refine lv_iload_n hx hcd dX3_carryOut_130 rfl (lv_at hl 2 rfl) ?_
  refine k_Vi (As := [.int (nI (a))]) (rest := []) (b := eX V (8 * 0)) G hC hB h (met_X0_removeFromPlan l V S 0 B (by omega) hz a (by omega)) mw_1154 kv_X0_removeFromPlan ⟨rfl, rfl⟩ ⟨Nat.le_of_ble_eq_true rfl, Nat.le_of_ble_eq_true rfl⟩ (r_bV hC h 0 (by omega)) rfl rfl hl.1 (Nat.le_of_ble_eq_true rfl) dX3_carryOut_131 ⟨Nat.le_of_ble_eq_true rfl, Nat.le_of_ble_eq_true rfl⟩ (fun r u H locs hp h => ?_)
  obtain ⟨rfl, rfl⟩ := hp
  refine lv_pop hx hcd dX3_carryOut_134 rfl ?_
  refine lv_goto (tgt := 209) hx hcd dX3_carryOut_135 (by decide) ?_
  exact k_retv hQ G hret hlocks h (rfl) (Nat.le_of_ble_eq_true rfl) (Nat.le_of_ble_eq_true rfl) dX3_carryOut_209
set_option maxHeartbeats 4000000 in
set_option maxRecDepth 100000 in
/-- carryOut(6, a, b) -/
theorem met_carryOut_6 (l : Launch) (V : kEnv) (S : kCs) (B : kBd) (hI : bI B) (a b : Nat) (ha9 : a < 100) (hb9 : b < 100) (hal : alw B 6 a b = true) : kU l yX3_carryOut cX3_carryOut 4 { frames := 4, cells := 0, slots := 0, locals := 87 } V (cWs V) [.ref (eX V 96), .int (nI 6), .int (nI (a)), .int (nI (b))] (setB S 0 B) (fun u => u = setB S 0 (cry B 6 a b)) 0 0 := by
  refine kU_of (by decide +kernel) (Nat.le_of_ble_eq_true rfl) ?_
  intro pg e s m args below meth c G hret hlocks hC hB h ls hl Q hQ
  have hl : lv_has ls 4 [(0, .ref (eX V 96)), (1, .int (nI 6)), (2, .int (nI (a))), (3, .int (nI (b)))] := hl
  have hx := G.1
  have hcd := G.2.1
  have hI0 := hI
  obtain ⟨hz, hbn, hn, hm, h3, h54, h4, h7, hr, he, ha, hact, h5⟩ := hI
  have hal : (((decide (1 ≤ (nI (a) : Int32).toInt ∧ (nI (a) : Int32).toInt ≤ 10) && decide (B.2 3 = 0)) && decide (B.2 7 < 9))) = true := hal
  have g0 : 1 ≤ (nI (a) : Int32).toInt ∧ (nI (a) : Int32).toInt ≤ 10 := of_decide_eq_true (band_l (band_l hal))
  have g1 : B.2 3 = 0 := of_decide_eq_true (band_r (band_l hal))
  have g2 : B.2 7 < 9 := of_decide_eq_true (band_r hal)
  have hps : psum B 0 < 65536 := Nat.lt_of_le_of_lt (psum_le he hr (by decide)) (by decide)
  refine lv_iload_n hx hcd dX3_carryOut_0 rfl (lv_at hl 1 rfl) ?_
  have t_1 : (nI 6 : Int32).toInt = (6 : Int) := (tN (n := 6) (by decide))
  refine lv_tableIn (off := 137) (tgt := 138) hx hcd dX3_carryOut_1 (by rw [t_1]; decide) (by rw [t_1]; decide) (by rw [t_1]; decide) (by decide) ?_
  refine lv_aload_n hx hcd dX3_carryOut_138 rfl (lv_at hl 0 rfl) ?_
  refine va_get (D := eD V) (ci := 7) (v := .ref (eX V (8 * 0))) (C := RX3) (T := TX3) (N := 11) hx hcd G.2.2.2.2 iwX3 G.2.2.2.1 hC.1 h.1 (96 + 0) (cF_at V _ (i := 0) (by decide)) rfl 0 (by decide) (G.2.2.2.2 _ mw_242) (fun y h9 => h9) rfl dX3_carryOut_139 ?_
  refine lv_iload_n hx hcd dX3_carryOut_142 rfl (lv_at hl 2 rfl) ?_
  refine k_Vi (As := [.int (nI (a))]) (rest := []) (b := eX V (8 * 0)) G hC hB h (met_X0_beginSprint l V S 0 B (by omega) hz a (by omega) (by assumption)) mw_1173 kv_X0_beginSprint ⟨rfl, rfl⟩ ⟨Nat.le_of_ble_eq_true rfl, Nat.le_of_ble_eq_true rfl⟩ (r_bV hC h 0 (by omega)) rfl rfl hl.1 (Nat.le_of_ble_eq_true rfl) dX3_carryOut_143 ⟨Nat.le_of_ble_eq_true rfl, Nat.le_of_ble_eq_true rfl⟩ (fun r u H locs hp h => ?_)
  obtain ⟨rfl, rfl⟩ := hp
  refine lv_pop hx hcd dX3_carryOut_146 rfl ?_
  refine lv_goto (tgt := 209) hx hcd dX3_carryOut_147 (by decide) ?_
  exact k_retv hQ G hret hlocks h (rfl) (Nat.le_of_ble_eq_true rfl) (Nat.le_of_ble_eq_true rfl) dX3_carryOut_209
set_option maxHeartbeats 4000000 in
set_option maxRecDepth 100000 in
/-- carryOut(7, a, b) -/
theorem met_carryOut_7 (l : Launch) (V : kEnv) (S : kCs) (B : kBd) (hI : bI B) (a b : Nat) (ha9 : a < 100) (hb9 : b < 100) (hal : alw B 7 a b = true) : kU l yX3_carryOut cX3_carryOut 4 { frames := 4, cells := 0, slots := 0, locals := 87 } V (cWs V) [.ref (eX V 96), .int (nI 7), .int (nI (a)), .int (nI (b))] (setB S 0 B) (fun u => u = setB S 0 (cry B 7 a b)) 0 0 := by
  refine kU_of (by decide +kernel) (Nat.le_of_ble_eq_true rfl) ?_
  intro pg e s m args below meth c G hret hlocks hC hB h ls hl Q hQ
  have hl : lv_has ls 4 [(0, .ref (eX V 96)), (1, .int (nI 7)), (2, .int (nI (a))), (3, .int (nI (b)))] := hl
  have hx := G.1
  have hcd := G.2.1
  have hI0 := hI
  obtain ⟨hz, hbn, hn, hm, h3, h54, h4, h7, hr, he, ha, hact, h5⟩ := hI
  have hal : ((((((decide (B.2 3 ≠ 0) && (decide (a < B.2 0) && (B.2 2).testBit a)) && decide (B.1 1 a ≠ 0)) && decide (asgOf B a = 0)) && decide (b < B.2 1)) && decide (B.1 4 b = 0))) = true := hal
  have g0 : B.2 3 ≠ 0 := of_decide_eq_true (band_l (band_l (band_l (band_l (band_l hal)))))
  have g1 : a < B.2 0 := of_decide_eq_true (band_l (band_r (band_l (band_l (band_l (band_l hal))))))
  have g2 : (B.2 2).testBit a = true := (band_r (band_r (band_l (band_l (band_l (band_l hal))))))
  have g3 : B.1 1 a ≠ 0 := of_decide_eq_true (band_r (band_l (band_l (band_l hal))))
  have g4 : asgOf B a = 0 := of_decide_eq_true (band_r (band_l (band_l hal)))
  have g5 : b < B.2 1 := of_decide_eq_true (band_r (band_l hal))
  have g6 : B.1 4 b = 0 := of_decide_eq_true (band_r hal)
  refine lv_iload_n hx hcd dX3_carryOut_0 rfl (lv_at hl 1 rfl) ?_
  have t_1 : (nI 7 : Int32).toInt = (7 : Int) := (tN (n := 7) (by decide))
  refine lv_tableIn (off := 149) (tgt := 150) hx hcd dX3_carryOut_1 (by rw [t_1]; decide) (by rw [t_1]; decide) (by rw [t_1]; decide) (by decide) ?_
  refine lv_aload_n hx hcd dX3_carryOut_150 rfl (lv_at hl 0 rfl) ?_
  refine va_get (D := eD V) (ci := 7) (v := .ref (eX V (8 * 0))) (C := RX3) (T := TX3) (N := 11) hx hcd G.2.2.2.2 iwX3 G.2.2.2.1 hC.1 h.1 (96 + 0) (cF_at V _ (i := 0) (by decide)) rfl 0 (by decide) (G.2.2.2.2 _ mw_242) (fun y h9 => h9) rfl dX3_carryOut_151 ?_
  refine lv_iload_n hx hcd dX3_carryOut_154 rfl (lv_at hl 2 rfl) ?_
  refine lv_iload_n hx hcd dX3_carryOut_155 rfl (lv_at hl 3 rfl) ?_
  refine k_Vv (As := [.int (nI (a)), .int (nI (b))]) (rest := []) (b := eX V (8 * 0)) G hC hB h (met_X0_putAssignment l V S 0 B (by omega) hz hn hm a (by omega) b (by omega)) mw_1086 kv_X0_putAssignment ⟨rfl, rfl⟩ ⟨Nat.le_of_ble_eq_true rfl, Nat.le_of_ble_eq_true rfl⟩ (r_bV hC h 0 (by omega)) rfl rfl hl.1 (Nat.le_of_ble_eq_true rfl) dX3_carryOut_156 ⟨Nat.le_of_ble_eq_true rfl, Nat.le_of_ble_eq_true rfl⟩ (fun u H locs hp h => ?_)
  obtain rfl := hp
  refine lv_goto (tgt := 209) hx hcd dX3_carryOut_159 (by decide) ?_
  exact k_retv hQ G hret hlocks h (rfl) (Nat.le_of_ble_eq_true rfl) (Nat.le_of_ble_eq_true rfl) dX3_carryOut_209
set_option maxHeartbeats 4000000 in
set_option maxRecDepth 100000 in
/-- carryOut(8, a, b) -/
theorem met_carryOut_8 (l : Launch) (V : kEnv) (S : kCs) (B : kBd) (hI : bI B) (a b : Nat) (ha9 : a < 100) (hb9 : b < 100) (hal : alw B 8 a b = true) : kU l yX3_carryOut cX3_carryOut 4 { frames := 4, cells := 0, slots := 0, locals := 87 } V (cWs V) [.ref (eX V 96), .int (nI 8), .int (nI (a)), .int (nI (b))] (setB S 0 B) (fun u => u = setB S 0 (cry B 8 a b)) 0 0 := by
  refine kU_of (by decide +kernel) (Nat.le_of_ble_eq_true rfl) ?_
  intro pg e s m args below meth c G hret hlocks hC hB h ls hl Q hQ
  have hl : lv_has ls 4 [(0, .ref (eX V 96)), (1, .int (nI 8)), (2, .int (nI (a))), (3, .int (nI (b)))] := hl
  have hx := G.1
  have hcd := G.2.1
  have hI0 := hI
  obtain ⟨hz, hbn, hn, hm, h3, h54, h4, h7, hr, he, ha, hact, h5⟩ := hI
  have hal : ((decide (a < B.2 1) && decide (B.1 4 a ≠ 0))) = true := hal
  have g0 : a < B.2 1 := of_decide_eq_true (band_l hal)
  have g1 : B.1 4 a ≠ 0 := of_decide_eq_true (band_r hal)
  refine lv_iload_n hx hcd dX3_carryOut_0 rfl (lv_at hl 1 rfl) ?_
  have t_1 : (nI 8 : Int32).toInt = (8 : Int) := (tN (n := 8) (by decide))
  refine lv_tableIn (off := 161) (tgt := 162) hx hcd dX3_carryOut_1 (by rw [t_1]; decide) (by rw [t_1]; decide) (by rw [t_1]; decide) (by decide) ?_
  refine lv_aload_n hx hcd dX3_carryOut_162 rfl (lv_at hl 0 rfl) ?_
  refine va_get (D := eD V) (ci := 7) (v := .ref (eX V (8 * 0))) (C := RX3) (T := TX3) (N := 11) hx hcd G.2.2.2.2 iwX3 G.2.2.2.1 hC.1 h.1 (96 + 0) (cF_at V _ (i := 0) (by decide)) rfl 0 (by decide) (G.2.2.2.2 _ mw_242) (fun y h9 => h9) rfl dX3_carryOut_163 ?_
  refine lv_iload_n hx hcd dX3_carryOut_166 rfl (lv_at hl 2 rfl) ?_
  refine k_Vi (As := [.int (nI (a))]) (rest := []) (b := eX V (8 * 0)) G hC hB h (met_X0_removeAssignment l V S 0 B (by omega) hz hm a (by omega)) mw_1101 kv_X0_removeAssignment ⟨rfl, rfl⟩ ⟨Nat.le_of_ble_eq_true rfl, Nat.le_of_ble_eq_true rfl⟩ (r_bV hC h 0 (by omega)) rfl rfl hl.1 (Nat.le_of_ble_eq_true rfl) dX3_carryOut_167 ⟨Nat.le_of_ble_eq_true rfl, Nat.le_of_ble_eq_true rfl⟩ (fun r u H locs hp h => ?_)
  obtain ⟨rfl, rfl⟩ := hp
  refine lv_pop hx hcd dX3_carryOut_170 rfl ?_
  refine lv_goto (tgt := 209) hx hcd dX3_carryOut_171 (by decide) ?_
  exact k_retv hQ G hret hlocks h (rfl) (Nat.le_of_ble_eq_true rfl) (Nat.le_of_ble_eq_true rfl) dX3_carryOut_209
set_option maxHeartbeats 4000000 in
set_option maxRecDepth 100000 in
/-- carryOut(9, a, b) -/
theorem met_carryOut_9 (l : Launch) (V : kEnv) (S : kCs) (B : kBd) (hI : bI B) (a b : Nat) (ha9 : a < 100) (hb9 : b < 100) (hal : alw B 9 a b = true) : kU l yX3_carryOut cX3_carryOut 4 { frames := 4, cells := 0, slots := 0, locals := 87 } V (cWs V) [.ref (eX V 96), .int (nI 9), .int (nI (a)), .int (nI (b))] (setB S 0 B) (fun u => u = setB S 0 (cry B 9 a b)) 0 0 := by
  refine kU_of (by decide +kernel) (Nat.le_of_ble_eq_true rfl) ?_
  intro pg e s m args below meth c G hret hlocks hC hB h ls hl Q hQ
  have hl : lv_has ls 4 [(0, .ref (eX V 96)), (1, .int (nI 9)), (2, .int (nI (a))), (3, .int (nI (b)))] := hl
  have hx := G.1
  have hcd := G.2.1
  have hI0 := hI
  obtain ⟨hz, hbn, hn, hm, h3, h54, h4, h7, hr, he, ha, hact, h5⟩ := hI
  have hal : (((decide (a < B.2 0) && isEst (nI (b) : Int32).toInt) && decide (B.1 1 a ≠ 0))) = true := hal
  have g0 : a < B.2 0 := of_decide_eq_true (band_l (band_l hal))
  have g1 : isEst (nI (b) : Int32).toInt = true := (band_r (band_l hal))
  have g2 : B.1 1 a ≠ 0 := of_decide_eq_true (band_r hal)
  have hra := hr a
  refine lv_iload_n hx hcd dX3_carryOut_0 rfl (lv_at hl 1 rfl) ?_
  have t_1 : (nI 9 : Int32).toInt = (9 : Int) := (tN (n := 9) (by decide))
  refine lv_tableIn (off := 173) (tgt := 174) hx hcd dX3_carryOut_1 (by rw [t_1]; decide) (by rw [t_1]; decide) (by rw [t_1]; decide) (by decide) ?_
  refine lv_aload_n hx hcd dX3_carryOut_174 rfl (lv_at hl 0 rfl) ?_
  refine va_get (D := eD V) (ci := 7) (v := .ref (eX V (8 * 0))) (C := RX3) (T := TX3) (N := 11) hx hcd G.2.2.2.2 iwX3 G.2.2.2.1 hC.1 h.1 (96 + 0) (cF_at V _ (i := 0) (by decide)) rfl 0 (by decide) (G.2.2.2.2 _ mw_242) (fun y h9 => h9) rfl dX3_carryOut_175 ?_
  refine lv_iload_n hx hcd dX3_carryOut_178 rfl (lv_at hl 2 rfl) ?_
  refine lv_iload_n hx hcd dX3_carryOut_179 rfl (lv_at hl 3 rfl) ?_
  refine k_Vi (As := [.int (nI (a)), .int (nI (b))]) (rest := []) (b := eX V (8 * 0)) G hC hB h (met_X0_changeEstimate l V S 0 B (by omega) hz hn hm a b (by first | omega | assumption) (by omega) (by omega)) mw_871 kv_X0_changeEstimate ⟨rfl, rfl⟩ ⟨Nat.le_of_ble_eq_true rfl, Nat.le_of_ble_eq_true rfl⟩ (r_bV hC h 0 (by omega)) rfl rfl hl.1 (Nat.le_of_ble_eq_true rfl) dX3_carryOut_180 ⟨Nat.le_of_ble_eq_true rfl, Nat.le_of_ble_eq_true rfl⟩ (fun r u H locs hp h => ?_)
  obtain ⟨rfl, rfl⟩ := hp
  refine lv_pop hx hcd dX3_carryOut_183 rfl ?_
  refine lv_goto (tgt := 209) hx hcd dX3_carryOut_184 (by decide) ?_
  exact k_retv hQ G hret hlocks h (rfl) (Nat.le_of_ble_eq_true rfl) (Nat.le_of_ble_eq_true rfl) dX3_carryOut_209
set_option maxHeartbeats 4000000 in
set_option maxRecDepth 100000 in
/-- carryOut(10, a, b) -/
theorem met_carryOut_10 (l : Launch) (V : kEnv) (S : kCs) (B : kBd) (hI : bI B) (a b : Nat) (ha9 : a < 100) (hb9 : b < 100) (hal : alw B 10 a b = true) : kU l yX3_carryOut cX3_carryOut 4 { frames := 4, cells := 0, slots := 0, locals := 87 } V (cWs V) [.ref (eX V 96), .int (nI 10), .int (nI (a)), .int (nI (b))] (setB S 0 B) (fun u => u = setB S 0 (cry B 10 a b)) 0 0 := by
  refine kU_of (by decide +kernel) (Nat.le_of_ble_eq_true rfl) ?_
  intro pg e s m args below meth c G hret hlocks hC hB h ls hl Q hQ
  have hl : lv_has ls 4 [(0, .ref (eX V 96)), (1, .int (nI 10)), (2, .int (nI (a))), (3, .int (nI (b)))] := hl
  have hx := G.1
  have hcd := G.2.1
  have hI0 := hI
  obtain ⟨hz, hbn, hn, hm, h3, h54, h4, h7, hr, he, ha, hact, h5⟩ := hI
  have hal : ((decide (B.2 3 ≠ 0) && decide (B.2 5 < B.2 4))) = true := hal
  have g0 : B.2 3 ≠ 0 := of_decide_eq_true (band_l hal)
  have g1 : B.2 5 < B.2 4 := of_decide_eq_true (band_r hal)
  refine lv_iload_n hx hcd dX3_carryOut_0 rfl (lv_at hl 1 rfl) ?_
  have t_1 : (nI 10 : Int32).toInt = (10 : Int) := (tN (n := 10) (by decide))
  refine lv_tableIn (off := 186) (tgt := 187) hx hcd dX3_carryOut_1 (by rw [t_1]; decide) (by rw [t_1]; decide) (by rw [t_1]; decide) (by decide) ?_
  refine lv_aload_n hx hcd dX3_carryOut_187 rfl (lv_at hl 0 rfl) ?_
  refine va_get (D := eD V) (ci := 7) (v := .ref (eX V (8 * 0))) (C := RX3) (T := TX3) (N := 11) hx hcd G.2.2.2.2 iwX3 G.2.2.2.1 hC.1 h.1 (96 + 0) (cF_at V _ (i := 0) (by decide)) rfl 0 (by decide) (G.2.2.2.2 _ mw_242) (fun y h9 => h9) rfl dX3_carryOut_188 ?_
  refine k_Vi (As := []) (rest := []) (b := eX V (8 * 0)) G hC hB h (met_X0_spendDay l V S 0 B (by omega) hz hn (by omega)) mw_1189 kv_X0_spendDay ⟨rfl, rfl⟩ ⟨Nat.le_of_ble_eq_true rfl, Nat.le_of_ble_eq_true rfl⟩ (r_bV hC h 0 (by omega)) rfl rfl hl.1 (Nat.le_of_ble_eq_true rfl) dX3_carryOut_191 ⟨Nat.le_of_ble_eq_true rfl, Nat.le_of_ble_eq_true rfl⟩ (fun r u H locs hp h => ?_)
  obtain ⟨rfl, rfl⟩ := hp
  refine lv_pop hx hcd dX3_carryOut_194 rfl ?_
  refine lv_goto (tgt := 209) hx hcd dX3_carryOut_195 (by decide) ?_
  exact k_retv hQ G hret hlocks h (rfl) (Nat.le_of_ble_eq_true rfl) (Nat.le_of_ble_eq_true rfl) dX3_carryOut_209
set_option maxHeartbeats 4000000 in
set_option maxRecDepth 100000 in
/-- carryOut(11, a, b) -/
theorem met_carryOut_11 (l : Launch) (V : kEnv) (S : kCs) (B : kBd) (hI : bI B) (a b : Nat) (ha9 : a < 100) (hb9 : b < 100) (hal : alw B 11 a b = true) : kU l yX3_carryOut cX3_carryOut 4 { frames := 4, cells := 0, slots := 0, locals := 87 } V (cWs V) [.ref (eX V 96), .int (nI 11), .int (nI (a)), .int (nI (b))] (setB S 0 B) (fun u => u = setB S 0 (cry B 11 a b)) 0 0 := by
  refine kU_of (by decide +kernel) (Nat.le_of_ble_eq_true rfl) ?_
  intro pg e s m args below meth c G hret hlocks hC hB h ls hl Q hQ
  have hl : lv_has ls 4 [(0, .ref (eX V 96)), (1, .int (nI 11)), (2, .int (nI (a))), (3, .int (nI (b)))] := hl
  have hx := G.1
  have hcd := G.2.1
  have hI0 := hI
  obtain ⟨hz, hbn, hn, hm, h3, h54, h4, h7, hr, he, ha, hact, h5⟩ := hI
  have hal : (decide (B.2 3 ≠ 0)) = true := hal
  have g0 : B.2 3 ≠ 0 := of_decide_eq_true hal
  have h79 := hact g0
  refine lv_iload_n hx hcd dX3_carryOut_0 rfl (lv_at hl 1 rfl) ?_
  have t_1 : (nI 11 : Int32).toInt = (11 : Int) := (tN (n := 11) (by decide))
  refine lv_tableIn (off := 197) (tgt := 198) hx hcd dX3_carryOut_1 (by rw [t_1]; decide) (by rw [t_1]; decide) (by rw [t_1]; decide) (by decide) ?_
  refine lv_aload_n hx hcd dX3_carryOut_198 rfl (lv_at hl 0 rfl) ?_
  refine va_get (D := eD V) (ci := 7) (v := .ref (eX V (8 * 0))) (C := RX3) (T := TX3) (N := 11) hx hcd G.2.2.2.2 iwX3 G.2.2.2.1 hC.1 h.1 (96 + 0) (cF_at V _ (i := 0) (by decide)) rfl 0 (by decide) (G.2.2.2.2 _ mw_242) (fun y h9 => h9) rfl dX3_carryOut_199 ?_
  refine k_Vi (As := []) (rest := []) (b := eX V (8 * 0)) G hC hB h (met_X0_closeSprint l V S 0 B (by omega) hz (by assumption)) mw_1201 kv_X0_closeSprint ⟨rfl, rfl⟩ ⟨Nat.le_of_ble_eq_true rfl, Nat.le_of_ble_eq_true rfl⟩ (r_bV hC h 0 (by omega)) rfl rfl hl.1 (Nat.le_of_ble_eq_true rfl) dX3_carryOut_202 ⟨Nat.le_of_ble_eq_true rfl, Nat.le_of_ble_eq_true rfl⟩ (fun r u H locs hp h => ?_)
  obtain ⟨rfl, rfl⟩ := hp
  refine lv_pop hx hcd dX3_carryOut_205 rfl ?_
  refine lv_goto (tgt := 209) hx hcd dX3_carryOut_206 (by decide) ?_
  exact k_retv hQ G hret hlocks h (rfl) (Nat.le_of_ble_eq_true rfl) (Nat.le_of_ble_eq_true rfl) dX3_carryOut_209
theorem met_carryOut (l : Launch) (V : kEnv) (S : kCs) (B : kBd) (hI : bI B) (k : Nat) (hk : k < 12) (a b : Nat) (ha9 : a < 100) (hb9 : b < 100) (hal : alw B k a b = true) : kU l yX3_carryOut cX3_carryOut 4 { frames := 4, cells := 0, slots := 0, locals := 87 } V (cWs V) [.ref (eX V 96), .int (nI k), .int (nI a), .int (nI b)] (setB S 0 B) (fun u => u = setB S 0 (cry B k a b)) 0 0 := by
  match k, hk, hal with
  | 0, _, hal => exact met_carryOut_0 l V S B hI a b ha9 hb9 hal
  | 1, _, hal => exact met_carryOut_1 l V S B hI a b ha9 hb9 hal
  | 2, _, hal => exact met_carryOut_2 l V S B hI a b ha9 hb9 hal
  | 3, _, hal => exact met_carryOut_3 l V S B hI a b ha9 hb9 hal
  | 4, _, hal => exact met_carryOut_4 l V S B hI a b ha9 hb9 hal
  | 5, _, hal => exact met_carryOut_5 l V S B hI a b ha9 hb9 hal
  | 6, _, hal => exact met_carryOut_6 l V S B hI a b ha9 hb9 hal
  | 7, _, hal => exact met_carryOut_7 l V S B hI a b ha9 hb9 hal
  | 8, _, hal => exact met_carryOut_8 l V S B hI a b ha9 hb9 hal
  | 9, _, hal => exact met_carryOut_9 l V S B hI a b ha9 hb9 hal
  | 10, _, hal => exact met_carryOut_10 l V S B hI a b ha9 hb9 hal
  | 11, _, hal => exact met_carryOut_11 l V S B hI a b ha9 hb9 hal
theorem bI_cry {B : kBd} (hI : bI B) {k a b : Nat} (hk : k < 12) (ha9 : a < 100) (hb9 : b < 100) (hal : alw B k a b = true) : bI (cry B k a b) := by
  have hI0 := hI
  obtain ⟨hz, hbn, hn, hm, h3, h54, h4, h7, hr, he, ha, hact, h5⟩ := hI
  match k, hk, hal with
  | 0, _, hal =>
    have hal : ((isEst (nI (a) : Int32).toInt && decide (B.2 0 < 16))) = true := hal
    have g0 : isEst (nI (a) : Int32).toInt = true := (band_l hal)
    have g1 : B.2 0 < 16 := of_decide_eq_true (band_r hal)
    exact bI_add hI0 (by have := isEst_ex g0; obtain ⟨q, e, -, h9⟩ := this; have := congrArg Int32.toInt e; rw [nI_toInt (by omega), nI_toInt (by omega)] at this; omega) g1
  | 1, _, hal =>
    have hal : ((decide (1 ≤ (nI (a) : Int32).toInt ∧ (nI (a) : Int32).toInt ≤ 4) && decide (B.2 1 < 4))) = true := hal
    have g0 : 1 ≤ (nI (a) : Int32).toInt ∧ (nI (a) : Int32).toInt ≤ 4 := of_decide_eq_true (band_l hal)
    have g1 : B.2 1 < 4 := of_decide_eq_true (band_r hal)
    exact bI_dev hI0 (by have := g0; rw [nI_toInt (by omega)] at this; omega) g1
  | 2, _, hal =>
    have hal : ((((((decide (a < B.2 0) && decide (b < B.2 0)) && decide (a ≠ b)) && !(B.1 2 a).testBit b) && decide (B.1 1 a ≠ 0)) && !fnd B b a)) = true := hal
    have g0 : a < B.2 0 := of_decide_eq_true (band_l (band_l (band_l (band_l (band_l hal)))))
    have g1 : b < B.2 0 := of_decide_eq_true (band_r (band_l (band_l (band_l (band_l hal)))))
    have g2 : a ≠ b := of_decide_eq_true (band_r (band_l (band_l (band_l hal))))
    have g3 : (B.1 2 a).testBit b = false := nb_i (band_r (band_l (band_l hal)))
    have g4 : B.1 1 a ≠ 0 := of_decide_eq_true (band_r (band_l hal))
    have g5 : fnd B b a = false := nb_i (band_r hal)
    exact bI_row hI0 (Or.inl rfl) (by show a < 16; omega) (or16 (hz.1 _ _) (p16 (by omega)))
  | 3, _, hal =>
    have hal : (((decide (a < B.2 0) && decide (b < B.2 0)) && (B.1 2 a).testBit b)) = true := hal
    have g0 : a < B.2 0 := of_decide_eq_true (band_l (band_l hal))
    have g1 : b < B.2 0 := of_decide_eq_true (band_r (band_l hal))
    have g2 : (B.1 2 a).testBit b = true := (band_r hal)
    exact bI_row hI0 (Or.inl rfl) (by show a < 16; omega) (andn_lt (hz.1 _ _))
  | 4, _, hal =>
    have hal : (((decide (a < B.2 0) && !(B.2 2).testBit a) && decide (B.1 1 a ≠ 0))) = true := hal
    have g0 : a < B.2 0 := of_decide_eq_true (band_l (band_l hal))
    have g1 : (B.2 2).testBit a = false := nb_i (band_r (band_l hal))
    have g2 : B.1 1 a ≠ 0 := of_decide_eq_true (band_r hal)
    exact bI_pl hI0 (or16 (hz.2 2) (p16 (by omega)))
  | 5, _, hal =>
    have hal : (((decide (a < B.2 0) && (B.2 2).testBit a) && decide (asgOf B a = 0))) = true := hal
    have g0 : a < B.2 0 := of_decide_eq_true (band_l (band_l hal))
    have g1 : (B.2 2).testBit a = true := (band_r (band_l hal))
    have g2 : asgOf B a = 0 := of_decide_eq_true (band_r hal)
    exact bI_pl hI0 (andn_lt (hz.2 2))
  | 6, _, hal =>
    have hal : (((decide (1 ≤ (nI (a) : Int32).toInt ∧ (nI (a) : Int32).toInt ≤ 10) && decide (B.2 3 = 0)) && decide (B.2 7 < 9))) = true := hal
    have g0 : 1 ≤ (nI (a) : Int32).toInt ∧ (nI (a) : Int32).toInt ≤ 10 := of_decide_eq_true (band_l (band_l hal))
    have g1 : B.2 3 = 0 := of_decide_eq_true (band_r (band_l hal))
    have g2 : B.2 7 < 9 := of_decide_eq_true (band_r hal)
    exact bI_beg hI0 (by have := g0; rw [nI_toInt (by omega)] at this; omega) g2
  | 7, _, hal =>
    have hal : ((((((decide (B.2 3 ≠ 0) && (decide (a < B.2 0) && (B.2 2).testBit a)) && decide (B.1 1 a ≠ 0)) && decide (asgOf B a = 0)) && decide (b < B.2 1)) && decide (B.1 4 b = 0))) = true := hal
    have g0 : B.2 3 ≠ 0 := of_decide_eq_true (band_l (band_l (band_l (band_l (band_l hal)))))
    have g1 : a < B.2 0 := of_decide_eq_true (band_l (band_r (band_l (band_l (band_l (band_l hal))))))
    have g2 : (B.2 2).testBit a = true := (band_r (band_r (band_l (band_l (band_l (band_l hal))))))
    have g3 : B.1 1 a ≠ 0 := of_decide_eq_true (band_r (band_l (band_l (band_l hal))))
    have g4 : asgOf B a = 0 := of_decide_eq_true (band_r (band_l (band_l hal)))
    have g5 : b < B.2 1 := of_decide_eq_true (band_r (band_l hal))
    have g6 : B.1 4 b = 0 := of_decide_eq_true (band_r hal)
    exact bI_asg hI0 (by omega) (by omega)
  | 8, _, hal =>
    have hal : ((decide (a < B.2 1) && decide (B.1 4 a ≠ 0))) = true := hal
    have g0 : a < B.2 1 := of_decide_eq_true (band_l hal)
    have g1 : B.1 4 a ≠ 0 := of_decide_eq_true (band_r hal)
    exact bI_asg hI0 (by omega) (Nat.zero_le _)
  | 9, _, hal =>
    have hal : (((decide (a < B.2 0) && isEst (nI (b) : Int32).toInt) && decide (B.1 1 a ≠ 0))) = true := hal
    have g0 : a < B.2 0 := of_decide_eq_true (band_l (band_l hal))
    have g1 : isEst (nI (b) : Int32).toInt = true := (band_r (band_l hal))
    have g2 : B.1 1 a ≠ 0 := of_decide_eq_true (band_r hal)
    exact bI_re hI0 g0 (by have := isEst_ex g1; obtain ⟨q, e, -, h9⟩ := this; have := congrArg Int32.toInt e; rw [nI_toInt (by omega), nI_toInt (by omega)] at this; omega)
  | 10, _, hal =>
    have hal : ((decide (B.2 3 ≠ 0) && decide (B.2 5 < B.2 4))) = true := hal
    have g0 : B.2 3 ≠ 0 := of_decide_eq_true (band_l hal)
    have g1 : B.2 5 < B.2 4 := of_decide_eq_true (band_r hal)
    exact bI_day hI0 g1
  | 11, _, hal =>
    have hal : (decide (B.2 3 ≠ 0)) = true := hal
    have g0 : B.2 3 ≠ 0 := of_decide_eq_true hal
    exact bI_end hI0 (hact g0)

