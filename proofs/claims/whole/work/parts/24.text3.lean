theorem kv_J4_append_cf468 : kV yJ4_append_cf468 cJ4_append_cf468 2 (some (.object "java/lang/StringBuilder")) 1 := ⟨mw_679, mw_680, mw_61, mw_681, by decide, by decide, by decide +kernel⟩
theorem kv_J4_setLength_d00df : kV yJ4_setLength_d00df cJ4_setLength_d00df 2 none 1 := ⟨mw_328, mw_329, mw_61, mw_330, by decide, by decide, by decide +kernel⟩
theorem ks_X1_formOf : kSt yX1_formOf cX1_formOf 1 (some (.object "java/lang/String")) 1 := ⟨mw_1368, mw_59, mw_1369, by decide, by decide, by decide +kernel⟩
theorem kv_X1_readCommand : kV yX1_readCommand cX1_readCommand 5 (some .boolean) 1 := ⟨mw_1365, mw_12, mw_59, mw_1366, by decide, by decide, by decide +kernel⟩
theorem kv_X1_readForm : kV yX1_readForm cX1_readForm 7 (some .boolean) 2 := ⟨mw_1384, mw_13, mw_59, mw_1385, by decide, by decide, by decide +kernel⟩
theorem kv_X1_readText : kV yX1_readText cX1_readText 2 (some .int) 0 := ⟨mw_1356, mw_10, mw_59, mw_1357, by decide, by decide, by decide +kernel⟩
set_option maxHeartbeats 4000000 in
set_option maxRecDepth 100000 in
/-- formOf(0) -/
theorem met_X1_formOf_0 (l : Launch) (V : kEnv) (S : kCs) : kR l yX1_formOf cX1_formOf 1 (some (.object "java/lang/String")) { frames := 0, cells := 0, slots := 0, locals := 0 } V (cWs V) [.int (nI 0)] (S) (fun u => u = S) (eX V (200 + 0)) 0 0 := by
  refine kR_of (by decide +kernel) (Nat.le_of_ble_eq_true rfl) ?_
  intro pg e s m args below meth c G hret hlocks hC hB h ls hl Q hQ
  have hl : lv_has ls 1 [(0, .int (nI 0))] := hl
  have hx := G.1
  have hcd := G.2.1
  refine lv_iload_n hx hcd dX1_formOf_0 rfl (lv_at hl 0 rfl) ?_
  have t_1 : (nI 0 : Int32).toInt = (0 : Int) := (tN (n := 0) (by decide))
  refine lv_tableIn (off := 59) (tgt := 60) hx hcd dX1_formOf_1 (by rw [t_1]; decide) (by rw [t_1]; decide) (by rw [t_1]; decide) (by decide) ?_
  refine r_ldcS G hC 0 rfl dX1_formOf_60 ?_
  exact k_reta hQ G hret hlocks h (rfl) (Nat.le_of_ble_eq_true rfl) (Nat.le_of_ble_eq_true rfl) dX1_formOf_62
set_option maxHeartbeats 4000000 in
set_option maxRecDepth 100000 in
/-- formOf(1) -/
theorem met_X1_formOf_1 (l : Launch) (V : kEnv) (S : kCs) : kR l yX1_formOf cX1_formOf 1 (some (.object "java/lang/String")) { frames := 0, cells := 0, slots := 0, locals := 0 } V (cWs V) [.int (nI 1)] (S) (fun u => u = S) (eX V (200 + 1)) 0 0 := by
  refine kR_of (by decide +kernel) (Nat.le_of_ble_eq_true rfl) ?_
  intro pg e s m args below meth c G hret hlocks hC hB h ls hl Q hQ
  have hl : lv_has ls 1 [(0, .int (nI 1))] := hl
  have hx := G.1
  have hcd := G.2.1
  refine lv_iload_n hx hcd dX1_formOf_0 rfl (lv_at hl 0 rfl) ?_
  have t_1 : (nI 1 : Int32).toInt = (1 : Int) := (tN (n := 1) (by decide))
  refine lv_tableIn (off := 62) (tgt := 63) hx hcd dX1_formOf_1 (by rw [t_1]; decide) (by rw [t_1]; decide) (by rw [t_1]; decide) (by decide) ?_
  refine r_ldcS G hC 1 rfl dX1_formOf_63 ?_
  exact k_reta hQ G hret hlocks h (rfl) (Nat.le_of_ble_eq_true rfl) (Nat.le_of_ble_eq_true rfl) dX1_formOf_65
set_option maxHeartbeats 4000000 in
set_option maxRecDepth 100000 in
/-- formOf(2) -/
theorem met_X1_formOf_2 (l : Launch) (V : kEnv) (S : kCs) : kR l yX1_formOf cX1_formOf 1 (some (.object "java/lang/String")) { frames := 0, cells := 0, slots := 0, locals := 0 } V (cWs V) [.int (nI 2)] (S) (fun u => u = S) (eX V (200 + 2)) 0 0 := by
  refine kR_of (by decide +kernel) (Nat.le_of_ble_eq_true rfl) ?_
  intro pg e s m args below meth c G hret hlocks hC hB h ls hl Q hQ
  have hl : lv_has ls 1 [(0, .int (nI 2))] := hl
  have hx := G.1
  have hcd := G.2.1
  refine lv_iload_n hx hcd dX1_formOf_0 rfl (lv_at hl 0 rfl) ?_
  have t_1 : (nI 2 : Int32).toInt = (2 : Int) := (tN (n := 2) (by decide))
  refine lv_tableIn (off := 65) (tgt := 66) hx hcd dX1_formOf_1 (by rw [t_1]; decide) (by rw [t_1]; decide) (by rw [t_1]; decide) (by decide) ?_
  refine r_ldcS G hC 2 rfl dX1_formOf_66 ?_
  exact k_reta hQ G hret hlocks h (rfl) (Nat.le_of_ble_eq_true rfl) (Nat.le_of_ble_eq_true rfl) dX1_formOf_68
set_option maxHeartbeats 4000000 in
set_option maxRecDepth 100000 in
/-- formOf(3) -/
theorem met_X1_formOf_3 (l : Launch) (V : kEnv) (S : kCs) : kR l yX1_formOf cX1_formOf 1 (some (.object "java/lang/String")) { frames := 0, cells := 0, slots := 0, locals := 0 } V (cWs V) [.int (nI 3)] (S) (fun u => u = S) (eX V (200 + 3)) 0 0 := by
  refine kR_of (by decide +kernel) (Nat.le_of_ble_eq_true rfl) ?_
  intro pg e s m args below meth c G hret hlocks hC hB h ls hl Q hQ
  have hl : lv_has ls 1 [(0, .int (nI 3))] := hl
  have hx := G.1
  have hcd := G.2.1
  refine lv_iload_n hx hcd dX1_formOf_0 rfl (lv_at hl 0 rfl) ?_
  have t_1 : (nI 3 : Int32).toInt = (3 : Int) := (tN (n := 3) (by decide))
  refine lv_tableIn (off := 68) (tgt := 69) hx hcd dX1_formOf_1 (by rw [t_1]; decide) (by rw [t_1]; decide) (by rw [t_1]; decide) (by decide) ?_
  refine r_ldcS G hC 3 rfl dX1_formOf_69 ?_
  exact k_reta hQ G hret hlocks h (rfl) (Nat.le_of_ble_eq_true rfl) (Nat.le_of_ble_eq_true rfl) dX1_formOf_71
set_option maxHeartbeats 4000000 in
set_option maxRecDepth 100000 in
/-- formOf(4) -/
theorem met_X1_formOf_4 (l : Launch) (V : kEnv) (S : kCs) : kR l yX1_formOf cX1_formOf 1 (some (.object "java/lang/String")) { frames := 0, cells := 0, slots := 0, locals := 0 } V (cWs V) [.int (nI 4)] (S) (fun u => u = S) (eX V (200 + 4)) 0 0 := by
  refine kR_of (by decide +kernel) (Nat.le_of_ble_eq_true rfl) ?_
  intro pg e s m args below meth c G hret hlocks hC hB h ls hl Q hQ
  have hl : lv_has ls 1 [(0, .int (nI 4))] := hl
  have hx := G.1
  have hcd := G.2.1
  refine lv_iload_n hx hcd dX1_formOf_0 rfl (lv_at hl 0 rfl) ?_
  have t_1 : (nI 4 : Int32).toInt = (4 : Int) := (tN (n := 4) (by decide))
  refine lv_tableIn (off := 71) (tgt := 72) hx hcd dX1_formOf_1 (by rw [t_1]; decide) (by rw [t_1]; decide) (by rw [t_1]; decide) (by decide) ?_
  refine r_ldcS G hC 4 rfl dX1_formOf_72 ?_
  exact k_reta hQ G hret hlocks h (rfl) (Nat.le_of_ble_eq_true rfl) (Nat.le_of_ble_eq_true rfl) dX1_formOf_74
set_option maxHeartbeats 4000000 in
set_option maxRecDepth 100000 in
/-- formOf(5) -/
theorem met_X1_formOf_5 (l : Launch) (V : kEnv) (S : kCs) : kR l yX1_formOf cX1_formOf 1 (some (.object "java/lang/String")) { frames := 0, cells := 0, slots := 0, locals := 0 } V (cWs V) [.int (nI 5)] (S) (fun u => u = S) (eX V (200 + 5)) 0 0 := by
  refine kR_of (by decide +kernel) (Nat.le_of_ble_eq_true rfl) ?_
  intro pg e s m args below meth c G hret hlocks hC hB h ls hl Q hQ
  have hl : lv_has ls 1 [(0, .int (nI 5))] := hl
  have hx := G.1
  have hcd := G.2.1
  refine lv_iload_n hx hcd dX1_formOf_0 rfl (lv_at hl 0 rfl) ?_
  have t_1 : (nI 5 : Int32).toInt = (5 : Int) := (tN (n := 5) (by decide))
  refine lv_tableIn (off := 74) (tgt := 75) hx hcd dX1_formOf_1 (by rw [t_1]; decide) (by rw [t_1]; decide) (by rw [t_1]; decide) (by decide) ?_
  refine r_ldcS G hC 5 rfl dX1_formOf_75 ?_
  exact k_reta hQ G hret hlocks h (rfl) (Nat.le_of_ble_eq_true rfl) (Nat.le_of_ble_eq_true rfl) dX1_formOf_77
set_option maxHeartbeats 4000000 in
set_option maxRecDepth 100000 in
/-- formOf(6) -/
theorem met_X1_formOf_6 (l : Launch) (V : kEnv) (S : kCs) : kR l yX1_formOf cX1_formOf 1 (some (.object "java/lang/String")) { frames := 0, cells := 0, slots := 0, locals := 0 } V (cWs V) [.int (nI 6)] (S) (fun u => u = S) (eX V (200 + 6)) 0 0 := by
  refine kR_of (by decide +kernel) (Nat.le_of_ble_eq_true rfl) ?_
  intro pg e s m args below meth c G hret hlocks hC hB h ls hl Q hQ
  have hl : lv_has ls 1 [(0, .int (nI 6))] := hl
  have hx := G.1
  have hcd := G.2.1
  refine lv_iload_n hx hcd dX1_formOf_0 rfl (lv_at hl 0 rfl) ?_
  have t_1 : (nI 6 : Int32).toInt = (6 : Int) := (tN (n := 6) (by decide))
  refine lv_tableIn (off := 77) (tgt := 78) hx hcd dX1_formOf_1 (by rw [t_1]; decide) (by rw [t_1]; decide) (by rw [t_1]; decide) (by decide) ?_
  refine r_ldcS G hC 6 rfl dX1_formOf_78 ?_
  exact k_reta hQ G hret hlocks h (rfl) (Nat.le_of_ble_eq_true rfl) (Nat.le_of_ble_eq_true rfl) dX1_formOf_80
set_option maxHeartbeats 4000000 in
set_option maxRecDepth 100000 in
/-- formOf(7) -/
theorem met_X1_formOf_7 (l : Launch) (V : kEnv) (S : kCs) : kR l yX1_formOf cX1_formOf 1 (some (.object "java/lang/String")) { frames := 0, cells := 0, slots := 0, locals := 0 } V (cWs V) [.int (nI 7)] (S) (fun u => u = S) (eX V (200 + 7)) 0 0 := by
  refine kR_of (by decide +kernel) (Nat.le_of_ble_eq_true rfl) ?_
  intro pg e s m args below meth c G hret hlocks hC hB h ls hl Q hQ
  have hl : lv_has ls 1 [(0, .int (nI 7))] := hl
  have hx := G.1
  have hcd := G.2.1
  refine lv_iload_n hx hcd dX1_formOf_0 rfl (lv_at hl 0 rfl) ?_
  have t_1 : (nI 7 : Int32).toInt = (7 : Int) := (tN (n := 7) (by decide))
  refine lv_tableIn (off := 80) (tgt := 81) hx hcd dX1_formOf_1 (by rw [t_1]; decide) (by rw [t_1]; decide) (by rw [t_1]; decide) (by decide) ?_
  refine r_ldcS G hC 7 rfl dX1_formOf_81 ?_
  exact k_reta hQ G hret hlocks h (rfl) (Nat.le_of_ble_eq_true rfl) (Nat.le_of_ble_eq_true rfl) dX1_formOf_83
set_option maxHeartbeats 4000000 in
set_option maxRecDepth 100000 in
/-- formOf(8) -/
theorem met_X1_formOf_8 (l : Launch) (V : kEnv) (S : kCs) : kR l yX1_formOf cX1_formOf 1 (some (.object "java/lang/String")) { frames := 0, cells := 0, slots := 0, locals := 0 } V (cWs V) [.int (nI 8)] (S) (fun u => u = S) (eX V (200 + 8)) 0 0 := by
  refine kR_of (by decide +kernel) (Nat.le_of_ble_eq_true rfl) ?_
  intro pg e s m args below meth c G hret hlocks hC hB h ls hl Q hQ
  have hl : lv_has ls 1 [(0, .int (nI 8))] := hl
  have hx := G.1
  have hcd := G.2.1
  refine lv_iload_n hx hcd dX1_formOf_0 rfl (lv_at hl 0 rfl) ?_
  have t_1 : (nI 8 : Int32).toInt = (8 : Int) := (tN (n := 8) (by decide))
  refine lv_tableIn (off := 83) (tgt := 84) hx hcd dX1_formOf_1 (by rw [t_1]; decide) (by rw [t_1]; decide) (by rw [t_1]; decide) (by decide) ?_
  refine r_ldcS G hC 8 rfl dX1_formOf_84 ?_
  exact k_reta hQ G hret hlocks h (rfl) (Nat.le_of_ble_eq_true rfl) (Nat.le_of_ble_eq_true rfl) dX1_formOf_86
set_option maxHeartbeats 4000000 in
set_option maxRecDepth 100000 in
/-- formOf(9) -/
theorem met_X1_formOf_9 (l : Launch) (V : kEnv) (S : kCs) : kR l yX1_formOf cX1_formOf 1 (some (.object "java/lang/String")) { frames := 0, cells := 0, slots := 0, locals := 0 } V (cWs V) [.int (nI 9)] (S) (fun u => u = S) (eX V (200 + 9)) 0 0 := by
  refine kR_of (by decide +kernel) (Nat.le_of_ble_eq_true rfl) ?_
  intro pg e s m args below meth c G hret hlocks hC hB h ls hl Q hQ
  have hl : lv_has ls 1 [(0, .int (nI 9))] := hl
  have hx := G.1
  have hcd := G.2.1
  refine lv_iload_n hx hcd dX1_formOf_0 rfl (lv_at hl 0 rfl) ?_
  have t_1 : (nI 9 : Int32).toInt = (9 : Int) := (tN (n := 9) (by decide))
  refine lv_tableIn (off := 86) (tgt := 87) hx hcd dX1_formOf_1 (by rw [t_1]; decide) (by rw [t_1]; decide) (by rw [t_1]; decide) (by decide) ?_
  refine r_ldcS G hC 9 rfl dX1_formOf_87 ?_
  exact k_reta hQ G hret hlocks h (rfl) (Nat.le_of_ble_eq_true rfl) (Nat.le_of_ble_eq_true rfl) dX1_formOf_89
set_option maxHeartbeats 4000000 in
set_option maxRecDepth 100000 in
/-- formOf(10) -/
theorem met_X1_formOf_10 (l : Launch) (V : kEnv) (S : kCs) : kR l yX1_formOf cX1_formOf 1 (some (.object "java/lang/String")) { frames := 0, cells := 0, slots := 0, locals := 0 } V (cWs V) [.int (nI 10)] (S) (fun u => u = S) (eX V (200 + 10)) 0 0 := by
  refine kR_of (by decide +kernel) (Nat.le_of_ble_eq_true rfl) ?_
  intro pg e s m args below meth c G hret hlocks hC hB h ls hl Q hQ
  have hl : lv_has ls 1 [(0, .int (nI 10))] := hl
  have hx := G.1
  have hcd := G.2.1
  refine lv_iload_n hx hcd dX1_formOf_0 rfl (lv_at hl 0 rfl) ?_
  have t_1 : (nI 10 : Int32).toInt = (10 : Int) := (tN (n := 10) (by decide))
  refine lv_tableIn (off := 89) (tgt := 90) hx hcd dX1_formOf_1 (by rw [t_1]; decide) (by rw [t_1]; decide) (by rw [t_1]; decide) (by decide) ?_
  refine r_ldcS G hC 10 rfl dX1_formOf_90 ?_
  exact k_reta hQ G hret hlocks h (rfl) (Nat.le_of_ble_eq_true rfl) (Nat.le_of_ble_eq_true rfl) dX1_formOf_92
set_option maxHeartbeats 4000000 in
set_option maxRecDepth 100000 in
/-- formOf(11) -/
theorem met_X1_formOf_11 (l : Launch) (V : kEnv) (S : kCs) : kR l yX1_formOf cX1_formOf 1 (some (.object "java/lang/String")) { frames := 0, cells := 0, slots := 0, locals := 0 } V (cWs V) [.int (nI 11)] (S) (fun u => u = S) (eX V (200 + 11)) 0 0 := by
  refine kR_of (by decide +kernel) (Nat.le_of_ble_eq_true rfl) ?_
  intro pg e s m args below meth c G hret hlocks hC hB h ls hl Q hQ
  have hl : lv_has ls 1 [(0, .int (nI 11))] := hl
  have hx := G.1
  have hcd := G.2.1
  refine lv_iload_n hx hcd dX1_formOf_0 rfl (lv_at hl 0 rfl) ?_
  have t_1 : (nI 11 : Int32).toInt = (11 : Int) := (tN (n := 11) (by decide))
  refine lv_tableOut (tgt := 93) hx hcd dX1_formOf_1 (by rw [t_1]; decide) (by decide) ?_
  refine r_ldcS G hC 11 rfl dX1_formOf_93 ?_
  exact k_reta hQ G hret hlocks h (rfl) (Nat.le_of_ble_eq_true rfl) (Nat.le_of_ble_eq_true rfl) dX1_formOf_95
theorem met_X1_formOf (l : Launch) (V : kEnv) (S : kCs) (k : Nat) (hk : k < 12) : kR l yX1_formOf cX1_formOf 1 (some (.object "java/lang/String")) { frames := 0, cells := 0, slots := 0, locals := 0 } V (cWs V) [.int (nI k)] S (fun u => u = S) (eX V (200 + k)) 0 0 := by
  match k, hk with
  | 0, _ => exact met_X1_formOf_0 l V S
  | 1, _ => exact met_X1_formOf_1 l V S
  | 2, _ => exact met_X1_formOf_2 l V S
  | 3, _ => exact met_X1_formOf_3 l V S
  | 4, _ => exact met_X1_formOf_4 l V S
  | 5, _ => exact met_X1_formOf_5 l V S
  | 6, _ => exact met_X1_formOf_6 l V S
  | 7, _ => exact met_X1_formOf_7 l V S
  | 8, _ => exact met_X1_formOf_8 l V S
  | 9, _ => exact met_X1_formOf_9 l V S
  | 10, _ => exact met_X1_formOf_10 l V S
  | 11, _ => exact met_X1_formOf_11 l V S
set_option maxHeartbeats 4000000 in
set_option maxRecDepth 100000 in
/-- readCommand(idx) -/
theorem met_X1_readCommand (l : Launch) (V : kEnv) (S : kCs) (p cm : Nat) (K F Z : Nat → Int32) (L : List Nat) (hR : sbR (S.2.2.2 1) L) (hp : p ≤ L.length) (hL : L.length ≤ 60) (idx : Nat) (hidx : idx < 60) : kI l yX1_readCommand cX1_readCommand 5 (some .boolean) { frames := 7, cells := 0, slots := 0, locals := 158 } V (cWs V) [.ref (eX V 99), .int (nI (idx))] (xW S p cm K F Z) (fun r u => ((rdC L idx p 12 0 p F Z).1 ≠ 0 ∧ r = nI 1 ∧ u = xW S (rdC L idx p 12 0 p F Z).2.1 cm (upd K idx (nI ((rdC L idx p 12 0 p F Z).1 - 1))) (rdC L idx p 12 0 p F Z).2.2.1 (rdC L idx p 12 0 p F Z).2.2.2) ∨ ((rdC L idx p 12 0 p F Z).1 = 0 ∧ r = nI 0 ∧ u = xW S (rdC L idx p 12 0 p F Z).2.1 cm K (rdC L idx p 12 0 p F Z).2.2.1 (rdC L idx p 12 0 p F Z).2.2.2)) 0 0 := by
  refine kI_of (by decide +kernel) (Nat.le_of_ble_eq_true rfl) ?_
  intro pg e s m args below meth c G hret hlocks hC hB h ls hl Q hQ
  have hl : lv_has ls 5 [(0, .ref (eX V 99)), (1, .int (nI (idx)))] := hl
  have hx := G.1
  have hcd := G.2.1
  have hp0 := hp
  refine lv_aload_n hx hcd dX1_readCommand_0 rfl (lv_at hl 0 rfl) ?_
  refine va_get (D := eD V) (ci := 5) (v := .int (nI (p))) (C := RX1) (T := TX1) (N := 6) hx hcd G.2.2.2.2 iwX1 G.2.2.2.1 hC.1 h.1 (96 + 3) (cF_at V _ (i := 3) (by decide)) rfl 5 (by decide) (G.2.2.2.2 _ mw_226) (fun y h9 => h9) rfl dX1_readCommand_1 ?_
  refine lv_istore_n (lv' := [(2, .int (nI (p))), (0, .ref (eX V 99)), (1, .int (nI (idx)))]) hx hcd dX1_readCommand_4 rfl hl (by decide) rfl (fun ls hl => ?_)
  refine lv_iload_n hx hcd dX1_readCommand_5 rfl (lv_at hl 0 rfl) ?_
  refine lv_istore_n (lv' := [(3, .int (nI (p))), (2, .int (nI (p))), (0, .ref (eX V 99)), (1, .int (nI (idx)))]) hx hcd dX1_readCommand_6 rfl hl (by decide) rfl (fun ls hl => ?_)
  refine lv_iconst (v := nI 0) hx hcd dX1_readCommand_7 (by decide) ?_
  refine lv_istore (lv' := [(4, .int (nI 0)), (3, .int (nI (p))), (2, .int (nI (p))), (0, .ref (eX V 99)), (1, .int (nI (idx)))]) hx hcd dX1_readCommand_8 hl (by decide) rfl (fun ls hl => ?_)
  have L_1 : ∀ (fu_3 : Nat) (kd : Nat) (fur : Nat) (q : Nat) (F9 : Nat → Int32) (Z9 : Nat → Int32) (hkd : kd ≤ 12) (hfur : fur ≤ L.length) (hC9 : rdC L idx p 12 0 p F Z = rdC L idx p (12 - kd) kd fur F9 Z9), 13 - kd < fu_3 → ∀ (H : Heap) (locs : List Loc), cH V s H locs (cWs V (xW S q cm K F9 Z9)) → ∀ ls : Array Slot, lv_has ls 5 [(4, .int (nI (kd))), (3, .int (nI (fur))), (0, .ref (eX V 99)), (1, .int (nI (idx))), (2, .int (nI (p)))] → W pg l e { frames := 7, cells := 0, slots := 0, locals := 158 } s m args below meth c H locs 0 0 Q (F0 m 10 ls []) := by
    intro fu_3
    induction fu_3 with
    | zero => intro kd fur q F9 Z9 hkd hfur hC9 hm; exact absurd hm (Nat.not_lt_zero _)
    | succ fu_3 ih_2 =>
      intro kd fur q F9 Z9 hkd hfur hC9 hm H locs h ls hl
      refine lv_iload hx hcd dX1_readCommand_10 (lv_at hl 0 rfl) ?_
      refine lv_bipush (v := nI 12) hx hcd dX1_readCommand_12 (by decide) ?_
      refine lv_icmp_ge (tgt := 60) hx hcd dX1_readCommand_14 (by decide) (fun c_4 => ?_) (fun c_4 => ?_)
      · have c_4 := cLe (tN (n := 12) (by decide)) (tN (n := kd) (by omega)) c_4
        refine lv_aload_n hx hcd dX1_readCommand_60 rfl (lv_at hl 2 rfl) ?_
        refine lv_iload_n hx hcd dX1_readCommand_61 rfl (lv_at hl 1 rfl) ?_
        refine r_tP G hC h 6 (by decide) mw_226 (xW_p _ _ _ _ _ _ _) dX1_readCommand_62 (fun H locs h => ?_)
        refine lv_iconst (v := nI 0) hx hcd dX1_readCommand_65 (by decide) ?_
        exact k_retz hQ G hret hlocks h (Or.inl rfl) (by rw [hC9, show 12 - kd = 0 by omega]; exact Or.inr ⟨rfl, rfl, rfl⟩) (Nat.le_of_ble_eq_true rfl) (Nat.le_of_ble_eq_true rfl) dX1_readCommand_66
      · have c_4 := cNle (tN (n := 12) (by decide)) (tN (n := kd) (by omega)) c_4
        refine lv_aload_n hx hcd dX1_readCommand_17 rfl (lv_at hl 2 rfl) ?_
        refine lv_iload_n hx hcd dX1_readCommand_18 rfl (lv_at hl 4 rfl) ?_
        refine r_tP G hC h 6 (by decide) mw_226 (xW_p _ _ _ _ _ _ _) dX1_readCommand_19 (fun H locs h => ?_)
        refine lv_aload_n hx hcd dX1_readCommand_22 rfl (lv_at hl 2 rfl) ?_
        refine lv_iload hx hcd dX1_readCommand_23 (lv_at hl 0 rfl) ?_
        refine k_Sr (As := [.int (nI (kd))]) (rest := [.ref (eX V 99)]) G hC hB h (met_X1_formOf l V (xW S p cm K F9 Z9) kd (by omega)) mw_1367 ks_X1_formOf ⟨rfl, rfl⟩ ⟨Nat.le_of_ble_eq_true rfl, Nat.le_of_ble_eq_true rfl⟩ rfl rfl hl.1 (Nat.le_of_ble_eq_true rfl) dX1_readCommand_25 ⟨Nat.le_of_ble_eq_true rfl, Nat.le_of_ble_eq_true rfl⟩ (fun u H locs hp h => ?_)
        have hu := hp; rw [hu] at h
        refine lv_iload_n hx hcd dX1_readCommand_28 rfl (lv_at hl 3 rfl) ?_
        have hle := rdF_le L idx (kLs kd) p 0 F9 Z9 hp0
        refine k_Vi (As := [.ref (eX V (200 + kd)), .int (nI (idx))]) (rest := []) (b := eX V 99) G hC hB h (met_X1_readForm l V S p cm K F9 Z9 L hR (by omega) hL kd idx (by omega) (by omega)) mw_1382 kv_X1_readForm ⟨rfl, rfl⟩ ⟨Nat.le_of_ble_eq_true rfl, Nat.le_of_ble_eq_true rfl⟩ (r_tV hC h) rfl rfl hl.1 (Nat.le_of_ble_eq_true rfl) dX1_readCommand_29 ⟨Nat.le_of_ble_eq_true rfl, Nat.le_of_ble_eq_true rfl⟩ (fun r u H locs hp h => ?_)
        obtain ⟨rfl, rfl⟩ := hp
        refine lv_if_eq (tgt := 45) hx hcd dX1_readCommand_32 (by decide) (fun c_5 => ?_) (fun c_5 => ?_)
        · have c_5 := bz0 c_5
          refine lv_iload_n hx hcd dX1_readCommand_45 rfl (lv_at hl 1 rfl) ?_
          refine lv_aload_n hx hcd dX1_readCommand_46 rfl (lv_at hl 2 rfl) ?_
          refine va_get (D := eD V) (ci := 5) (v := .int (nI ((rdF L idx (kLs kd) p 0 F9 Z9).2.1))) (C := RX1) (T := TX1) (N := 6) hx hcd G.2.2.2.2 iwX1 G.2.2.2.1 hC.1 h.1 (96 + 3) (cF_at V _ (i := 3) (by decide)) rfl 5 (by decide) (G.2.2.2.2 _ mw_226) (fun y h9 => h9) rfl dX1_readCommand_47 ?_
          refine va_mmax hx hcd (by rw [G.2.2.1]; exact hl.1.symm) G.2.2.2.1 (G.2.2.2.2 _ mw_1414) (G.2.2.2.2 _ mw_365) (G.2.2.2.2 _ mw_70) (G.2.2.2.2 _ mw_366) (Nat.le_of_ble_eq_true rfl) (Nat.le_of_ble_eq_true rfl) (Nat.le_of_ble_eq_true rfl) (Nat.le_of_ble_eq_true rfl) dX1_readCommand_50 ?_
          refine lv_topi (fun z_6 e_z_6 => ?_)
          obtain rfl : z_6 = nI (max fur ((rdF L idx (kLs kd) p 0 F9 Z9).2.1)) := by rw [e_z_6]; exact n_max (by omega) (by omega)
          refine lv_istore_n (lv' := [(3, .int (nI (max fur ((rdF L idx (kLs kd) p 0 F9 Z9).2.1)))), (4, .int (nI (kd))), (0, .ref (eX V 99)), (1, .int (nI (idx))), (2, .int (nI (p)))]) hx hcd dX1_readCommand_53 rfl hl (by decide) rfl (fun ls hl => ?_)
          refine lv_iinc (v := nI (kd + 1)) (lv' := [(4, .int (nI (kd + 1))), (3, .int (nI (max fur ((rdF L idx (kLs kd) p 0 F9 Z9).2.1)))), (0, .ref (eX V 99)), (1, .int (nI (idx))), (2, .int (nI (p)))]) hx hcd dX1_readCommand_54 hl (k := 1) rfl (by exact nI_add (kd) 1) (by decide) rfl (fun ls hl => ?_)
          refine lv_goto (tgt := 10) hx hcd dX1_readCommand_57 (by decide) ?_
          exact ih_2 (kd + 1) (max fur ((rdF L idx (kLs kd) p 0 F9 Z9).2.1)) ((rdF L idx (kLs kd) p 0 F9 Z9).2.1) ((rdF L idx (kLs kd) p 0 F9 Z9).2.2.1) ((rdF L idx (kLs kd) p 0 F9 Z9).2.2.2) (by omega) (by omega) (by rw [hC9, show 12 - kd = (12 - (kd + 1)) + 1 by omega, rdC, if_neg (by rw [Bool.not_eq_true]; assumption)]) (by omega) _ _ h _ (lv_sub hl [0, 1, 2, 3, 4] rfl)
        · have c_5 := bz1 c_5
          refine lv_aload_n hx hcd dX1_readCommand_35 rfl (lv_at hl 2 rfl) ?_
          refine va_get (D := eD V) (ci := 5) (v := .ref (eX V (100 + 1))) (C := RX1) (T := TX1) (N := 6) hx hcd G.2.2.2.2 iwX1 G.2.2.2.1 hC.1 h.1 (96 + 3) (cF_at V _ (i := 3) (by decide)) rfl 0 (by decide) (G.2.2.2.2 _ mw_217) (fun y h9 => h9) rfl dX1_readCommand_36 ?_
          refine lv_iload_n hx hcd dX1_readCommand_39 rfl (lv_at hl 3 rfl) ?_
          refine lv_iload hx hcd dX1_readCommand_40 (lv_at hl 0 rfl) ?_
          refine r_aT G hC h 1 (idx) (by decide) rfl (show idx < 60 by omega) (xW_k _ _ _ _ _ _ _ _) dX1_readCommand_42 (fun H locs h => ?_)
          refine lv_iconst (v := nI 1) hx hcd dX1_readCommand_43 (by decide) ?_
          exact k_retz hQ G hret hlocks h (Or.inr rfl) (by rw [show rdC L idx p 12 0 p F Z = (kd + 1, (rdF L idx (kLs kd) p 0 F9 Z9).2.1, (rdF L idx (kLs kd) p 0 F9 Z9).2.2.1, (rdF L idx (kLs kd) p 0 F9 Z9).2.2.2) from (by rw [hC9, show 12 - kd = (11 - kd) + 1 by omega, rdC, if_pos (by assumption)])]; exact Or.inl ⟨Nat.succ_ne_zero _, rfl, rfl⟩) (Nat.le_of_ble_eq_true rfl) (Nat.le_of_ble_eq_true rfl) dX1_readCommand_44
  exact L_1 (13 + 1) 0 p p F Z (by omega) hp rfl (by omega) _ _ h _ (lv_sub hl [0, 1, 3, 4, 2] rfl)
set_option maxHeartbeats 4000000 in
set_option maxRecDepth 100000 in
/-- readText() -/
theorem met_X1_readText (l : Launch) (V : kEnv) (S : kCs) (p cm : Nat) (K F Z : Nat → Int32) (L : List Nat) (hR : sbR (S.2.2.2 1) L) (hL : L.length ≤ 60) : kI l yX1_readText cX1_readText 2 (some .int) { frames := 8, cells := 0, slots := 0, locals := 182 } V (cWs V) [.ref (eX V 99)] (xW S p cm K F Z) (fun r u => r = nI (rdT L 60 0 0 0 K F Z).1 - 1 ∧ u = xW S (rdT L 60 0 0 0 K F Z).2.1 (rdT L 60 0 0 0 K F Z).2.2.1 (rdT L 60 0 0 0 K F Z).2.2.2.1 (rdT L 60 0 0 0 K F Z).2.2.2.2.1 (rdT L 60 0 0 0 K F Z).2.2.2.2.2) 0 0 := by
  refine kI_of (by decide +kernel) (Nat.le_of_ble_eq_true rfl) ?_
  intro pg e s m args below meth c G hret hlocks hC hB h ls hl Q hQ
  have hl : lv_has ls 2 [(0, .ref (eX V 99))] := hl
  have hx := G.1
  have hcd := G.2.1
  refine lv_aload_n hx hcd dX1_readText_0 rfl (lv_at hl 0 rfl) ?_
  refine lv_iconst (v := nI 0) hx hcd dX1_readText_1 (by decide) ?_
  refine r_tP G hC h 6 (by decide) mw_226 (xW_p _ _ _ _ _ _ _) dX1_readText_2 (fun H locs h => ?_)
  refine lv_aload_n hx hcd dX1_readText_5 rfl (lv_at hl 0 rfl) ?_
  refine lv_iconst (v := nI 0) hx hcd dX1_readText_6 (by decide) ?_
  refine r_tP G hC h 5 (by decide) mw_223 (xW_c _ _ _ _ _ _ _) dX1_readText_7 (fun H locs h => ?_)
  refine lv_iconst (v := nI 0) hx hcd dX1_readText_10 (by decide) ?_
  refine lv_istore_n (lv' := [(1, .int (nI 0)), (0, .ref (eX V 99))]) hx hcd dX1_readText_11 rfl hl (by decide) rfl (fun ls hl => ?_)
  have L_1 : ∀ (fu_3 : Nat) (i : Nat) (q : Nat) (n : Nat) (K9 : Nat → Int32) (F9 : Nat → Int32) (Z9 : Nat → Int32) (hi : i ≤ 60) (hq : q ≤ L.length) (hn : n ≤ i) (hT : rdT L 60 0 0 0 K F Z = rdT L (60 - i) i q n K9 F9 Z9), 61 - i < fu_3 → ∀ (H : Heap) (locs : List Loc), cH V s H locs (cWs V (xW S q n K9 F9 Z9)) → ∀ ls : Array Slot, lv_has ls 2 [(1, .int (nI (i))), (0, .ref (eX V 99))] → W pg l e { frames := 8, cells := 0, slots := 0, locals := 182 } s m args below meth c H locs 0 0 Q (F0 m 12 ls []) := by
    intro fu_3
    induction fu_3 with
    | zero => intro i q n K9 F9 Z9 hi hq hn hT hm; exact absurd hm (Nat.not_lt_zero _)
    | succ fu_3 ih_2 =>
      intro i q n K9 F9 Z9 hi hq hn hT hm H locs h ls hl
      refine lv_iload_n hx hcd dX1_readText_12 rfl (lv_at hl 0 rfl) ?_
      refine lv_bipush (v := nI 60) hx hcd dX1_readText_13 (by decide) ?_
      refine lv_icmp_ge (tgt := 81) hx hcd dX1_readText_15 (by decide) (fun c_4 => ?_) (fun c_4 => ?_)
      · have c_4 := cLe (tN (n := 60) (by decide)) (tN (n := i) (by omega)) c_4
        refine lv_aload_n hx hcd dX1_readText_81 rfl (lv_at hl 1 rfl) ?_
        refine va_get (D := eD V) (ci := 5) (v := .int (nI (q))) (C := RX1) (T := TX1) (N := 6) hx hcd G.2.2.2.2 iwX1 G.2.2.2.1 hC.1 h.1 (96 + 3) (cF_at V _ (i := 3) (by decide)) rfl 5 (by decide) (G.2.2.2.2 _ mw_226) (fun y h9 => h9) rfl dX1_readText_82 ?_
        exact k_reti hQ G hret hlocks h (by rw [hT, show 60 - i = 0 by omega]; exact ⟨aOf.symm, rfl⟩) (Nat.le_of_ble_eq_true rfl) (Nat.le_of_ble_eq_true rfl) dX1_readText_85
      · have c_4 := cNle (tN (n := 60) (by decide)) (tN (n := i) (by omega)) c_4
        refine lv_iload_n hx hcd dX1_readText_18 rfl (lv_at hl 0 rfl) ?_
        refine lv_if_le (tgt := 36) hx hcd dX1_readText_19 (by decide) (fun c_5 => ?_) (fun c_5 => ?_)
        · have c_5 := cLe (tN (n := i) (by omega)) t0 c_5
          refine lv_aload_n hx hcd dX1_readText_36 rfl (lv_at hl 1 rfl) ?_
          refine lv_iload_n hx hcd dX1_readText_37 rfl (lv_at hl 0 rfl) ?_
          refine k_Vi (As := [.int (nI (i))]) (rest := []) (b := eX V 99) G hC hB h (met_X1_readCommand l V S q n K9 F9 Z9 L hR (by omega) hL i (by omega)) mw_1363 kv_X1_readCommand ⟨rfl, rfl⟩ ⟨Nat.le_of_ble_eq_true rfl, Nat.le_of_ble_eq_true rfl⟩ (r_tV hC h) rfl rfl hl.1 (Nat.le_of_ble_eq_true rfl) dX1_readText_38 ⟨Nat.le_of_ble_eq_true rfl, Nat.le_of_ble_eq_true rfl⟩ (fun r u H locs hp h => ?_)
          rcases hp with ⟨hs3, rfl, rfl⟩ | ⟨hs3, rfl, rfl⟩
          · skip
            have hqle := rdC_le L i (st := q) (by omega) 12 0 q F9 Z9 (by omega)
            refine lv_if_ne (tgt := 49) hx hcd dX1_readText_41 (by decide) (fun _ => ?_) (fun c_6 => absurd c_6 (by decide))
            refine lv_aload_n hx hcd dX1_readText_49 rfl (lv_at hl 1 rfl) ?_
            refine lv_dup hx hcd dX1_readText_50 rfl ?_
            refine va_get (D := eD V) (ci := 5) (v := .int (nI (n))) (C := RX1) (T := TX1) (N := 6) hx hcd G.2.2.2.2 iwX1 G.2.2.2.1 hC.1 h.1 (96 + 3) (cF_at V _ (i := 3) (by decide)) rfl 3 (by decide) (G.2.2.2.2 _ mw_223) (fun y h9 => h9) rfl dX1_readText_51 ?_
            refine lv_iconst (v := nI 1) hx hcd dX1_readText_54 (by decide) ?_
            refine w_iadd (v := nI (n + 1)) hx hcd dX1_readText_55 (nI_add _ _) ?_
            refine r_tP G hC h 5 (by decide) mw_223 (xW_c _ _ _ _ _ _ _) dX1_readText_56 (fun H locs h => ?_)
            refine lv_aload_n hx hcd dX1_readText_59 rfl (lv_at hl 1 rfl) ?_
            refine va_get (D := eD V) (ci := 5) (v := .int (nI ((rdC L i q 12 0 q F9 Z9).2.1))) (C := RX1) (T := TX1) (N := 6) hx hcd G.2.2.2.2 iwX1 G.2.2.2.1 hC.1 h.1 (96 + 3) (cF_at V _ (i := 3) (by decide)) rfl 5 (by decide) (G.2.2.2.2 _ mw_226) (fun y h9 => h9) rfl dX1_readText_60 ?_
            refine lv_aload_n hx hcd dX1_readText_63 rfl (lv_at hl 1 rfl) ?_
            refine va_get (D := eD V) (ci := 5) (v := .ref (eX V (104 + 1))) (C := RX1) (T := TX1) (N := 6) hx hcd G.2.2.2.2 iwX1 G.2.2.2.1 hC.1 h.1 (96 + 3) (cF_at V _ (i := 3) (by decide)) rfl 4 (by decide) (G.2.2.2.2 _ mw_225) (fun y h9 => h9) rfl dX1_readText_64 ?_
            refine k_Vi (As := []) (rest := [.int (nI ((rdC L i q 12 0 q F9 Z9).2.1))]) (b := eX V (104 + 1)) G hC hB h (met_J4_length_8abf5 l V (xW S ((rdC L i q 12 0 q F9 Z9).2.1) (n + 1) (upd K9 i (nI ((rdC L i q 12 0 q F9 Z9).1 - 1))) ((rdC L i q 12 0 q F9 Z9).2.2.1) ((rdC L i q 12 0 q F9 Z9).2.2.2)) 1 (by decide)) mw_1337 kv_J4_length_8abf5 ⟨rfl, rfl⟩ ⟨Nat.le_of_ble_eq_true rfl, Nat.le_of_ble_eq_true rfl⟩ (r_uV hC h 1 (by decide)) rfl rfl hl.1 (Nat.le_of_ble_eq_true rfl) dX1_readText_67 ⟨Nat.le_of_ble_eq_true rfl, Nat.le_of_ble_eq_true rfl⟩ (fun r u H locs hp h => ?_)
            obtain ⟨hr, hu⟩ := hp; obtain rfl : r = nI L.length := hr.trans (congrArg nI hR.1)
            rw [hu] at h
            refine lv_icmp_ne (tgt := 75) hx hcd dX1_readText_70 (by decide) (fun c_8 => ?_) (fun c_8 => ?_)
            · have c_8 := cNe (tN (n := (rdC L i q 12 0 q F9 Z9).2.1) (by omega)) (tN (n := L.length) (by omega)) c_8
              refine lv_iinc (v := nI (i + 1)) (lv' := [(1, .int (nI (i + 1))), (0, .ref (eX V 99))]) hx hcd dX1_readText_75 hl (k := 0) rfl (by exact nI_add (i) 1) (by decide) rfl (fun ls hl => ?_)
              refine lv_goto (tgt := 12) hx hcd dX1_readText_78 (by decide) ?_
              exact ih_2 (i + 1) ((rdC L i q 12 0 q F9 Z9).2.1) (n + 1) (upd K9 i (nI ((rdC L i q 12 0 q F9 Z9).1 - 1))) ((rdC L i q 12 0 q F9 Z9).2.2.1) ((rdC L i q 12 0 q F9 Z9).2.2.2) (by omega) hqle (by omega) (by rw [hT, show 60 - i = (59 - i) + 1 by omega, rdT, if_neg (fun z => absurd z.1 (by omega))]; simp only [if_neg (show ¬ 0 < i by omega)]; rw [if_neg hs3, if_neg (by omega), show 60 - (i + 1) = 59 - i by omega]) (by omega) _ _ h _ (lv_sub hl [0, 1] rfl)
            · have c_8 := cEq (tN (n := (rdC L i q 12 0 q F9 Z9).2.1) (by omega)) (tN (n := L.length) (by omega)) c_8
              refine lv_iconst (v := -1) hx hcd dX1_readText_73 (by decide) ?_
              exact k_reti hQ G hret hlocks h (by rw [hT, show 60 - i = (59 - i) + 1 by omega, rdT, if_neg (fun z => absurd z.1 (by omega))]; simp only [if_neg (show ¬ 0 < i by omega)]; rw [if_neg hs3, if_pos (by omega)]; exact ⟨a0.symm, rfl⟩) (Nat.le_of_ble_eq_true rfl) (Nat.le_of_ble_eq_true rfl) dX1_readText_74
          · skip
            have hqle := rdC_le L i (st := q) (by omega) 12 0 q F9 Z9 (by omega)
            refine lv_if_ne (tgt := 49) hx hcd dX1_readText_41 (by decide) (fun c_9 => absurd c_9 (by decide)) (fun _ => ?_)
            refine lv_aload_n hx hcd dX1_readText_44 rfl (lv_at hl 1 rfl) ?_
            refine va_get (D := eD V) (ci := 5) (v := .int (nI ((rdC L i q 12 0 q F9 Z9).2.1))) (C := RX1) (T := TX1) (N := 6) hx hcd G.2.2.2.2 iwX1 G.2.2.2.1 hC.1 h.1 (96 + 3) (cF_at V _ (i := 3) (by decide)) rfl 5 (by decide) (G.2.2.2.2 _ mw_226) (fun y h9 => h9) rfl dX1_readText_45 ?_
            exact k_reti hQ G hret hlocks h (by rw [hT, show 60 - i = (59 - i) + 1 by omega, rdT, if_neg (fun z => absurd z.1 (by omega))]; simp only [if_neg (show ¬ 0 < i by omega)]; rw [if_pos hs3]; exact ⟨aOf.symm, rfl⟩) (Nat.le_of_ble_eq_true rfl) (Nat.le_of_ble_eq_true rfl) dX1_readText_48
        · have c_5 := cNle (tN (n := i) (by omega)) t0 c_5
          refine lv_aload_n hx hcd dX1_readText_22 rfl (lv_at hl 1 rfl) ?_
          refine lv_bipush (v := nI 59) hx hcd dX1_readText_23 (by decide) ?_
          refine k_Vi (As := [.int (nI 59)]) (rest := []) (b := eX V 99) G hC hB h (met_X1_skip l V S q n K9 F9 Z9 L hR (by omega) hL 59 (by omega)) mw_1358 kv_X1_skip ⟨rfl, rfl⟩ ⟨Nat.le_of_ble_eq_true rfl, Nat.le_of_ble_eq_true rfl⟩ (r_tV hC h) rfl rfl hl.1 (Nat.le_of_ble_eq_true rfl) dX1_readText_25 ⟨Nat.le_of_ble_eq_true rfl, Nat.le_of_ble_eq_true rfl⟩ (fun r u H locs hp h => ?_)
          rcases hp with ⟨hs1, hs2, rfl, rfl⟩ | ⟨hs, rfl, rfl⟩
          · skip
            refine lv_if_ne (tgt := 36) hx hcd dX1_readText_28 (by decide) (fun _ => ?_) (fun c_10 => absurd c_10 (by decide))
            refine lv_aload_n hx hcd dX1_readText_36 rfl (lv_at hl 1 rfl) ?_
            refine lv_iload_n hx hcd dX1_readText_37 rfl (lv_at hl 0 rfl) ?_
            refine k_Vi (As := [.int (nI (i))]) (rest := []) (b := eX V 99) G hC hB h (met_X1_readCommand l V S (q + 1) n K9 F9 Z9 L hR (by omega) hL i (by omega)) mw_1363 kv_X1_readCommand ⟨rfl, rfl⟩ ⟨Nat.le_of_ble_eq_true rfl, Nat.le_of_ble_eq_true rfl⟩ (r_tV hC h) rfl rfl hl.1 (Nat.le_of_ble_eq_true rfl) dX1_readText_38 ⟨Nat.le_of_ble_eq_true rfl, Nat.le_of_ble_eq_true rfl⟩ (fun r u H locs hp h => ?_)
            rcases hp with ⟨hs3, rfl, rfl⟩ | ⟨hs3, rfl, rfl⟩
            · skip
              have hqle := rdC_le L i (st := (q + 1)) (by omega) 12 0 (q + 1) F9 Z9 (by omega)
              refine lv_if_ne (tgt := 49) hx hcd dX1_readText_41 (by decide) (fun _ => ?_) (fun c_11 => absurd c_11 (by decide))
              refine lv_aload_n hx hcd dX1_readText_49 rfl (lv_at hl 1 rfl) ?_
              refine lv_dup hx hcd dX1_readText_50 rfl ?_
              refine va_get (D := eD V) (ci := 5) (v := .int (nI (n))) (C := RX1) (T := TX1) (N := 6) hx hcd G.2.2.2.2 iwX1 G.2.2.2.1 hC.1 h.1 (96 + 3) (cF_at V _ (i := 3) (by decide)) rfl 3 (by decide) (G.2.2.2.2 _ mw_223) (fun y h9 => h9) rfl dX1_readText_51 ?_
              refine lv_iconst (v := nI 1) hx hcd dX1_readText_54 (by decide) ?_
              refine w_iadd (v := nI (n + 1)) hx hcd dX1_readText_55 (nI_add _ _) ?_
              refine r_tP G hC h 5 (by decide) mw_223 (xW_c _ _ _ _ _ _ _) dX1_readText_56 (fun H locs h => ?_)
              refine lv_aload_n hx hcd dX1_readText_59 rfl (lv_at hl 1 rfl) ?_
              refine va_get (D := eD V) (ci := 5) (v := .int (nI ((rdC L i (q + 1) 12 0 (q + 1) F9 Z9).2.1))) (C := RX1) (T := TX1) (N := 6) hx hcd G.2.2.2.2 iwX1 G.2.2.2.1 hC.1 h.1 (96 + 3) (cF_at V _ (i := 3) (by decide)) rfl 5 (by decide) (G.2.2.2.2 _ mw_226) (fun y h9 => h9) rfl dX1_readText_60 ?_
              refine lv_aload_n hx hcd dX1_readText_63 rfl (lv_at hl 1 rfl) ?_
              refine va_get (D := eD V) (ci := 5) (v := .ref (eX V (104 + 1))) (C := RX1) (T := TX1) (N := 6) hx hcd G.2.2.2.2 iwX1 G.2.2.2.1 hC.1 h.1 (96 + 3) (cF_at V _ (i := 3) (by decide)) rfl 4 (by decide) (G.2.2.2.2 _ mw_225) (fun y h9 => h9) rfl dX1_readText_64 ?_
              refine k_Vi (As := []) (rest := [.int (nI ((rdC L i (q + 1) 12 0 (q + 1) F9 Z9).2.1))]) (b := eX V (104 + 1)) G hC hB h (met_J4_length_8abf5 l V (xW S ((rdC L i (q + 1) 12 0 (q + 1) F9 Z9).2.1) (n + 1) (upd K9 i (nI ((rdC L i (q + 1) 12 0 (q + 1) F9 Z9).1 - 1))) ((rdC L i (q + 1) 12 0 (q + 1) F9 Z9).2.2.1) ((rdC L i (q + 1) 12 0 (q + 1) F9 Z9).2.2.2)) 1 (by decide)) mw_1337 kv_J4_length_8abf5 ⟨rfl, rfl⟩ ⟨Nat.le_of_ble_eq_true rfl, Nat.le_of_ble_eq_true rfl⟩ (r_uV hC h 1 (by decide)) rfl rfl hl.1 (Nat.le_of_ble_eq_true rfl) dX1_readText_67 ⟨Nat.le_of_ble_eq_true rfl, Nat.le_of_ble_eq_true rfl⟩ (fun r u H locs hp h => ?_)
              obtain ⟨hr, hu⟩ := hp; obtain rfl : r = nI L.length := hr.trans (congrArg nI hR.1)
              rw [hu] at h
              refine lv_icmp_ne (tgt := 75) hx hcd dX1_readText_70 (by decide) (fun c_13 => ?_) (fun c_13 => ?_)
              · have c_13 := cNe (tN (n := (rdC L i (q + 1) 12 0 (q + 1) F9 Z9).2.1) (by omega)) (tN (n := L.length) (by omega)) c_13
                refine lv_iinc (v := nI (i + 1)) (lv' := [(1, .int (nI (i + 1))), (0, .ref (eX V 99))]) hx hcd dX1_readText_75 hl (k := 0) rfl (by exact nI_add (i) 1) (by decide) rfl (fun ls hl => ?_)
                refine lv_goto (tgt := 12) hx hcd dX1_readText_78 (by decide) ?_
                exact ih_2 (i + 1) ((rdC L i (q + 1) 12 0 (q + 1) F9 Z9).2.1) (n + 1) (upd K9 i (nI ((rdC L i (q + 1) 12 0 (q + 1) F9 Z9).1 - 1))) ((rdC L i (q + 1) 12 0 (q + 1) F9 Z9).2.2.1) ((rdC L i (q + 1) 12 0 (q + 1) F9 Z9).2.2.2) (by omega) hqle (by omega) (by rw [hT, show 60 - i = (59 - i) + 1 by omega, rdT, if_neg (fun z => z.2 ⟨hs1, hs2⟩)]; simp only [if_pos (show 0 < i by omega)]; rw [if_neg hs3, if_neg (by omega), show 60 - (i + 1) = 59 - i by omega]) (by omega) _ _ h _ (lv_sub hl [0, 1] rfl)
              · have c_13 := cEq (tN (n := (rdC L i (q + 1) 12 0 (q + 1) F9 Z9).2.1) (by omega)) (tN (n := L.length) (by omega)) c_13
                refine lv_iconst (v := -1) hx hcd dX1_readText_73 (by decide) ?_
                exact k_reti hQ G hret hlocks h (by rw [hT, show 60 - i = (59 - i) + 1 by omega, rdT, if_neg (fun z => z.2 ⟨hs1, hs2⟩)]; simp only [if_pos (show 0 < i by omega)]; rw [if_neg hs3, if_pos (by omega)]; exact ⟨a0.symm, rfl⟩) (Nat.le_of_ble_eq_true rfl) (Nat.le_of_ble_eq_true rfl) dX1_readText_74
            · skip
              have hqle := rdC_le L i (st := (q + 1)) (by omega) 12 0 (q + 1) F9 Z9 (by omega)
              refine lv_if_ne (tgt := 49) hx hcd dX1_readText_41 (by decide) (fun c_14 => absurd c_14 (by decide)) (fun _ => ?_)
              refine lv_aload_n hx hcd dX1_readText_44 rfl (lv_at hl 1 rfl) ?_
              refine va_get (D := eD V) (ci := 5) (v := .int (nI ((rdC L i (q + 1) 12 0 (q + 1) F9 Z9).2.1))) (C := RX1) (T := TX1) (N := 6) hx hcd G.2.2.2.2 iwX1 G.2.2.2.1 hC.1 h.1 (96 + 3) (cF_at V _ (i := 3) (by decide)) rfl 5 (by decide) (G.2.2.2.2 _ mw_226) (fun y h9 => h9) rfl dX1_readText_45 ?_
              exact k_reti hQ G hret hlocks h (by rw [hT, show 60 - i = (59 - i) + 1 by omega, rdT, if_neg (fun z => z.2 ⟨hs1, hs2⟩)]; simp only [if_pos (show 0 < i by omega)]; rw [if_pos hs3]; exact ⟨aOf.symm, rfl⟩) (Nat.le_of_ble_eq_true rfl) (Nat.le_of_ble_eq_true rfl) dX1_readText_48
          · skip
            refine lv_if_ne (tgt := 36) hx hcd dX1_readText_28 (by decide) (fun c_15 => absurd c_15 (by decide)) (fun _ => ?_)
            refine lv_aload_n hx hcd dX1_readText_31 rfl (lv_at hl 1 rfl) ?_
            refine va_get (D := eD V) (ci := 5) (v := .int (nI (q))) (C := RX1) (T := TX1) (N := 6) hx hcd G.2.2.2.2 iwX1 G.2.2.2.1 hC.1 h.1 (96 + 3) (cF_at V _ (i := 3) (by decide)) rfl 5 (by decide) (G.2.2.2.2 _ mw_226) (fun y h9 => h9) rfl dX1_readText_32 ?_
            exact k_reti hQ G hret hlocks h (by rw [hT, show 60 - i = (59 - i) + 1 by omega, rdT, if_pos ⟨by omega, hs⟩]; exact ⟨aOf.symm, rfl⟩) (Nat.le_of_ble_eq_true rfl) (Nat.le_of_ble_eq_true rfl) dX1_readText_35
  exact L_1 (61 + 1) 0 0 0 K F Z (by omega) (by omega) (by omega) rfl (by omega) _ _ h _ (lv_sub hl [0, 1] rfl)
set_option maxHeartbeats 4000000 in
set_option maxRecDepth 100000 in
/-- takeCommands() -/
theorem met_X1_takeCommands (l : Launch) (V : kEnv) (hV : kOk V) (S : kCs) (p cm : Nat) (K F Z : Nat → Int32) (L : List Nat) (hR : sbR (S.2.2.2 1) L) (hL : L.length ≤ 60) : kI l yX1_takeCommands cX1_takeCommands 2 (some .int) { frames := 9, cells := 1, slots := 120, locals := 203 } V (cWs V) [.ref (eX V 99)] (xW S p cm K F Z) (fun r u => r = nI (rdT L 60 0 0 0 K F Z).1 - 1 ∧ ∃ y, sbR y [] ∧ u = uPut (xW S (rdT L 60 0 0 0 K F Z).2.1 (rdT L 60 0 0 0 K F Z).2.2.1 (rdT L 60 0 0 0 K F Z).2.2.2.1 (rdT L 60 0 0 0 K F Z).2.2.2.2.1 (rdT L 60 0 0 0 K F Z).2.2.2.2.2) 1 y) 1 120 := by
  refine kI_of (by decide +kernel) (Nat.le_of_ble_eq_true rfl) ?_
  intro pg e s m args below meth c G hret hlocks hC hB h ls hl Q hQ
  have hl : lv_has ls 2 [(0, .ref (eX V 99))] := hl
  have hx := G.1
  have hcd := G.2.1
  refine lv_aload_n hx hcd dX1_takeCommands_0 rfl (lv_at hl 0 rfl) ?_
  refine k_Vi (As := []) (rest := []) (b := eX V 99) G hC hB h (met_X1_readText l V S p cm K F Z L hR hL) mw_1354 kv_X1_readText ⟨rfl, rfl⟩ ⟨Nat.le_of_ble_eq_true rfl, Nat.le_of_ble_eq_true rfl⟩ (r_tV hC h) rfl rfl hl.1 (Nat.le_of_ble_eq_true rfl) dX1_takeCommands_1 ⟨Nat.le_of_ble_eq_true rfl, Nat.le_of_ble_eq_true rfl⟩ (fun r u H locs hp h => ?_)
  obtain ⟨rfl, rfl⟩ := hp
  refine lv_istore_n (lv' := [(1, .int (nI ((rdT L 60 0 0 0 K F Z).1) - 1)), (0, .ref (eX V 99))]) hx hcd dX1_takeCommands_4 rfl hl (by decide) rfl (fun ls hl => ?_)
  refine lv_aload_n hx hcd dX1_takeCommands_5 rfl (lv_at hl 1 rfl) ?_
  refine va_get (D := eD V) (ci := 5) (v := .ref (eX V (104 + 1))) (C := RX1) (T := TX1) (N := 6) hx hcd G.2.2.2.2 iwX1 G.2.2.2.1 hC.1 h.1 (96 + 3) (cF_at V _ (i := 3) (by decide)) rfl 4 (by decide) (G.2.2.2.2 _ mw_225) (fun y h9 => h9) rfl dX1_takeCommands_6 ?_
  refine lv_iconst (v := nI 0) hx hcd dX1_takeCommands_9 (by decide) ?_
  have h := cH_u 1 h
  refine k_Vv (As := [.int (nI 0)]) (rest := []) (b := eX V (104 + 1)) G hC hB h (met_J4_setLength_d00df l V hV (xW S ((rdT L 60 0 0 0 K F Z).2.1) ((rdT L 60 0 0 0 K F Z).2.2.1) ((rdT L 60 0 0 0 K F Z).2.2.2.1) ((rdT L 60 0 0 0 K F Z).2.2.2.2.1) ((rdT L 60 0 0 0 K F Z).2.2.2.2.2)) 1 (by decide) ((xW S ((rdT L 60 0 0 0 K F Z).2.1) ((rdT L 60 0 0 0 K F Z).2.2.1) ((rdT L 60 0 0 0 K F Z).2.2.2.1) ((rdT L 60 0 0 0 K F Z).2.2.2.2.1) ((rdT L 60 0 0 0 K F Z).2.2.2.2.2)).2.2.2 1) L hR) mw_1415 kv_J4_setLength_d00df ⟨rfl, rfl⟩ ⟨Nat.le_of_ble_eq_true rfl, Nat.le_of_ble_eq_true rfl⟩ (r_uV hC h 1 (by decide)) rfl rfl hl.1 (Nat.le_of_ble_eq_true rfl) dX1_takeCommands_10 ⟨Nat.le_of_ble_eq_true rfl, Nat.le_of_ble_eq_true rfl⟩ (fun u H locs hp h => ?_)
  obtain ⟨y_1, hRz, hu⟩ := hp; rw [hu] at h
  refine lv_iload_n hx hcd dX1_takeCommands_13 rfl (lv_at hl 0 rfl) ?_
  exact k_reti hQ G hret hlocks h (⟨rfl, _, hRz, rfl⟩) (Nat.le_of_ble_eq_true rfl) (Nat.le_of_ble_eq_true rfl) dX1_takeCommands_14
set_option maxHeartbeats 4000000 in
set_option maxRecDepth 100000 in
/-- hasRoom() -/
theorem met_X1_hasRoom (l : Launch) (V : kEnv) (S : kCs) (L : List Nat) (hR : sbR (S.2.2.2 1) L) (hL : L.length ≤ 60) : kI l yX1_hasRoom cX1_hasRoom 1 (some .boolean) { frames := 2, cells := 0, slots := 0, locals := 40 } V (cWs V) [.ref (eX V 99)] (S) (fun r u => r = bz (decide (L.length < 60)) ∧ u = S) 0 0 := by
  refine kI_of (by decide +kernel) (Nat.le_of_ble_eq_true rfl) ?_
  intro pg e s m args below meth c G hret hlocks hC hB h ls hl Q hQ
  have hl : lv_has ls 1 [(0, .ref (eX V 99))] := hl
  have hx := G.1
  have hcd := G.2.1
  refine lv_aload_n hx hcd dX1_hasRoom_0 rfl (lv_at hl 0 rfl) ?_
  refine va_get (D := eD V) (ci := 5) (v := .ref (eX V (104 + 1))) (C := RX1) (T := TX1) (N := 6) hx hcd G.2.2.2.2 iwX1 G.2.2.2.1 hC.1 h.1 (96 + 3) (cF_at V _ (i := 3) (by decide)) rfl 4 (by decide) (G.2.2.2.2 _ mw_225) (fun y h9 => h9) rfl dX1_hasRoom_1 ?_
  refine k_Vi (As := []) (rest := []) (b := eX V (104 + 1)) G hC hB h (met_J4_length_8abf5 l V S 1 (by decide)) mw_1337 kv_J4_length_8abf5 ⟨rfl, rfl⟩ ⟨Nat.le_of_ble_eq_true rfl, Nat.le_of_ble_eq_true rfl⟩ (r_uV hC h 1 (by decide)) rfl rfl hl.1 (Nat.le_of_ble_eq_true rfl) dX1_hasRoom_4 ⟨Nat.le_of_ble_eq_true rfl, Nat.le_of_ble_eq_true rfl⟩ (fun r u H locs hp h => ?_)
  obtain ⟨hr, hu⟩ := hp; obtain rfl : r = nI L.length := hr.trans (congrArg nI hR.1)
  rw [hu] at h
  refine lv_bipush (v := nI 60) hx hcd dX1_hasRoom_7 (by decide) ?_
  refine lv_icmp_ge (tgt := 16) hx hcd dX1_hasRoom_9 (by decide) (fun c_1 => ?_) (fun c_1 => ?_)
  · have c_1 := cLe (tN (n := 60) (by decide)) (tN (n := L.length) (by omega)) c_1
    refine lv_iconst (v := nI 0) hx hcd dX1_hasRoom_16 (by decide) ?_
    exact k_retz hQ G hret hlocks h (Or.inl rfl) (⟨(bz_f (by first | assumption | exact decide_eq_false (by omega))).symm, rfl⟩) (Nat.le_of_ble_eq_true rfl) (Nat.le_of_ble_eq_true rfl) dX1_hasRoom_17
  · have c_1 := cNle (tN (n := 60) (by decide)) (tN (n := L.length) (by omega)) c_1
    refine lv_iconst (v := nI 1) hx hcd dX1_hasRoom_12 (by decide) ?_
    refine lv_goto (tgt := 17) hx hcd dX1_hasRoom_13 (by decide) ?_
    exact k_retz hQ G hret hlocks h (Or.inr rfl) (⟨(bz_t (by first | assumption | exact decide_eq_true (by omega))).symm, rfl⟩) (Nat.le_of_ble_eq_true rfl) (Nat.le_of_ble_eq_true rfl) dX1_hasRoom_17
set_option maxHeartbeats 4000000 in
set_option maxRecDepth 100000 in
/-- append(c) -/
theorem met_X1_append (l : Launch) (V : kEnv) (hV : kOk V) (S : kCs) (L : List Nat) (hR : sbR (S.2.2.2 1) L) (q : Nat) (hq : q < 128) (hL : L.length < 60) : kI l yX1_append cX1_append 2 (some .int) { frames := 6, cells := 1, slots := 120, locals := 154 } V (cWs V) [.ref (eX V 99), .int (nI (q))] (S) (fun r u => r = nI (L ++ [q]).length ∧ ∃ y, sbR y (L ++ [q]) ∧ u = uPut S 1 y) 1 120 := by
  refine kI_of (by decide +kernel) (Nat.le_of_ble_eq_true rfl) ?_
  intro pg e s m args below meth c G hret hlocks hC hB h ls hl Q hQ
  have hl : lv_has ls 2 [(0, .ref (eX V 99)), (1, .int (nI (q)))] := hl
  have hx := G.1
  have hcd := G.2.1
  refine lv_aload_n hx hcd dX1_append_0 rfl (lv_at hl 0 rfl) ?_
  refine va_get (D := eD V) (ci := 5) (v := .ref (eX V (104 + 1))) (C := RX1) (T := TX1) (N := 6) hx hcd G.2.2.2.2 iwX1 G.2.2.2.1 hC.1 h.1 (96 + 3) (cF_at V _ (i := 3) (by decide)) rfl 4 (by decide) (G.2.2.2.2 _ mw_225) (fun y h9 => h9) rfl dX1_append_1 ?_
  refine lv_iload_n hx hcd dX1_append_4 rfl (lv_at hl 1 rfl) ?_
  have h := cH_u 1 h
  refine k_Vr (As := [.int (nI (q))]) (rest := []) (b := eX V (104 + 1)) G hC hB h (met_J4_append_cf468 l V hV S 1 (by decide) (S.2.2.2 1) L hR q (by first | assumption | omega) (by first | assumption | omega)) mw_1342 kv_J4_append_cf468 ⟨rfl, rfl⟩ ⟨Nat.le_of_ble_eq_true rfl, Nat.le_of_ble_eq_true rfl⟩ (r_uV hC h 1 (by decide)) rfl rfl hl.1 (Nat.le_of_ble_eq_true rfl) dX1_append_5 ⟨Nat.le_of_ble_eq_true rfl, Nat.le_of_ble_eq_true rfl⟩ (fun u H locs hp h => ?_)
  obtain ⟨y_1, hRz, hu⟩ := hp; rw [hu] at h
  refine lv_pop hx hcd dX1_append_8 rfl ?_
  refine lv_aload_n hx hcd dX1_append_9 rfl (lv_at hl 0 rfl) ?_
  refine va_get (D := eD V) (ci := 5) (v := .ref (eX V (104 + 1))) (C := RX1) (T := TX1) (N := 6) hx hcd G.2.2.2.2 iwX1 G.2.2.2.1 hC.1 h.1 (96 + 3) (cF_at V _ (i := 3) (by decide)) rfl 4 (by decide) (G.2.2.2.2 _ mw_225) (fun y h9 => h9) rfl dX1_append_10 ?_
  refine k_Vi (As := []) (rest := []) (b := eX V (104 + 1)) G hC hB h (met_J4_length_8abf5 l V (uPut S 1 y_1) 1 (by decide)) mw_1337 kv_J4_length_8abf5 ⟨rfl, rfl⟩ ⟨Nat.le_of_ble_eq_true rfl, Nat.le_of_ble_eq_true rfl⟩ (r_uV hC h 1 (by decide)) rfl rfl hl.1 (Nat.le_of_ble_eq_true rfl) dX1_append_13 ⟨Nat.le_of_ble_eq_true rfl, Nat.le_of_ble_eq_true rfl⟩ (fun r u H locs hp h => ?_)
  obtain ⟨hr, hu⟩ := hp; obtain rfl : r = nI (L ++ [q]).length := hr.trans (congrArg nI (by rw [uPut_at]; exact hRz.1))
  rw [hu] at h
  exact k_reti hQ G hret hlocks h (⟨rfl, _, hRz, rfl⟩) (Nat.le_of_ble_eq_true rfl) (Nat.le_of_ble_eq_true rfl) dX1_append_16
