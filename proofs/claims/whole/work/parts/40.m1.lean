/-! THE REFERENCE'S NUMBERS, out of a board's value. -/
def gN : Nat → Nat
  | 0 => 0
  | 1 => 1
  | 2 => 3
  | 3 => 4
  | 4 => 5
  | 5 => 6
  | _ => 7
def pln (B : kBd) (k : Nat) : Nat := if (B.2 2).testBit k then 1 else 0
def gS (B : kBd) (k : Nat) : Nat → Int32
  | 0 => nI (B.1 0 k)
  | 1 => nI (B.1 1 k)
  | 2 => nI (pln B k)
  | 3 => nI (asgOf B k) - 1
  | _ => nI (B.1 2 k)
def gOf (B : kBd) (j : Nat) : Int32 :=
  if j < 7 then nI (B.2 (gN j))
  else if j < 87 then (if (j - 7) / 5 < B.2 0 then gS B ((j - 7) / 5) ((j - 7) % 5) else 0)
  else if j < 95 then (if (j - 87) / 2 < B.2 1 then (if (j - 87) % 2 = 0 then nI (B.1 3 ((j - 87) / 2)) else nI (B.1 4 ((j - 87) / 2)) - 1) else 0)
  else if j < 104 then nI (B.1 6 (j - 95))
  else if j < 115 then nI (B.1 5 (j - 104)) else 0
theorem pln_le (B : kBd) (k : Nat) : pln B k ≤ 1 := by unfold pln; split <;> decide
theorem gOf_n {g : Nat → Int32} {B : kBd} (hg : g = gOf B) {f : Nat} (hf : f < 7) : g f = nI (B.2 (gN f)) := by rw [hg]; exact if_pos hf
theorem gOf_s {g : Nat → Int32} {B : kBd} (hg : g = gOf B) (hn : B.2 0 ≤ 16) {k w : Nat} (hk : k < B.2 0) (hw : w < 5) : g (7 + 5 * k + w) = gS B k w := by
  rw [hg]
  unfold gOf
  rw [if_neg (by omega), if_pos (by omega), show (7 + 5 * k + w - 7) / 5 = k by omega, show (7 + 5 * k + w - 7) % 5 = w by omega, if_pos hk]
theorem gOf_p0 {g : Nat → Int32} {B : kBd} (hg : g = gOf B) (hm : B.2 1 ≤ 4) {d : Nat} (hd : d < B.2 1) : g (87 + 2 * d + 0) = nI (B.1 3 d) := by
  rw [hg]
  unfold gOf
  rw [if_neg (by omega), if_neg (by omega), if_pos (by omega), show (87 + 2 * d + 0 - 87) / 2 = d by omega, show (87 + 2 * d + 0 - 87) % 2 = 0 by omega, if_pos hd, if_pos rfl]
theorem gOf_p1 {g : Nat → Int32} {B : kBd} (hg : g = gOf B) (hm : B.2 1 ≤ 4) {d : Nat} (hd : d < B.2 1) : g (87 + 2 * d + 1) = nI (B.1 4 d) - 1 := by
  rw [hg]
  unfold gOf
  rw [if_neg (by omega), if_neg (by omega), if_pos (by omega), show (87 + 2 * d + 1 - 87) / 2 = d by omega, show (87 + 2 * d + 1 - 87) % 2 = 1 by omega, if_pos hd, if_neg (by decide)]
theorem gOf_v {g : Nat → Int32} {B : kBd} (hg : g = gOf B) {k : Nat} (hk : k < 9) : g (95 + k) = nI (B.1 6 k) := by
  rw [hg]
  unfold gOf
  rw [if_neg (by omega), if_neg (by omega), if_neg (by omega), if_pos (by omega), show 95 + k - 95 = k by omega]
theorem gOf_b {g : Nat → Int32} {B : kBd} (hg : g = gOf B) {k : Nat} (hk : k < 11) : g (104 + k) = nI (B.1 5 k) := by
  rw [hg]
  unfold gOf
  rw [if_neg (by omega), if_neg (by omega), if_neg (by omega), if_neg (by omega), if_pos (by omega), show 104 + k - 104 = k by omega]
/-- a story's number, a person's, as the reference tries it -/
def inS (n : Nat) (x : Int32) : Bool := decide (0 ≤ x.toInt ∧ x.toInt < (n : Nat))
theorem inS_ex {n : Nat} {x : Int32} (hn : n ≤ 2147483647) (h : inS n x = true) : ∃ j : Nat, j < n ∧ x = nI j := inR_ex hn h
theorem inS_nI {n j : Nat} (hj : j < 2147483648) : inS n (nI j) = decide (j < n) := inR_nI hj
theorem kv_X4_bars : kV yX4_bars cX4_bars 3 (some .boolean) 2 := ⟨mw_1593, mw_28, mw_64, mw_1594, by decide, by decide, by decide +kernel⟩
theorem ks_X4_in : kSt yX4_in cX4_in 3 (some .boolean) 3 := ⟨mw_1543, mw_64, mw_1544, by decide, by decide, by decide +kernel⟩
theorem kv_X4_isOver : kV yX4_isOver cX4_isOver 2 (some .boolean) 1 := ⟨mw_1570, mw_24, mw_64, mw_1571, by decide, by decide, by decide +kernel⟩
theorem kv_X4_isStory : kV yX4_isStory cX4_isStory 2 (some .boolean) 1 := ⟨mw_1566, mw_23, mw_64, mw_1567, by decide, by decide, by decide +kernel⟩
theorem kv_X4_of : kV yX4_of cX4_of 3 (some .int) 2 := ⟨mw_1574, mw_25, mw_64, mw_1575, by decide, by decide, by decide +kernel⟩
set_option maxHeartbeats 4000000 in
set_option maxRecDepth 100000 in
/-- thrown() -/
theorem met_X4_thrown (l : Launch) (V : kEnv) (M : kMs) : kI l yX4_thrown cX4_thrown 1 (some .int) { frames := 0, cells := 0, slots := 0, locals := 0 } V (mWs V) [.ref (eX V 500)] (M) (fun r u => r = M.1 3 ∧ u = M) 0 0 := by
  refine kI_of (by decide +kernel) (Nat.le_of_ble_eq_true rfl) ?_
  intro pg e s m args below meth c G hret hlocks hC hB h ls hl Q hQ
  have hl : lv_has ls 1 [(0, .ref (eX V 500))] := hl
  have hx := G.1
  have hcd := G.2.1
  refine lv_aload_n hx hcd dX4_thrown_0 rfl (lv_at hl 0 rfl) ?_
  refine r_mN G hC h 3 (by decide) mw_1479 (x := M.1 3) rfl dX4_thrown_1 ?_
  exact k_reti hQ G hret hlocks h (⟨rfl, rfl⟩) (Nat.le_of_ble_eq_true rfl) (Nat.le_of_ble_eq_true rfl) dX4_thrown_4
set_option maxHeartbeats 4000000 in
set_option maxRecDepth 100000 in
/-- fails(x) -/
theorem met_X4_fails (l : Launch) (V : kEnv) (M : kMs) (x : Int32) : kI l yX4_fails cX4_fails 2 (some .boolean) { frames := 0, cells := 0, slots := 0, locals := 0 } V (mWs V) [.ref (eX V 500), .int (x)] (M) (fun r u => r = bz (decide (0 < x.toInt)) ∧ u = nPut M 3 x) 0 0 := by
  refine kI_of (by decide +kernel) (Nat.le_of_ble_eq_true rfl) ?_
  intro pg e s m args below meth c G hret hlocks hC hB h ls hl Q hQ
  have hl : lv_has ls 2 [(0, .ref (eX V 500)), (1, .int (x))] := hl
  have hx := G.1
  have hcd := G.2.1
  refine lv_aload_n hx hcd dX4_fails_0 rfl (lv_at hl 0 rfl) ?_
  refine lv_iload_n hx hcd dX4_fails_1 rfl (lv_at hl 1 rfl) ?_
  refine r_mP G hC h 3 (by decide) mw_1479 (fun z => absurd z (by decide)) rfl dX4_fails_2 (fun H locs h => ?_)
  refine lv_iload_n hx hcd dX4_fails_5 rfl (lv_at hl 1 rfl) ?_
  refine lv_if_le (tgt := 13) hx hcd dX4_fails_6 (by decide) (fun c_1 => ?_) (fun c_1 => ?_)
  · have c_1 := cLe (rfl : (x : Int32).toInt = (x : Int32).toInt) t0 c_1
    refine lv_iconst (v := nI 0) hx hcd dX4_fails_13 (by decide) ?_
    exact k_retz hQ G hret hlocks h (Or.inl rfl) (⟨(bz_f (by first | assumption | exact decide_eq_false (by omega))).symm, rfl⟩) (Nat.le_of_ble_eq_true rfl) (Nat.le_of_ble_eq_true rfl) dX4_fails_14
  · have c_1 := cNle (rfl : (x : Int32).toInt = (x : Int32).toInt) t0 c_1
    refine lv_iconst (v := nI 1) hx hcd dX4_fails_9 (by decide) ?_
    refine lv_goto (tgt := 14) hx hcd dX4_fails_10 (by decide) ?_
    exact k_retz hQ G hret hlocks h (Or.inr rfl) (⟨(bz_t (by first | assumption | exact decide_eq_true (by omega))).symm, rfl⟩) (Nat.le_of_ble_eq_true rfl) (Nat.le_of_ble_eq_true rfl) dX4_fails_14
set_option maxHeartbeats 4000000 in
set_option maxRecDepth 100000 in
/-- in(x, y, z) -/
theorem met_X4_in (l : Launch) (V : kEnv) (M : kMs) (x y z : Int32) (a b : Int) (hy : y.toInt = a) (hz : z.toInt = b) : kI l yX4_in cX4_in 3 (some .boolean) { frames := 0, cells := 0, slots := 0, locals := 0 } V (mWs V) [.int (x), .int (y), .int (z)] (M) (fun r u => r = bz (decide (a ≤ (x : Int32).toInt ∧ (x : Int32).toInt ≤ b)) ∧ u = M) 0 0 := by
  refine kI_of (by decide +kernel) (Nat.le_of_ble_eq_true rfl) ?_
  intro pg e s m args below meth c G hret hlocks hC hB h ls hl Q hQ
  have hl : lv_has ls 3 [(0, .int (x)), (1, .int (y)), (2, .int (z))] := hl
  have hx := G.1
  have hcd := G.2.1
  refine lv_iload_n hx hcd dX4_in_0 rfl (lv_at hl 0 rfl) ?_
  refine lv_iload_n hx hcd dX4_in_1 rfl (lv_at hl 1 rfl) ?_
  refine lv_icmp_lt (tgt := 14) hx hcd dX4_in_2 (by decide) (fun c_1 => ?_) (fun c_1 => ?_)
  · have c_1 := cLt (rfl : (x : Int32).toInt = (x : Int32).toInt) hy c_1
    refine lv_iconst (v := nI 0) hx hcd dX4_in_14 (by decide) ?_
    exact k_retz hQ G hret hlocks h (Or.inl rfl) (⟨(bz_f (by first | assumption | exact decide_eq_false (by omega))).symm, rfl⟩) (Nat.le_of_ble_eq_true rfl) (Nat.le_of_ble_eq_true rfl) dX4_in_15
  · have c_1 := cNlt (rfl : (x : Int32).toInt = (x : Int32).toInt) hy c_1
    refine lv_iload_n hx hcd dX4_in_5 rfl (lv_at hl 0 rfl) ?_
    refine lv_iload_n hx hcd dX4_in_6 rfl (lv_at hl 2 rfl) ?_
    refine lv_icmp_gt (tgt := 14) hx hcd dX4_in_7 (by decide) (fun c_2 => ?_) (fun c_2 => ?_)
    · have c_2 := cLt hz (rfl : (x : Int32).toInt = (x : Int32).toInt) c_2
      refine lv_iconst (v := nI 0) hx hcd dX4_in_14 (by decide) ?_
      exact k_retz hQ G hret hlocks h (Or.inl rfl) (⟨(bz_f (by first | assumption | exact decide_eq_false (by omega))).symm, rfl⟩) (Nat.le_of_ble_eq_true rfl) (Nat.le_of_ble_eq_true rfl) dX4_in_15
    · have c_2 := cNlt hz (rfl : (x : Int32).toInt = (x : Int32).toInt) c_2
      refine lv_iconst (v := nI 1) hx hcd dX4_in_10 (by decide) ?_
      refine lv_goto (tgt := 15) hx hcd dX4_in_11 (by decide) ?_
      exact k_retz hQ G hret hlocks h (Or.inr rfl) (⟨(bz_t (by first | assumption | exact decide_eq_true (by omega))).symm, rfl⟩) (Nat.le_of_ble_eq_true rfl) (Nat.le_of_ble_eq_true rfl) dX4_in_15
set_option maxHeartbeats 4000000 in
set_option maxRecDepth 100000 in
/-- least(x, y) -/
theorem met_X4_least (l : Launch) (V : kEnv) (M : kMs) (x y : Int32) : kI l yX4_least cX4_least 2 (some .int) { frames := 0, cells := 0, slots := 0, locals := 0 } V (mWs V) [.int (x), .int (y)] (M) (fun r u => r = (if x.toInt < y.toInt then x else y) ∧ u = M) 0 0 := by
  refine kI_of (by decide +kernel) (Nat.le_of_ble_eq_true rfl) ?_
  intro pg e s m args below meth c G hret hlocks hC hB h ls hl Q hQ
  have hl : lv_has ls 2 [(0, .int (x)), (1, .int (y))] := hl
  have hx := G.1
  have hcd := G.2.1
  refine lv_iload_n hx hcd dX4_least_0 rfl (lv_at hl 0 rfl) ?_
  refine lv_iload_n hx hcd dX4_least_1 rfl (lv_at hl 1 rfl) ?_
  refine lv_icmp_ge (tgt := 9) hx hcd dX4_least_2 (by decide) (fun c_1 => ?_) (fun c_1 => ?_)
  · have c_1 := cLe (rfl : (y : Int32).toInt = (y : Int32).toInt) (rfl : (x : Int32).toInt = (x : Int32).toInt) c_1
    refine lv_iload_n hx hcd dX4_least_9 rfl (lv_at hl 1 rfl) ?_
    exact k_reti hQ G hret hlocks h (⟨(if_neg (by omega)).symm, rfl⟩) (Nat.le_of_ble_eq_true rfl) (Nat.le_of_ble_eq_true rfl) dX4_least_10
  · have c_1 := cNle (rfl : (y : Int32).toInt = (y : Int32).toInt) (rfl : (x : Int32).toInt = (x : Int32).toInt) c_1
    refine lv_iload_n hx hcd dX4_least_5 rfl (lv_at hl 0 rfl) ?_
    refine lv_goto (tgt := 10) hx hcd dX4_least_6 (by decide) ?_
    exact k_reti hQ G hret hlocks h (⟨(if_pos (by omega)).symm, rfl⟩) (Nat.le_of_ble_eq_true rfl) (Nat.le_of_ble_eq_true rfl) dX4_least_10
set_option maxHeartbeats 4000000 in
set_option maxRecDepth 100000 in
/-- most(x, y) -/
theorem met_X4_most (l : Launch) (V : kEnv) (M : kMs) (x y : Int32) : kI l yX4_most cX4_most 2 (some .int) { frames := 0, cells := 0, slots := 0, locals := 0 } V (mWs V) [.int (x), .int (y)] (M) (fun r u => r = (if y.toInt < x.toInt then x else y) ∧ u = M) 0 0 := by
  refine kI_of (by decide +kernel) (Nat.le_of_ble_eq_true rfl) ?_
  intro pg e s m args below meth c G hret hlocks hC hB h ls hl Q hQ
  have hl : lv_has ls 2 [(0, .int (x)), (1, .int (y))] := hl
  have hx := G.1
  have hcd := G.2.1
  refine lv_iload_n hx hcd dX4_most_0 rfl (lv_at hl 0 rfl) ?_
  refine lv_iload_n hx hcd dX4_most_1 rfl (lv_at hl 1 rfl) ?_
  refine lv_icmp_le (tgt := 9) hx hcd dX4_most_2 (by decide) (fun c_1 => ?_) (fun c_1 => ?_)
  · have c_1 := cLe (rfl : (x : Int32).toInt = (x : Int32).toInt) (rfl : (y : Int32).toInt = (y : Int32).toInt) c_1
    refine lv_iload_n hx hcd dX4_most_9 rfl (lv_at hl 1 rfl) ?_
    exact k_reti hQ G hret hlocks h (⟨(if_neg (by omega)).symm, rfl⟩) (Nat.le_of_ble_eq_true rfl) (Nat.le_of_ble_eq_true rfl) dX4_most_10
  · have c_1 := cNle (rfl : (x : Int32).toInt = (x : Int32).toInt) (rfl : (y : Int32).toInt = (y : Int32).toInt) c_1
    refine lv_iload_n hx hcd dX4_most_5 rfl (lv_at hl 0 rfl) ?_
    refine lv_goto (tgt := 10) hx hcd dX4_most_6 (by decide) ?_
    exact k_reti hQ G hret hlocks h (⟨(if_pos (by omega)).symm, rfl⟩) (Nat.le_of_ble_eq_true rfl) (Nat.le_of_ble_eq_true rfl) dX4_most_10
set_option maxHeartbeats 4000000 in
set_option maxRecDepth 100000 in
/-- of(k, w) -/
theorem met_X4_of (l : Launch) (V : kEnv) (M : kMs) (k w : Nat) (hk : k < 16) (hw : w < 5) : kI l yX4_of cX4_of 3 (some .int) { frames := 0, cells := 0, slots := 0, locals := 0 } V (mWs V) [.ref (eX V 500), .int (nI (k)), .int (nI (w))] (M) (fun r u => r = M.2 0 (7 + 5 * k + w) ∧ u = M) 0 0 := by
  refine kI_of (by decide +kernel) (Nat.le_of_ble_eq_true rfl) ?_
  intro pg e s m args below meth c G hret hlocks hC hB h ls hl Q hQ
  have hl : lv_has ls 3 [(0, .ref (eX V 500)), (1, .int (nI (k))), (2, .int (nI (w)))] := hl
  have hx := G.1
  have hcd := G.2.1
  refine lv_aload_n hx hcd dX4_of_0 rfl (lv_at hl 0 rfl) ?_
  refine r_mA G hC h 0 (by decide) mw_1472 dX4_of_1 ?_
  refine lv_bipush (v := nI 7) hx hcd dX4_of_4 (by decide) ?_
  refine lv_iconst (v := nI 5) hx hcd dX4_of_6 (by decide) ?_
  refine lv_iload_n hx hcd dX4_of_7 rfl (lv_at hl 1 rfl) ?_
  refine w_imul (v := nI (5 * k)) hx hcd dX4_of_8 (pk_mul _ _) ?_
  refine w_iadd (v := nI (7 + (5 * k))) hx hcd dX4_of_9 (nI_add _ _) ?_
  refine lv_iload_n hx hcd dX4_of_10 rfl (lv_at hl 2 rfl) ?_
  refine w_iadd (v := nI ((7 + (5 * k)) + w)) hx hcd dX4_of_11 (nI_add _ _) ?_
  refine r_mL G hC h 0 ((7 + (5 * k)) + w) (by decide) (by decide) rfl (show (7 + (5 * k)) + w < 115 by omega) (x := M.2 0 ((7 + (5 * k)) + w)) rfl dX4_of_12 ?_
  exact k_reti hQ G hret hlocks h (⟨rfl, rfl⟩) (Nat.le_of_ble_eq_true rfl) (Nat.le_of_ble_eq_true rfl) dX4_of_13
set_option maxHeartbeats 4000000 in
set_option maxRecDepth 100000 in
/-- lays(k, w, x) -/
theorem met_X4_lays (l : Launch) (V : kEnv) (M : kMs) (k w : Nat) (x : Int32) (hk : k < 16) (hw : w < 5) : kU l yX4_lays cX4_lays 4 { frames := 0, cells := 0, slots := 0, locals := 0 } V (mWs V) [.ref (eX V 500), .int (nI (k)), .int (nI (w)), .int (x)] (M) (fun u => u = gPut M 0 (7 + 5 * k + w) x) 0 0 := by
  refine kU_of (by decide +kernel) (Nat.le_of_ble_eq_true rfl) ?_
  intro pg e s m args below meth c G hret hlocks hC hB h ls hl Q hQ
  have hl : lv_has ls 4 [(0, .ref (eX V 500)), (1, .int (nI (k))), (2, .int (nI (w))), (3, .int (x))] := hl
  have hx := G.1
  have hcd := G.2.1
  refine lv_aload_n hx hcd dX4_lays_0 rfl (lv_at hl 0 rfl) ?_
  refine r_mA G hC h 0 (by decide) mw_1472 dX4_lays_1 ?_
  refine lv_bipush (v := nI 7) hx hcd dX4_lays_4 (by decide) ?_
  refine lv_iconst (v := nI 5) hx hcd dX4_lays_6 (by decide) ?_
  refine lv_iload_n hx hcd dX4_lays_7 rfl (lv_at hl 1 rfl) ?_
  refine w_imul (v := nI (5 * k)) hx hcd dX4_lays_8 (pk_mul _ _) ?_
  refine w_iadd (v := nI (7 + (5 * k))) hx hcd dX4_lays_9 (nI_add _ _) ?_
  refine lv_iload_n hx hcd dX4_lays_10 rfl (lv_at hl 2 rfl) ?_
  refine w_iadd (v := nI ((7 + (5 * k)) + w)) hx hcd dX4_lays_11 (nI_add _ _) ?_
  refine lv_iload_n hx hcd dX4_lays_12 rfl (lv_at hl 3 rfl) ?_
  refine r_mT G hC h 0 ((7 + (5 * k)) + w) (by decide) (by decide) rfl (show (7 + (5 * k)) + w < 115 by omega) rfl dX4_lays_13 (fun H locs h => ?_)
  exact k_retv hQ G hret hlocks h (rfl) (Nat.le_of_ble_eq_true rfl) (Nat.le_of_ble_eq_true rfl) dX4_lays_14
set_option maxHeartbeats 4000000 in
set_option maxRecDepth 100000 in
/-- isStory(x) -/
theorem met_X4_isStory (l : Launch) (V : kEnv) (M : kMs) (B : kBd) (hg : M.2 0 = gOf B) (hI : bI B) (x : Int32) : kI l yX4_isStory cX4_isStory 2 (some .boolean) { frames := 1, cells := 0, slots := 0, locals := 22 } V (mWs V) [.ref (eX V 500), .int (x)] (M) (fun r u => r = bz (inS (B.2 0) x) ∧ u = M) 0 0 := by
  refine kI_of (by decide +kernel) (Nat.le_of_ble_eq_true rfl) ?_
  intro pg e s m args below meth c G hret hlocks hC hB h ls hl Q hQ
  have hl : lv_has ls 2 [(0, .ref (eX V 500)), (1, .int (x))] := hl
  have hx := G.1
  have hcd := G.2.1
  have hI0 := hI
  obtain ⟨hz, hbn, hn, hm, h3, h54, h4, h7, hr, he, ha, hact, h5⟩ := hI
  refine lv_iload_n hx hcd dX4_isStory_0 rfl (lv_at hl 1 rfl) ?_
  refine lv_iconst (v := nI 0) hx hcd dX4_isStory_1 (by decide) ?_
  refine lv_aload_n hx hcd dX4_isStory_2 rfl (lv_at hl 0 rfl) ?_
  refine r_mA G hC h 0 (by decide) mw_1472 dX4_isStory_3 ?_
  refine lv_iconst (v := nI 0) hx hcd dX4_isStory_6 (by decide) ?_
  refine r_mL G hC h 0 (0) (by decide) (by decide) rfl (show 0 < 115 by omega) (x := nI (B.2 0)) (gOf_n hg (f := 0) (by decide)) dX4_isStory_7 ?_
  have q_1 := hz.2 0
  refine lv_iconst (v := nI 1) hx hcd dX4_isStory_8 (by decide) ?_
  refine w_isub (v := nI (B.2 0) - 1) hx hcd dX4_isStory_9 rfl ?_
  refine k_Si (As := [.int (x), .int (nI 0), .int (nI (B.2 0) - 1)]) (rest := []) G hC hB h (met_X4_in l V M x (nI 0) (nI (B.2 0) - 1) (0) (((B.2 0 : Nat) : Int) - 1) (tN (n := 0) (by decide)) (tA (n := B.2 0) (by omega))) mw_1542 ks_X4_in ⟨rfl, rfl⟩ ⟨Nat.le_of_ble_eq_true rfl, Nat.le_of_ble_eq_true rfl⟩ rfl rfl hl.1 (Nat.le_of_ble_eq_true rfl) dX4_isStory_10 ⟨Nat.le_of_ble_eq_true rfl, Nat.le_of_ble_eq_true rfl⟩ (fun r u H locs hp h => ?_)
  obtain ⟨hr9, hu9⟩ := hp
  obtain rfl : r = bz (decide (0 ≤ (x : Int32).toInt ∧ (x : Int32).toInt ≤ ((B.2 0 : Nat) : Int) - 1)) := hr9
  rw [hu9] at h
  exact k_retz hQ G hret hlocks h (bz01 _) (⟨congrArg bz (decide_eq_decide.mpr (by omega)), rfl⟩) (Nat.le_of_ble_eq_true rfl) (Nat.le_of_ble_eq_true rfl) dX4_isStory_13
set_option maxHeartbeats 4000000 in
set_option maxRecDepth 100000 in
/-- areStories(x, y) -/
theorem met_X4_areStories (l : Launch) (V : kEnv) (M : kMs) (B : kBd) (hg : M.2 0 = gOf B) (hI : bI B) (x y : Int32) : kI l yX4_areStories cX4_areStories 3 (some .boolean) { frames := 2, cells := 0, slots := 0, locals := 43 } V (mWs V) [.ref (eX V 500), .int (x), .int (y)] (M) (fun r u => r = bz (inS (B.2 0) x && inS (B.2 0) y) ∧ u = M) 0 0 := by
  refine kI_of (by decide +kernel) (Nat.le_of_ble_eq_true rfl) ?_
  intro pg e s m args below meth c G hret hlocks hC hB h ls hl Q hQ
  have hl : lv_has ls 3 [(0, .ref (eX V 500)), (1, .int (x)), (2, .int (y))] := hl
  have hx := G.1
  have hcd := G.2.1
  have hI0 := hI
  obtain ⟨hz, hbn, hn, hm, h3, h54, h4, h7, hr, he, ha, hact, h5⟩ := hI
  refine lv_aload_n hx hcd dX4_areStories_0 rfl (lv_at hl 0 rfl) ?_
  refine lv_iload_n hx hcd dX4_areStories_1 rfl (lv_at hl 1 rfl) ?_
  refine k_Vi (As := [.int (x)]) (rest := []) (b := eX V 500) G hC hB h (met_X4_isStory l V M B hg hI0 x) mw_1564 kv_X4_isStory ⟨rfl, rfl⟩ ⟨Nat.le_of_ble_eq_true rfl, Nat.le_of_ble_eq_true rfl⟩ (r_mV hC h) rfl rfl hl.1 (Nat.le_of_ble_eq_true rfl) dX4_areStories_2 ⟨Nat.le_of_ble_eq_true rfl, Nat.le_of_ble_eq_true rfl⟩ (fun r u H locs hp h => ?_)
  obtain ⟨hr9, hu9⟩ := hp
  obtain rfl : r = bz (inS (B.2 0) x) := hr9
  rw [hu9] at h
  refine lv_if_eq (tgt := 20) hx hcd dX4_areStories_5 (by decide) (fun c_1 => ?_) (fun c_1 => ?_)
  · have c_1 := bz0 c_1
    refine lv_iconst (v := nI 0) hx hcd dX4_areStories_20 (by decide) ?_
    exact k_retz hQ G hret hlocks h (Or.inl rfl) (⟨(bz_f (by first | assumption | exact band_f1 (by assumption) | exact band_f2 (by assumption))).symm, rfl⟩) (Nat.le_of_ble_eq_true rfl) (Nat.le_of_ble_eq_true rfl) dX4_areStories_21
  · have c_1 := bz1 c_1
    refine lv_aload_n hx hcd dX4_areStories_8 rfl (lv_at hl 0 rfl) ?_
    refine lv_iload_n hx hcd dX4_areStories_9 rfl (lv_at hl 2 rfl) ?_
    refine k_Vi (As := [.int (y)]) (rest := []) (b := eX V 500) G hC hB h (met_X4_isStory l V M B hg hI0 y) mw_1564 kv_X4_isStory ⟨rfl, rfl⟩ ⟨Nat.le_of_ble_eq_true rfl, Nat.le_of_ble_eq_true rfl⟩ (r_mV hC h) rfl rfl hl.1 (Nat.le_of_ble_eq_true rfl) dX4_areStories_10 ⟨Nat.le_of_ble_eq_true rfl, Nat.le_of_ble_eq_true rfl⟩ (fun r u H locs hp h => ?_)
    obtain ⟨hr9, hu9⟩ := hp
    obtain rfl : r = bz (inS (B.2 0) y) := hr9
    rw [hu9] at h
    refine lv_if_eq (tgt := 20) hx hcd dX4_areStories_13 (by decide) (fun c_2 => ?_) (fun c_2 => ?_)
    · have c_2 := bz0 c_2
      refine lv_iconst (v := nI 0) hx hcd dX4_areStories_20 (by decide) ?_
      exact k_retz hQ G hret hlocks h (Or.inl rfl) (⟨(bz_f (by first | assumption | exact band_f1 (by assumption) | exact band_f2 (by assumption))).symm, rfl⟩) (Nat.le_of_ble_eq_true rfl) (Nat.le_of_ble_eq_true rfl) dX4_areStories_21
    · have c_2 := bz1 c_2
      refine lv_iconst (v := nI 1) hx hcd dX4_areStories_16 (by decide) ?_
      refine lv_goto (tgt := 21) hx hcd dX4_areStories_17 (by decide) ?_
      exact k_retz hQ G hret hlocks h (Or.inr rfl) (⟨(bz_t (by first | assumption | exact band_t (by assumption) (by assumption))).symm, rfl⟩) (Nat.le_of_ble_eq_true rfl) (Nat.le_of_ble_eq_true rfl) dX4_areStories_21
set_option maxHeartbeats 4000000 in
set_option maxRecDepth 100000 in
/-- isEstimate(x) -/
theorem met_X4_isEstimate (l : Launch) (V : kEnv) (M : kMs) (x : Int32) : kI l yX4_isEstimate cX4_isEstimate 1 (some .boolean) { frames := 1, cells := 0, slots := 0, locals := 22 } V (mWs V) [.int (x)] (M) (fun r u => r = bz (isEst x.toInt) ∧ u = M) 0 0 := by
  refine kI_of (by decide +kernel) (Nat.le_of_ble_eq_true rfl) ?_
  intro pg e s m args below meth c G hret hlocks hC hB h ls hl Q hQ
  have hl : lv_has ls 1 [(0, .int (x))] := hl
  have hx := G.1
  have hcd := G.2.1
  refine lv_iload_n hx hcd dX4_isEstimate_0 rfl (lv_at hl 0 rfl) ?_
  refine lv_iconst (v := nI 1) hx hcd dX4_isEstimate_1 (by decide) ?_
  refine lv_iconst (v := nI 3) hx hcd dX4_isEstimate_2 (by decide) ?_
  refine k_Si (As := [.int (x), .int (nI 1), .int (nI 3)]) (rest := []) G hC hB h (met_X4_in l V M x (nI 1) (nI 3) (1) (3) (tN (n := 1) (by decide)) (tN (n := 3) (by decide))) mw_1542 ks_X4_in ⟨rfl, rfl⟩ ⟨Nat.le_of_ble_eq_true rfl, Nat.le_of_ble_eq_true rfl⟩ rfl rfl hl.1 (Nat.le_of_ble_eq_true rfl) dX4_isEstimate_3 ⟨Nat.le_of_ble_eq_true rfl, Nat.le_of_ble_eq_true rfl⟩ (fun r u H locs hp h => ?_)
  obtain ⟨hr9, hu9⟩ := hp
  obtain rfl : r = bz (decide (1 ≤ (x : Int32).toInt ∧ (x : Int32).toInt ≤ 3)) := hr9
  rw [hu9] at h
  refine lv_if_ne (tgt := 26) hx hcd dX4_isEstimate_6 (by decide) (fun c_1 => ?_) (fun c_1 => ?_)
  · have c_1 := bz1 c_1
    have f_2 := of_decide_eq_true c_1
    refine lv_iconst (v := nI 1) hx hcd dX4_isEstimate_26 (by decide) ?_
    refine lv_goto (tgt := 31) hx hcd dX4_isEstimate_27 (by decide) ?_
    exact k_retz hQ G hret hlocks h (Or.inr rfl) (⟨(bz_t (decide_eq_true (by omega))).symm, rfl⟩) (Nat.le_of_ble_eq_true rfl) (Nat.le_of_ble_eq_true rfl) dX4_isEstimate_31
  · have c_1 := bz0 c_1
    have f_3 := of_decide_eq_false c_1
    refine lv_iload_n hx hcd dX4_isEstimate_9 rfl (lv_at hl 0 rfl) ?_
    refine lv_iconst (v := nI 5) hx hcd dX4_isEstimate_10 (by decide) ?_
    refine lv_icmp_eq (tgt := 26) hx hcd dX4_isEstimate_11 (by decide) (fun c_4 => ?_) (fun c_4 => ?_)
    · have c_4 := cEq (rfl : (x : Int32).toInt = (x : Int32).toInt) (tN (n := 5) (by decide)) c_4
      refine lv_iconst (v := nI 1) hx hcd dX4_isEstimate_26 (by decide) ?_
      refine lv_goto (tgt := 31) hx hcd dX4_isEstimate_27 (by decide) ?_
      exact k_retz hQ G hret hlocks h (Or.inr rfl) (⟨(bz_t (decide_eq_true (by omega))).symm, rfl⟩) (Nat.le_of_ble_eq_true rfl) (Nat.le_of_ble_eq_true rfl) dX4_isEstimate_31
    · have c_4 := cNe (rfl : (x : Int32).toInt = (x : Int32).toInt) (tN (n := 5) (by decide)) c_4
      refine lv_iload_n hx hcd dX4_isEstimate_14 rfl (lv_at hl 0 rfl) ?_
      refine lv_bipush (v := nI 8) hx hcd dX4_isEstimate_15 (by decide) ?_
      refine lv_icmp_eq (tgt := 26) hx hcd dX4_isEstimate_17 (by decide) (fun c_5 => ?_) (fun c_5 => ?_)
      · have c_5 := cEq (rfl : (x : Int32).toInt = (x : Int32).toInt) (tN (n := 8) (by decide)) c_5
        refine lv_iconst (v := nI 1) hx hcd dX4_isEstimate_26 (by decide) ?_
        refine lv_goto (tgt := 31) hx hcd dX4_isEstimate_27 (by decide) ?_
        exact k_retz hQ G hret hlocks h (Or.inr rfl) (⟨(bz_t (decide_eq_true (by omega))).symm, rfl⟩) (Nat.le_of_ble_eq_true rfl) (Nat.le_of_ble_eq_true rfl) dX4_isEstimate_31
      · have c_5 := cNe (rfl : (x : Int32).toInt = (x : Int32).toInt) (tN (n := 8) (by decide)) c_5
        refine lv_iload_n hx hcd dX4_isEstimate_20 rfl (lv_at hl 0 rfl) ?_
        refine lv_bipush (v := nI 13) hx hcd dX4_isEstimate_21 (by decide) ?_
        refine lv_icmp_ne (tgt := 30) hx hcd dX4_isEstimate_23 (by decide) (fun c_6 => ?_) (fun c_6 => ?_)
        · have c_6 := cNe (rfl : (x : Int32).toInt = (x : Int32).toInt) (tN (n := 13) (by decide)) c_6
          refine lv_iconst (v := nI 0) hx hcd dX4_isEstimate_30 (by decide) ?_
          exact k_retz hQ G hret hlocks h (Or.inl rfl) (⟨(bz_f (decide_eq_false (by omega))).symm, rfl⟩) (Nat.le_of_ble_eq_true rfl) (Nat.le_of_ble_eq_true rfl) dX4_isEstimate_31
        · have c_6 := cEq (rfl : (x : Int32).toInt = (x : Int32).toInt) (tN (n := 13) (by decide)) c_6
          refine lv_iconst (v := nI 1) hx hcd dX4_isEstimate_26 (by decide) ?_
          refine lv_goto (tgt := 31) hx hcd dX4_isEstimate_27 (by decide) ?_
          exact k_retz hQ G hret hlocks h (Or.inr rfl) (⟨(bz_t (decide_eq_true (by omega))).symm, rfl⟩) (Nat.le_of_ble_eq_true rfl) (Nat.le_of_ble_eq_true rfl) dX4_isEstimate_31
set_option maxHeartbeats 4000000 in
set_option maxRecDepth 100000 in
/-- isOver(k) -/
theorem met_X4_isOver (l : Launch) (V : kEnv) (M : kMs) (B : kBd) (hg : M.2 0 = gOf B) (hI : bI B) (k : Nat) (hk : k < B.2 0) : kI l yX4_isOver cX4_isOver 2 (some .boolean) { frames := 1, cells := 0, slots := 0, locals := 22 } V (mWs V) [.ref (eX V 500), .int (nI (k))] (M) (fun r u => r = bz (decide (B.1 1 k = 0)) ∧ u = M) 0 0 := by
  refine kI_of (by decide +kernel) (Nat.le_of_ble_eq_true rfl) ?_
  intro pg e s m args below meth c G hret hlocks hC hB h ls hl Q hQ
  have hl : lv_has ls 2 [(0, .ref (eX V 500)), (1, .int (nI (k)))] := hl
  have hx := G.1
  have hcd := G.2.1
  have hI0 := hI
  obtain ⟨hz, hbn, hn, hm, h3, h54, h4, h7, hr, he, ha, hact, h5⟩ := hI
  refine lv_aload_n hx hcd dX4_isOver_0 rfl (lv_at hl 0 rfl) ?_
  refine lv_iload_n hx hcd dX4_isOver_1 rfl (lv_at hl 1 rfl) ?_
  refine lv_iconst (v := nI 1) hx hcd dX4_isOver_2 (by decide) ?_
  refine k_Vi (As := [.int (nI (k)), .int (nI 1)]) (rest := []) (b := eX V 500) G hC hB h (met_X4_of l V M k 1 (by omega) (by decide)) mw_1572 kv_X4_of ⟨rfl, rfl⟩ ⟨Nat.le_of_ble_eq_true rfl, Nat.le_of_ble_eq_true rfl⟩ (r_mV hC h) rfl rfl hl.1 (Nat.le_of_ble_eq_true rfl) dX4_isOver_3 ⟨Nat.le_of_ble_eq_true rfl, Nat.le_of_ble_eq_true rfl⟩ (fun r u H locs hp h => ?_)
  obtain ⟨hr9, hu9⟩ := hp
  obtain rfl : r = nI (B.1 1 k) := (hr9.trans (gOf_s hg hn (k := k) (w := 1) (by omega) (by decide)))
  rw [hu9] at h
  have q_1 := hz.1 1 k
  refine lv_if_ne (tgt := 13) hx hcd dX4_isOver_6 (by decide) (fun c_2 => ?_) (fun c_2 => ?_)
  · have c_2 := cNe (tN (n := B.1 1 k) (by omega)) t0 c_2
    refine lv_iconst (v := nI 0) hx hcd dX4_isOver_13 (by decide) ?_
    exact k_retz hQ G hret hlocks h (Or.inl rfl) (⟨(bz_f (by first | assumption | exact decide_eq_false (by omega))).symm, rfl⟩) (Nat.le_of_ble_eq_true rfl) (Nat.le_of_ble_eq_true rfl) dX4_isOver_14
  · have c_2 := cEq (tN (n := B.1 1 k) (by omega)) t0 c_2
    refine lv_iconst (v := nI 1) hx hcd dX4_isOver_9 (by decide) ?_
    refine lv_goto (tgt := 14) hx hcd dX4_isOver_10 (by decide) ?_
    exact k_retz hQ G hret hlocks h (Or.inr rfl) (⟨(bz_t (by first | assumption | exact decide_eq_true (by omega))).symm, rfl⟩) (Nat.le_of_ble_eq_true rfl) (Nat.le_of_ble_eq_true rfl) dX4_isOver_14
set_option maxHeartbeats 4000000 in
set_option maxRecDepth 100000 in
/-- bars(k, j) -/
theorem met_X4_bars (l : Launch) (V : kEnv) (M : kMs) (B : kBd) (hg : M.2 0 = gOf B) (hI : bI B) (k : Nat) (hk : k < B.2 0) (j : Nat) (hj : j < 31) : kI l yX4_bars cX4_bars 3 (some .boolean) { frames := 1, cells := 0, slots := 0, locals := 22 } V (mWs V) [.ref (eX V 500), .int (nI (k)), .int (nI (j))] (M) (fun r u => r = bz ((B.1 2 k).testBit j) ∧ u = M) 0 0 := by
  refine kI_of (by decide +kernel) (Nat.le_of_ble_eq_true rfl) ?_
  intro pg e s m args below meth c G hret hlocks hC hB h ls hl Q hQ
  have hl : lv_has ls 3 [(0, .ref (eX V 500)), (1, .int (nI (k))), (2, .int (nI (j)))] := hl
  have hx := G.1
  have hcd := G.2.1
  have hI0 := hI
  obtain ⟨hz, hbn, hn, hm, h3, h54, h4, h7, hr, he, ha, hact, h5⟩ := hI
  refine lv_aload_n hx hcd dX4_bars_0 rfl (lv_at hl 0 rfl) ?_
  refine lv_iload_n hx hcd dX4_bars_1 rfl (lv_at hl 1 rfl) ?_
  refine lv_iconst (v := nI 4) hx hcd dX4_bars_2 (by decide) ?_
  refine k_Vi (As := [.int (nI (k)), .int (nI 4)]) (rest := []) (b := eX V 500) G hC hB h (met_X4_of l V M k 4 (by omega) (by decide)) mw_1572 kv_X4_of ⟨rfl, rfl⟩ ⟨Nat.le_of_ble_eq_true rfl, Nat.le_of_ble_eq_true rfl⟩ (r_mV hC h) rfl rfl hl.1 (Nat.le_of_ble_eq_true rfl) dX4_bars_3 ⟨Nat.le_of_ble_eq_true rfl, Nat.le_of_ble_eq_true rfl⟩ (fun r u H locs hp h => ?_)
  obtain ⟨hr9, hu9⟩ := hp
  obtain rfl : r = nI (B.1 2 k) := (hr9.trans (gOf_s hg hn (k := k) (w := 4) (by omega) (by decide)))
  rw [hu9] at h
  have q_1 := hz.1 2 k
  refine lv_iload_n hx hcd dX4_bars_6 rfl (lv_at hl 2 rfl) ?_
  refine w_ishr (v := nI ((B.1 2 k) / 2 ^ j)) hx hcd dX4_bars_7 (n_shr (by omega) (by omega)) ?_
  refine lv_iconst (v := nI 1) hx hcd dX4_bars_8 (by decide) ?_
  refine w_iand (v := nI (((B.1 2 k) / 2 ^ j) % 2)) hx hcd dX4_bars_9 (n_and1' _) ?_
  refine lv_iconst (v := nI 1) hx hcd dX4_bars_10 (by decide) ?_
  refine lv_icmp_ne (tgt := 18) hx hcd dX4_bars_11 (by decide) (fun c_4 => ?_) (fun c_4 => ?_)
  · have c_4 := cNe (tN (n := ((B.1 2 k) / 2 ^ j) % 2) (by omega)) (tN (n := 1) (by decide)) c_4
    refine lv_iconst (v := nI 0) hx hcd dX4_bars_18 (by decide) ?_
    exact k_retz hQ G hret hlocks h (Or.inl rfl) (⟨(bz_f (tb_f (by omega))).symm, rfl⟩) (Nat.le_of_ble_eq_true rfl) (Nat.le_of_ble_eq_true rfl) dX4_bars_19
  · have c_4 := cEq (tN (n := ((B.1 2 k) / 2 ^ j) % 2) (by omega)) (tN (n := 1) (by decide)) c_4
    refine lv_iconst (v := nI 1) hx hcd dX4_bars_14 (by decide) ?_
    refine lv_goto (tgt := 19) hx hcd dX4_bars_15 (by decide) ?_
    exact k_retz hQ G hret hlocks h (Or.inr rfl) (⟨(bz_t (tb_t (by omega))).symm, rfl⟩) (Nat.le_of_ble_eq_true rfl) (Nat.le_of_ble_eq_true rfl) dX4_bars_19
set_option maxHeartbeats 4000000 in
set_option maxRecDepth 100000 in
/-- barsOf(k) -/
theorem met_X4_barsOf (l : Launch) (V : kEnv) (M : kMs) (B : kBd) (hg : M.2 0 = gOf B) (hI : bI B) (k : Nat) (hk : k < B.2 0) : kI l yX4_barsOf cX4_barsOf 4 (some .int) { frames := 2, cells := 0, slots := 0, locals := 44 } V (mWs V) [.ref (eX V 500), .int (nI (k))] (M) (fun r u => r = nI (sumUp (fun j => if (B.1 2 k).testBit j then 1 else 0) (B.2 0)) ∧ u = M) 0 0 := by
  refine kI_of (by decide +kernel) (Nat.le_of_ble_eq_true rfl) ?_
  intro pg e s m args below meth c G hret hlocks hC hB h ls hl Q hQ
  have hl : lv_has ls 4 [(0, .ref (eX V 500)), (1, .int (nI (k)))] := hl
  have hx := G.1
  have hcd := G.2.1
  have hI0 := hI
  obtain ⟨hz, hbn, hn, hm, h3, h54, h4, h7, hr, he, ha, hact, h5⟩ := hI
  refine lv_iconst (v := nI 0) hx hcd dX4_barsOf_0 (by decide) ?_
  refine lv_istore_n (lv' := [(2, .int (nI 0)), (0, .ref (eX V 500)), (1, .int (nI (k)))]) hx hcd dX4_barsOf_1 rfl hl (by decide) rfl (fun ls hl => ?_)
  refine lv_iconst (v := nI 0) hx hcd dX4_barsOf_2 (by decide) ?_
  refine lv_istore_n (lv' := [(3, .int (nI 0)), (2, .int (nI 0)), (0, .ref (eX V 500)), (1, .int (nI (k)))]) hx hcd dX4_barsOf_3 rfl hl (by decide) rfl (fun ls hl => ?_)
  have L_1 : ∀ (fu_3 : Nat) (i : Nat) (acc : Nat) (hi : i ≤ B.2 0) (ha9 : acc = sumUp (fun j => if (B.1 2 k).testBit j then 1 else 0) i) (hb2 : acc ≤ i * 65536), B.2 0 - i < fu_3 → ∀ (H : Heap) (locs : List Loc), cH V s H locs (mWs V M) → ∀ ls : Array Slot, lv_has ls 4 [(2, .int (nI (acc))), (3, .int (nI (i))), (0, .ref (eX V 500)), (1, .int (nI (k)))] → W pg l e { frames := 2, cells := 0, slots := 0, locals := 44 } s m args below meth c H locs 0 0 Q (F0 m 4 ls []) := by
    intro fu_3
    induction fu_3 with
    | zero => intro i acc hi ha9 hb2 hm; exact absurd hm (Nat.not_lt_zero _)
    | succ fu_3 ih_2 =>
      intro i acc hi ha9 hb2 hm H locs h ls hl
      refine lv_iload_n hx hcd dX4_barsOf_4 rfl (lv_at hl 1 rfl) ?_
      refine lv_aload_n hx hcd dX4_barsOf_5 rfl (lv_at hl 2 rfl) ?_
      refine r_mA G hC h 0 (by decide) mw_1472 dX4_barsOf_6 ?_
      refine lv_iconst (v := nI 0) hx hcd dX4_barsOf_9 (by decide) ?_
      refine r_mL G hC h 0 (0) (by decide) (by decide) rfl (show 0 < 115 by omega) (x := nI (B.2 0)) (gOf_n hg (f := 0) (by decide)) dX4_barsOf_10 ?_
      have q_4 := hz.2 0
      refine lv_icmp_ge (tgt := 37) hx hcd dX4_barsOf_11 (by decide) (fun c_5 => ?_) (fun c_5 => ?_)
      · have c_5 := cLe (tN (n := B.2 0) (by omega)) (tN (n := i) (by omega)) c_5
        refine lv_iload_n hx hcd dX4_barsOf_37 rfl (lv_at hl 0 rfl) ?_
        exact k_reti hQ G hret hlocks h (⟨by rw [ha9, show i = B.2 0 by omega], rfl⟩) (Nat.le_of_ble_eq_true rfl) (Nat.le_of_ble_eq_true rfl) dX4_barsOf_38
      · have c_5 := cNle (tN (n := B.2 0) (by omega)) (tN (n := i) (by omega)) c_5
        refine lv_iload_n hx hcd dX4_barsOf_14 rfl (lv_at hl 0 rfl) ?_
        refine lv_aload_n hx hcd dX4_barsOf_15 rfl (lv_at hl 2 rfl) ?_
        refine lv_iload_n hx hcd dX4_barsOf_16 rfl (lv_at hl 3 rfl) ?_
        refine lv_iload_n hx hcd dX4_barsOf_17 rfl (lv_at hl 1 rfl) ?_
        refine k_Vi (As := [.int (nI (k)), .int (nI (i))]) (rest := [.int (nI (acc))]) (b := eX V 500) G hC hB h (met_X4_bars l V M B hg hI0 k (by omega) i (by omega)) mw_1591 kv_X4_bars ⟨rfl, rfl⟩ ⟨Nat.le_of_ble_eq_true rfl, Nat.le_of_ble_eq_true rfl⟩ (r_mV hC h) rfl rfl hl.1 (Nat.le_of_ble_eq_true rfl) dX4_barsOf_18 ⟨Nat.le_of_ble_eq_true rfl, Nat.le_of_ble_eq_true rfl⟩ (fun r u H locs hp h => ?_)
        obtain ⟨hr9, hu9⟩ := hp
        obtain rfl : r = bz ((B.1 2 k).testBit i) := hr9
        rw [hu9] at h
        refine lv_if_eq (tgt := 28) hx hcd dX4_barsOf_21 (by decide) (fun c_6 => ?_) (fun c_6 => ?_)
        · have c_6 := bz0 c_6
          refine lv_iconst (v := nI 0) hx hcd dX4_barsOf_28 (by decide) ?_
          refine w_iadd (v := nI (acc + 0)) hx hcd dX4_barsOf_29 (nI_add _ _) ?_
          refine lv_istore_n (lv' := [(2, .int (nI (acc + 0))), (3, .int (nI (i))), (0, .ref (eX V 500)), (1, .int (nI (k)))]) hx hcd dX4_barsOf_30 rfl hl (by decide) rfl (fun ls hl => ?_)
          refine lv_iinc (v := nI (i + 1)) (lv' := [(3, .int (nI (i + 1))), (2, .int (nI (acc + 0))), (0, .ref (eX V 500)), (1, .int (nI (k)))]) hx hcd dX4_barsOf_31 hl (k := 1) rfl (by exact nI_add (i) 1) (by decide) rfl (fun ls hl => ?_)
          refine lv_goto (tgt := 4) hx hcd dX4_barsOf_34 (by decide) ?_
          exact ih_2 (i + 1) (acc + 0) (by omega) (sumUp_t ha9 (if_neg (by rw [Bool.not_eq_true]; assumption))) (acc_in hb2 (by omega)) (by omega) _ _ h _ (lv_sub hl [1, 0, 2, 3] rfl)
        · have c_6 := bz1 c_6
          refine lv_iconst (v := nI 1) hx hcd dX4_barsOf_24 (by decide) ?_
          refine lv_goto (tgt := 29) hx hcd dX4_barsOf_25 (by decide) ?_
          refine w_iadd (v := nI (acc + 1)) hx hcd dX4_barsOf_29 (nI_add _ _) ?_
          refine lv_istore_n (lv' := [(2, .int (nI (acc + 1))), (3, .int (nI (i))), (0, .ref (eX V 500)), (1, .int (nI (k)))]) hx hcd dX4_barsOf_30 rfl hl (by decide) rfl (fun ls hl => ?_)
          refine lv_iinc (v := nI (i + 1)) (lv' := [(3, .int (nI (i + 1))), (2, .int (nI (acc + 1))), (0, .ref (eX V 500)), (1, .int (nI (k)))]) hx hcd dX4_barsOf_31 hl (k := 1) rfl (by exact nI_add (i) 1) (by decide) rfl (fun ls hl => ?_)
          refine lv_goto (tgt := 4) hx hcd dX4_barsOf_34 (by decide) ?_
          exact ih_2 (i + 1) (acc + 1) (by omega) (sumUp_t ha9 (if_pos (by assumption))) (acc_in hb2 (by omega)) (by omega) _ _ h _ (lv_sub hl [1, 0, 2, 3] rfl)
  exact L_1 (B.2 0 + 1) 0 0 (by omega) rfl (by omega) (by omega) _ _ h _ (lv_sub hl [1, 0, 2, 3] rfl)
set_option maxHeartbeats 4000000 in
set_option maxRecDepth 100000 in
/-- open(k) -/
theorem met_X4_open (l : Launch) (V : kEnv) (M : kMs) (B : kBd) (hg : M.2 0 = gOf B) (hI : bI B) (k : Nat) (hk : k < B.2 0) : kI l yX4_open cX4_open 4 (some .int) { frames := 2, cells := 0, slots := 0, locals := 44 } V (mWs V) [.ref (eX V 500), .int (nI (k))] (M) (fun r u => r = nI (sumUp (fun j => if (B.1 2 k).testBit j ∧ B.1 1 j ≠ 0 then 1 else 0) (B.2 0)) ∧ u = M) 0 0 := by
  refine kI_of (by decide +kernel) (Nat.le_of_ble_eq_true rfl) ?_
  intro pg e s m args below meth c G hret hlocks hC hB h ls hl Q hQ
  have hl : lv_has ls 4 [(0, .ref (eX V 500)), (1, .int (nI (k)))] := hl
  have hx := G.1
  have hcd := G.2.1
  have hI0 := hI
  obtain ⟨hz, hbn, hn, hm, h3, h54, h4, h7, hr, he, ha, hact, h5⟩ := hI
  refine lv_iconst (v := nI 0) hx hcd dX4_open_0 (by decide) ?_
  refine lv_istore_n (lv' := [(2, .int (nI 0)), (0, .ref (eX V 500)), (1, .int (nI (k)))]) hx hcd dX4_open_1 rfl hl (by decide) rfl (fun ls hl => ?_)
  refine lv_iconst (v := nI 0) hx hcd dX4_open_2 (by decide) ?_
  refine lv_istore_n (lv' := [(3, .int (nI 0)), (2, .int (nI 0)), (0, .ref (eX V 500)), (1, .int (nI (k)))]) hx hcd dX4_open_3 rfl hl (by decide) rfl (fun ls hl => ?_)
  have L_1 : ∀ (fu_3 : Nat) (i : Nat) (acc : Nat) (hi : i ≤ B.2 0) (ha9 : acc = sumUp (fun j => if (B.1 2 k).testBit j ∧ B.1 1 j ≠ 0 then 1 else 0) i) (hb2 : acc ≤ i * 65536), B.2 0 - i < fu_3 → ∀ (H : Heap) (locs : List Loc), cH V s H locs (mWs V M) → ∀ ls : Array Slot, lv_has ls 4 [(2, .int (nI (acc))), (3, .int (nI (i))), (0, .ref (eX V 500)), (1, .int (nI (k)))] → W pg l e { frames := 2, cells := 0, slots := 0, locals := 44 } s m args below meth c H locs 0 0 Q (F0 m 4 ls []) := by
    intro fu_3
    induction fu_3 with
    | zero => intro i acc hi ha9 hb2 hm; exact absurd hm (Nat.not_lt_zero _)
    | succ fu_3 ih_2 =>
      intro i acc hi ha9 hb2 hm H locs h ls hl
      refine lv_iload_n hx hcd dX4_open_4 rfl (lv_at hl 1 rfl) ?_
      refine lv_aload_n hx hcd dX4_open_5 rfl (lv_at hl 2 rfl) ?_
      refine r_mA G hC h 0 (by decide) mw_1472 dX4_open_6 ?_
      refine lv_iconst (v := nI 0) hx hcd dX4_open_9 (by decide) ?_
      refine r_mL G hC h 0 (0) (by decide) (by decide) rfl (show 0 < 115 by omega) (x := nI (B.2 0)) (gOf_n hg (f := 0) (by decide)) dX4_open_10 ?_
      have q_4 := hz.2 0
      refine lv_icmp_ge (tgt := 45) hx hcd dX4_open_11 (by decide) (fun c_5 => ?_) (fun c_5 => ?_)
      · have c_5 := cLe (tN (n := B.2 0) (by omega)) (tN (n := i) (by omega)) c_5
        refine lv_iload_n hx hcd dX4_open_45 rfl (lv_at hl 0 rfl) ?_
        exact k_reti hQ G hret hlocks h (⟨by rw [ha9, show i = B.2 0 by omega], rfl⟩) (Nat.le_of_ble_eq_true rfl) (Nat.le_of_ble_eq_true rfl) dX4_open_46
      · have c_5 := cNle (tN (n := B.2 0) (by omega)) (tN (n := i) (by omega)) c_5
        refine lv_iload_n hx hcd dX4_open_14 rfl (lv_at hl 0 rfl) ?_
        refine lv_aload_n hx hcd dX4_open_15 rfl (lv_at hl 2 rfl) ?_
        refine lv_iload_n hx hcd dX4_open_16 rfl (lv_at hl 3 rfl) ?_
        refine lv_iload_n hx hcd dX4_open_17 rfl (lv_at hl 1 rfl) ?_
        refine k_Vi (As := [.int (nI (k)), .int (nI (i))]) (rest := [.int (nI (acc))]) (b := eX V 500) G hC hB h (met_X4_bars l V M B hg hI0 k (by omega) i (by omega)) mw_1591 kv_X4_bars ⟨rfl, rfl⟩ ⟨Nat.le_of_ble_eq_true rfl, Nat.le_of_ble_eq_true rfl⟩ (r_mV hC h) rfl rfl hl.1 (Nat.le_of_ble_eq_true rfl) dX4_open_18 ⟨Nat.le_of_ble_eq_true rfl, Nat.le_of_ble_eq_true rfl⟩ (fun r u H locs hp h => ?_)
        obtain ⟨hr9, hu9⟩ := hp
        obtain rfl : r = bz ((B.1 2 k).testBit i) := hr9
        rw [hu9] at h
        refine lv_if_eq (tgt := 36) hx hcd dX4_open_21 (by decide) (fun c_6 => ?_) (fun c_6 => ?_)
        · have c_6 := bz0 c_6
          refine lv_iconst (v := nI 0) hx hcd dX4_open_36 (by decide) ?_
          refine w_iadd (v := nI (acc + 0)) hx hcd dX4_open_37 (nI_add _ _) ?_
          refine lv_istore_n (lv' := [(2, .int (nI (acc + 0))), (3, .int (nI (i))), (0, .ref (eX V 500)), (1, .int (nI (k)))]) hx hcd dX4_open_38 rfl hl (by decide) rfl (fun ls hl => ?_)
          refine lv_iinc (v := nI (i + 1)) (lv' := [(3, .int (nI (i + 1))), (2, .int (nI (acc + 0))), (0, .ref (eX V 500)), (1, .int (nI (k)))]) hx hcd dX4_open_39 hl (k := 1) rfl (by exact nI_add (i) 1) (by decide) rfl (fun ls hl => ?_)
          refine lv_goto (tgt := 4) hx hcd dX4_open_42 (by decide) ?_
          exact ih_2 (i + 1) (acc + 0) (by omega) (sumUp_t ha9 (if_neg (fun z => by first | (exact Bool.noConfusion (z.1.symm.trans (by assumption))) | omega))) (acc_in hb2 (by omega)) (by omega) _ _ h _ (lv_sub hl [1, 0, 2, 3] rfl)
        · have c_6 := bz1 c_6
          refine lv_aload_n hx hcd dX4_open_24 rfl (lv_at hl 2 rfl) ?_
          refine lv_iload_n hx hcd dX4_open_25 rfl (lv_at hl 1 rfl) ?_
          refine k_Vi (As := [.int (nI (i))]) (rest := [.int (nI (acc))]) (b := eX V 500) G hC hB h (met_X4_isOver l V M B hg hI0 i (by omega)) mw_1568 kv_X4_isOver ⟨rfl, rfl⟩ ⟨Nat.le_of_ble_eq_true rfl, Nat.le_of_ble_eq_true rfl⟩ (r_mV hC h) rfl rfl hl.1 (Nat.le_of_ble_eq_true rfl) dX4_open_26 ⟨Nat.le_of_ble_eq_true rfl, Nat.le_of_ble_eq_true rfl⟩ (fun r u H locs hp h => ?_)
          obtain ⟨hr9, hu9⟩ := hp
          obtain rfl : r = bz (decide (B.1 1 i = 0)) := hr9
          rw [hu9] at h
          refine lv_if_ne (tgt := 36) hx hcd dX4_open_29 (by decide) (fun c_8 => ?_) (fun c_8 => ?_)
          · have c_8 := bz1 c_8
            have f_9 := of_decide_eq_true c_8
            refine lv_iconst (v := nI 0) hx hcd dX4_open_36 (by decide) ?_
            refine w_iadd (v := nI (acc + 0)) hx hcd dX4_open_37 (nI_add _ _) ?_
            refine lv_istore_n (lv' := [(2, .int (nI (acc + 0))), (3, .int (nI (i))), (0, .ref (eX V 500)), (1, .int (nI (k)))]) hx hcd dX4_open_38 rfl hl (by decide) rfl (fun ls hl => ?_)
            refine lv_iinc (v := nI (i + 1)) (lv' := [(3, .int (nI (i + 1))), (2, .int (nI (acc + 0))), (0, .ref (eX V 500)), (1, .int (nI (k)))]) hx hcd dX4_open_39 hl (k := 1) rfl (by exact nI_add (i) 1) (by decide) rfl (fun ls hl => ?_)
            refine lv_goto (tgt := 4) hx hcd dX4_open_42 (by decide) ?_
            exact ih_2 (i + 1) (acc + 0) (by omega) (sumUp_t ha9 (if_neg (fun z => by first | (exact Bool.noConfusion (z.1.symm.trans (by assumption))) | omega))) (acc_in hb2 (by omega)) (by omega) _ _ h _ (lv_sub hl [1, 0, 2, 3] rfl)
          · have c_8 := bz0 c_8
            have f_10 := of_decide_eq_false c_8
            refine lv_iconst (v := nI 1) hx hcd dX4_open_32 (by decide) ?_
            refine lv_goto (tgt := 37) hx hcd dX4_open_33 (by decide) ?_
            refine w_iadd (v := nI (acc + 1)) hx hcd dX4_open_37 (nI_add _ _) ?_
            refine lv_istore_n (lv' := [(2, .int (nI (acc + 1))), (3, .int (nI (i))), (0, .ref (eX V 500)), (1, .int (nI (k)))]) hx hcd dX4_open_38 rfl hl (by decide) rfl (fun ls hl => ?_)
            refine lv_iinc (v := nI (i + 1)) (lv' := [(3, .int (nI (i + 1))), (2, .int (nI (acc + 1))), (0, .ref (eX V 500)), (1, .int (nI (k)))]) hx hcd dX4_open_39 hl (k := 1) rfl (by exact nI_add (i) 1) (by decide) rfl (fun ls hl => ?_)
            refine lv_goto (tgt := 4) hx hcd dX4_open_42 (by decide) ?_
            exact ih_2 (i + 1) (acc + 1) (by omega) (sumUp_t ha9 (if_pos ⟨by assumption, by omega⟩)) (acc_in hb2 (by omega)) (by omega) _ _ h _ (lv_sub hl [1, 0, 2, 3] rfl)
  exact L_1 (B.2 0 + 1) 0 0 (by omega) rfl (by omega) (by omega) _ _ h _ (lv_sub hl [1, 0, 2, 3] rfl)
