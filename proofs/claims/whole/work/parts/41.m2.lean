/-! THE REFERENCE'S QUESTIONS. -/
theorem bsp (b : Bool) : b = true ∨ b = false := by cases b <;> simp
def opS (B : kBd) (k : Nat) : Nat := sumUp (fun j => if (B.1 2 k).testBit j ∧ B.1 1 j ≠ 0 then 1 else 0) (B.2 0)
def brS (B : kBd) (k : Nat) : Nat := sumUp (fun j => if (B.1 2 k).testBit j then 1 else 0) (B.2 0)
def plS (B : kBd) (c : Nat) : Nat := sumUp (fun j => if (B.2 2).testBit j then B.1 c j else 0) (B.2 0)
theorem opS_le {B : kBd} (hn : B.2 0 ≤ 16) (k : Nat) : opS B k ≤ 16 := by
  have h1 : ∀ j, (if (B.1 2 k).testBit j ∧ B.1 1 j ≠ 0 then 1 else 0) ≤ 1 := fun j => by split <;> decide
  have := sumUp_le h1 (B.2 0)
  unfold opS
  omega
theorem brS_le {B : kBd} (hn : B.2 0 ≤ 16) (k : Nat) : brS B k ≤ 16 := by
  have h1 : ∀ j, (if (B.1 2 k).testBit j then 1 else 0) ≤ 1 := fun j => by split <;> decide
  have := sumUp_le h1 (B.2 0)
  unfold brS
  omega
theorem plS_le {B : kBd} (hI : bI B) {c : Nat} (hc : c < 2) : plS B c ≤ 208 := by
  obtain ⟨hz, hbn, hn, hm, h3, h54, h4, h7, hr, he, ha, hact, h5⟩ := hI
  have h1 : ∀ j, (if (B.2 2).testBit j then B.1 c j else 0) ≤ 13 := by
    intro k
    have := he k
    have := hr k
    split
    · match c, hc with
      | 0, _ => omega
      | 1, _ => omega
    · omega
  have := sumUp_le h1 (B.2 0)
  have : B.2 0 * 13 ≤ 16 * 13 := Nat.mul_le_mul_right _ hn
  unfold plS
  omega
theorem pln_t {B : kBd} {k : Nat} (h : pln B k = 1) : (B.2 2).testBit k = true := by
  unfold pln at h
  split at h
  · assumption
  · exact absurd h (by decide)
theorem pln_f {B : kBd} {k : Nat} (h : pln B k ≠ 1) : (B.2 2).testBit k = false := by
  unfold pln at h
  split at h
  · exact absurd rfl h
  · rename_i h1; exact Bool.not_eq_true _ ▸ h1
theorem kv_X4_fails : kV yX4_fails cX4_fails 2 (some .boolean) 1 := ⟨mw_1547, mw_20, mw_64, mw_1548, by decide, by decide, by decide +kernel⟩
theorem kv_X4_isIdle : kV yX4_isIdle cX4_isIdle 1 (some .boolean) 0 := ⟨mw_1756, mw_40, mw_64, mw_1757, by decide, by decide, by decide +kernel⟩
theorem kv_X4_isNone : kV yX4_isNone cX4_isNone 2 (some .boolean) 1 := ⟨mw_1621, mw_32, mw_64, mw_1622, by decide, by decide, by decide +kernel⟩
theorem kv_X4_open : kV yX4_open cX4_open 4 (some .int) 1 := ⟨mw_1641, mw_33, mw_64, mw_1642, by decide, by decide, by decide +kernel⟩
theorem kv_X4_planned : kV yX4_planned cX4_planned 4 (some .int) 1 := ⟨mw_1720, mw_38, mw_64, mw_1721, by decide, by decide, by decide +kernel⟩
set_option maxHeartbeats 4000000 in
set_option maxRecDepth 100000 in
/-- isNone(x) -/
theorem met_X4_isNone (l : Launch) (V : kEnv) (M : kMs) (B : kBd) (hg : M.2 0 = gOf B) (hI : bI B) (x : Int32) : kI l yX4_isNone cX4_isNone 2 (some .boolean) { frames := 2, cells := 0, slots := 0, locals := 43 } V (mWs V) [.ref (eX V 500), .int (x)] (M) (fun r u => (∃ k, k < B.2 0 ∧ x = nI k ∧ r = nI 0 ∧ u = nPut M 3 (nI 0)) ∨ (inS (B.2 0) x = false ∧ r = nI 1 ∧ u = nPut M 3 (nI 1))) 0 0 := by
  refine kI_of (by decide +kernel) (Nat.le_of_ble_eq_true rfl) ?_
  intro pg e s m args below meth c G hret hlocks hC hB h ls hl Q hQ
  have hl : lv_has ls 2 [(0, .ref (eX V 500)), (1, .int (x))] := hl
  have hx := G.1
  have hcd := G.2.1
  have hI0 := hI
  obtain ⟨hz, hbn, hn, hm, h3, h54, h4, h7, hr, he, ha, hact, h5⟩ := hI
  refine lv_aload_n hx hcd dX4_isNone_0 rfl (lv_at hl 0 rfl) ?_
  refine lv_aload_n hx hcd dX4_isNone_1 rfl (lv_at hl 0 rfl) ?_
  refine lv_iload_n hx hcd dX4_isNone_2 rfl (lv_at hl 1 rfl) ?_
  refine k_Vi (As := [.int (x)]) (rest := [.ref (eX V 500)]) (b := eX V 500) G hC hB h (met_X4_isStory l V M B hg hI0 x) mw_1564 kv_X4_isStory ⟨rfl, rfl⟩ ⟨Nat.le_of_ble_eq_true rfl, Nat.le_of_ble_eq_true rfl⟩ (r_mV hC h) rfl rfl hl.1 (Nat.le_of_ble_eq_true rfl) dX4_isNone_3 ⟨Nat.le_of_ble_eq_true rfl, Nat.le_of_ble_eq_true rfl⟩ (fun r u H locs hp h => ?_)
  obtain ⟨hr9, hu9⟩ := hp
  rw [hu9] at h
  rcases bsp (inS (B.2 0) x) with c9 | c9
  · skip
    obtain rfl : r = nI 1 := (hr9.trans ((congrArg bz c9).trans (by decide)))
    obtain ⟨k_1, hk_2, rfl⟩ := inS_ex (by omega) c9
    refine lv_if_eq (tgt := 13) hx hcd dX4_isNone_6 (by decide) (fun c_3 => absurd c_3 (by decide)) (fun _ => ?_)
    refine lv_iconst (v := nI 0) hx hcd dX4_isNone_9 (by decide) ?_
    refine lv_goto (tgt := 14) hx hcd dX4_isNone_10 (by decide) ?_
    refine k_Vi (As := [.int (nI 0)]) (rest := []) (b := eX V 500) G hC hB h (met_X4_fails l V M (nI 0)) mw_1545 kv_X4_fails ⟨rfl, rfl⟩ ⟨Nat.le_of_ble_eq_true rfl, Nat.le_of_ble_eq_true rfl⟩ (r_mV hC h) rfl rfl hl.1 (Nat.le_of_ble_eq_true rfl) dX4_isNone_14 ⟨Nat.le_of_ble_eq_true rfl, Nat.le_of_ble_eq_true rfl⟩ (fun r u H locs hp h => ?_)
    obtain ⟨hr9, hu9⟩ := hp
    obtain rfl : r = nI 0 := (hr9.trans (by decide))
    rw [hu9] at h
    exact k_retz hQ G hret hlocks h (Or.inl rfl) (Or.inl ⟨_, by assumption, rfl, rfl, rfl⟩) (Nat.le_of_ble_eq_true rfl) (Nat.le_of_ble_eq_true rfl) dX4_isNone_17
  · skip
    obtain rfl : r = nI 0 := (hr9.trans ((congrArg bz c9).trans (by decide)))
    refine lv_if_eq (tgt := 13) hx hcd dX4_isNone_6 (by decide) (fun _ => ?_) (fun c_4 => absurd c_4 (by decide))
    refine lv_iconst (v := nI 1) hx hcd dX4_isNone_13 (by decide) ?_
    refine k_Vi (As := [.int (nI 1)]) (rest := []) (b := eX V 500) G hC hB h (met_X4_fails l V M (nI 1)) mw_1545 kv_X4_fails ⟨rfl, rfl⟩ ⟨Nat.le_of_ble_eq_true rfl, Nat.le_of_ble_eq_true rfl⟩ (r_mV hC h) rfl rfl hl.1 (Nat.le_of_ble_eq_true rfl) dX4_isNone_14 ⟨Nat.le_of_ble_eq_true rfl, Nat.le_of_ble_eq_true rfl⟩ (fun r u H locs hp h => ?_)
    obtain ⟨hr9, hu9⟩ := hp
    obtain rfl : r = nI 1 := (hr9.trans (by decide))
    rw [hu9] at h
    exact k_retz hQ G hret hlocks h (Or.inr rfl) (Or.inr ⟨c9, rfl, rfl⟩) (Nat.le_of_ble_eq_true rfl) (Nat.le_of_ble_eq_true rfl) dX4_isNone_17
set_option maxHeartbeats 4000000 in
set_option maxRecDepth 100000 in
/-- storyCount() -/
theorem met_X4_storyCount (l : Launch) (V : kEnv) (M : kMs) (B : kBd) (hg : M.2 0 = gOf B) (hI : bI B) : kI l yX4_storyCount cX4_storyCount 1 (some .int) { frames := 0, cells := 0, slots := 0, locals := 0 } V (mWs V) [.ref (eX V 500)] (M) (fun r u => r = nI (B.2 0) ∧ u = nPut M 3 (nI 0)) 0 0 := by
  refine kI_of (by decide +kernel) (Nat.le_of_ble_eq_true rfl) ?_
  intro pg e s m args below meth c G hret hlocks hC hB h ls hl Q hQ
  have hl : lv_has ls 1 [(0, .ref (eX V 500))] := hl
  have hx := G.1
  have hcd := G.2.1
  have hI0 := hI
  obtain ⟨hz, hbn, hn, hm, h3, h54, h4, h7, hr, he, ha, hact, h5⟩ := hI
  refine lv_aload_n hx hcd dX4_storyCount_0 rfl (lv_at hl 0 rfl) ?_
  refine lv_iconst (v := nI 0) hx hcd dX4_storyCount_1 (by decide) ?_
  refine r_mP G hC h 3 (by decide) mw_1479 (fun z => absurd z (by decide)) rfl dX4_storyCount_2 (fun H locs h => ?_)
  refine lv_aload_n hx hcd dX4_storyCount_5 rfl (lv_at hl 0 rfl) ?_
  refine r_mA G hC h 0 (by decide) mw_1472 dX4_storyCount_6 ?_
  refine lv_iconst (v := nI 0) hx hcd dX4_storyCount_9 (by decide) ?_
  refine r_mL G hC h 0 (0) (by decide) (by decide) rfl (show 0 < 115 by omega) (x := nI (B.2 0)) (gOf_n hg (f := 0) (by decide)) dX4_storyCount_10 ?_
  have q_1 := hz.2 0
  exact k_reti hQ G hret hlocks h (⟨rfl, rfl⟩) (Nat.le_of_ble_eq_true rfl) (Nat.le_of_ble_eq_true rfl) dX4_storyCount_11
set_option maxHeartbeats 4000000 in
set_option maxRecDepth 100000 in
/-- developerCount() -/
theorem met_X4_developerCount (l : Launch) (V : kEnv) (M : kMs) (B : kBd) (hg : M.2 0 = gOf B) (hI : bI B) : kI l yX4_developerCount cX4_developerCount 1 (some .int) { frames := 0, cells := 0, slots := 0, locals := 0 } V (mWs V) [.ref (eX V 500)] (M) (fun r u => r = nI (B.2 1) ∧ u = nPut M 3 (nI 0)) 0 0 := by
  refine kI_of (by decide +kernel) (Nat.le_of_ble_eq_true rfl) ?_
  intro pg e s m args below meth c G hret hlocks hC hB h ls hl Q hQ
  have hl : lv_has ls 1 [(0, .ref (eX V 500))] := hl
  have hx := G.1
  have hcd := G.2.1
  have hI0 := hI
  obtain ⟨hz, hbn, hn, hm, h3, h54, h4, h7, hr, he, ha, hact, h5⟩ := hI
  refine lv_aload_n hx hcd dX4_developerCount_0 rfl (lv_at hl 0 rfl) ?_
  refine lv_iconst (v := nI 0) hx hcd dX4_developerCount_1 (by decide) ?_
  refine r_mP G hC h 3 (by decide) mw_1479 (fun z => absurd z (by decide)) rfl dX4_developerCount_2 (fun H locs h => ?_)
  refine lv_aload_n hx hcd dX4_developerCount_5 rfl (lv_at hl 0 rfl) ?_
  refine r_mA G hC h 0 (by decide) mw_1472 dX4_developerCount_6 ?_
  refine lv_iconst (v := nI 1) hx hcd dX4_developerCount_9 (by decide) ?_
  refine r_mL G hC h 0 (1) (by decide) (by decide) rfl (show 1 < 115 by omega) (x := nI (B.2 1)) (gOf_n hg (f := 1) (by decide)) dX4_developerCount_10 ?_
  have q_1 := hz.2 1
  exact k_reti hQ G hret hlocks h (⟨rfl, rfl⟩) (Nat.le_of_ble_eq_true rfl) (Nat.le_of_ble_eq_true rfl) dX4_developerCount_11
set_option maxHeartbeats 4000000 in
set_option maxRecDepth 100000 in
/-- sprintCount() -/
theorem met_X4_sprintCount (l : Launch) (V : kEnv) (M : kMs) (B : kBd) (hg : M.2 0 = gOf B) (hI : bI B) : kI l yX4_sprintCount cX4_sprintCount 1 (some .int) { frames := 0, cells := 0, slots := 0, locals := 0 } V (mWs V) [.ref (eX V 500)] (M) (fun r u => r = nI (B.2 7) ∧ u = nPut M 3 (nI 0)) 0 0 := by
  refine kI_of (by decide +kernel) (Nat.le_of_ble_eq_true rfl) ?_
  intro pg e s m args below meth c G hret hlocks hC hB h ls hl Q hQ
  have hl : lv_has ls 1 [(0, .ref (eX V 500))] := hl
  have hx := G.1
  have hcd := G.2.1
  have hI0 := hI
  obtain ⟨hz, hbn, hn, hm, h3, h54, h4, h7, hr, he, ha, hact, h5⟩ := hI
  refine lv_aload_n hx hcd dX4_sprintCount_0 rfl (lv_at hl 0 rfl) ?_
  refine lv_iconst (v := nI 0) hx hcd dX4_sprintCount_1 (by decide) ?_
  refine r_mP G hC h 3 (by decide) mw_1479 (fun z => absurd z (by decide)) rfl dX4_sprintCount_2 (fun H locs h => ?_)
  refine lv_aload_n hx hcd dX4_sprintCount_5 rfl (lv_at hl 0 rfl) ?_
  refine r_mA G hC h 0 (by decide) mw_1472 dX4_sprintCount_6 ?_
  refine lv_bipush (v := nI 6) hx hcd dX4_sprintCount_9 (by decide) ?_
  refine r_mL G hC h 0 (6) (by decide) (by decide) rfl (show 6 < 115 by omega) (x := nI (B.2 7)) (gOf_n hg (f := 6) (by decide)) dX4_sprintCount_11 ?_
  have q_1 := hz.2 7
  exact k_reti hQ G hret hlocks h (⟨rfl, rfl⟩) (Nat.le_of_ble_eq_true rfl) (Nat.le_of_ble_eq_true rfl) dX4_sprintCount_12
set_option maxHeartbeats 4000000 in
set_option maxRecDepth 100000 in
/-- isActive() -/
theorem met_X4_isActive (l : Launch) (V : kEnv) (M : kMs) (B : kBd) (hg : M.2 0 = gOf B) (hI : bI B) : kI l yX4_isActive cX4_isActive 1 (some .boolean) { frames := 0, cells := 0, slots := 0, locals := 0 } V (mWs V) [.ref (eX V 500)] (M) (fun r u => r = bz (decide (B.2 3 ≠ 0)) ∧ u = nPut M 3 (nI 0)) 0 0 := by
  refine kI_of (by decide +kernel) (Nat.le_of_ble_eq_true rfl) ?_
  intro pg e s m args below meth c G hret hlocks hC hB h ls hl Q hQ
  have hl : lv_has ls 1 [(0, .ref (eX V 500))] := hl
  have hx := G.1
  have hcd := G.2.1
  have hI0 := hI
  obtain ⟨hz, hbn, hn, hm, h3, h54, h4, h7, hr, he, ha, hact, h5⟩ := hI
  refine lv_aload_n hx hcd dX4_isActive_0 rfl (lv_at hl 0 rfl) ?_
  refine lv_iconst (v := nI 0) hx hcd dX4_isActive_1 (by decide) ?_
  refine r_mP G hC h 3 (by decide) mw_1479 (fun z => absurd z (by decide)) rfl dX4_isActive_2 (fun H locs h => ?_)
  refine lv_aload_n hx hcd dX4_isActive_5 rfl (lv_at hl 0 rfl) ?_
  refine r_mA G hC h 0 (by decide) mw_1472 dX4_isActive_6 ?_
  refine lv_iconst (v := nI 2) hx hcd dX4_isActive_9 (by decide) ?_
  refine r_mL G hC h 0 (2) (by decide) (by decide) rfl (show 2 < 115 by omega) (x := nI (B.2 3)) (gOf_n hg (f := 2) (by decide)) dX4_isActive_10 ?_
  have q_1 := hz.2 3
  refine lv_iconst (v := nI 1) hx hcd dX4_isActive_11 (by decide) ?_
  refine lv_icmp_ne (tgt := 19) hx hcd dX4_isActive_12 (by decide) (fun c_2 => ?_) (fun c_2 => ?_)
  · have c_2 := cNe (tN (n := B.2 3) (by omega)) (tN (n := 1) (by decide)) c_2
    refine lv_iconst (v := nI 0) hx hcd dX4_isActive_19 (by decide) ?_
    exact k_retz hQ G hret hlocks h (Or.inl rfl) (⟨(bz_f (by first | assumption | exact decide_eq_false (by omega))).symm, rfl⟩) (Nat.le_of_ble_eq_true rfl) (Nat.le_of_ble_eq_true rfl) dX4_isActive_20
  · have c_2 := cEq (tN (n := B.2 3) (by omega)) (tN (n := 1) (by decide)) c_2
    refine lv_iconst (v := nI 1) hx hcd dX4_isActive_15 (by decide) ?_
    refine lv_goto (tgt := 20) hx hcd dX4_isActive_16 (by decide) ?_
    exact k_retz hQ G hret hlocks h (Or.inr rfl) (⟨(bz_t (by first | assumption | exact decide_eq_true (by omega))).symm, rfl⟩) (Nat.le_of_ble_eq_true rfl) (Nat.le_of_ble_eq_true rfl) dX4_isActive_20
set_option maxHeartbeats 4000000 in
set_option maxRecDepth 100000 in
/-- estimateOf(x) -/
theorem met_X4_estimateOf (l : Launch) (V : kEnv) (M : kMs) (B : kBd) (hg : M.2 0 = gOf B) (hI : bI B) (x : Int32) : kI l yX4_estimateOf cX4_estimateOf 2 (some .int) { frames := 3, cells := 0, slots := 0, locals := 64 } V (mWs V) [.ref (eX V 500), .int (x)] (M) (fun r u => (∃ k, k < B.2 0 ∧ x = nI k ∧ r = nI (B.1 0 k) ∧ u = nPut M 3 (nI 0)) ∨ (inS (B.2 0) x = false ∧ r = nI 0 ∧ u = nPut M 3 (nI 1))) 0 0 := by
  refine kI_of (by decide +kernel) (Nat.le_of_ble_eq_true rfl) ?_
  intro pg e s m args below meth c G hret hlocks hC hB h ls hl Q hQ
  have hl : lv_has ls 2 [(0, .ref (eX V 500)), (1, .int (x))] := hl
  have hx := G.1
  have hcd := G.2.1
  have hI0 := hI
  obtain ⟨hz, hbn, hn, hm, h3, h54, h4, h7, hr, he, ha, hact, h5⟩ := hI
  refine lv_aload_n hx hcd dX4_estimateOf_0 rfl (lv_at hl 0 rfl) ?_
  refine lv_iload_n hx hcd dX4_estimateOf_1 rfl (lv_at hl 1 rfl) ?_
  refine k_Vi (As := [.int (x)]) (rest := []) (b := eX V 500) G hC hB h (met_X4_isNone l V M B hg hI0 x) mw_1619 kv_X4_isNone ⟨rfl, rfl⟩ ⟨Nat.le_of_ble_eq_true rfl, Nat.le_of_ble_eq_true rfl⟩ (r_mV hC h) rfl rfl hl.1 (Nat.le_of_ble_eq_true rfl) dX4_estimateOf_2 ⟨Nat.le_of_ble_eq_true rfl, Nat.le_of_ble_eq_true rfl⟩ (fun r u H locs hp h => ?_)
  rcases hp with ⟨k_1, hk_2, rfl, rfl, hu9⟩ | ⟨c9, rfl, hu9⟩
  · skip
    rw [hu9] at h
    refine lv_if_eq (tgt := 12) hx hcd dX4_estimateOf_5 (by decide) (fun _ => ?_) (fun c_3 => absurd c_3 (by decide))
    refine lv_aload_n hx hcd dX4_estimateOf_12 rfl (lv_at hl 0 rfl) ?_
    refine lv_iload_n hx hcd dX4_estimateOf_13 rfl (lv_at hl 1 rfl) ?_
    refine lv_iconst (v := nI 0) hx hcd dX4_estimateOf_14 (by decide) ?_
    refine k_Vi (As := [.int (nI (k_1)), .int (nI 0)]) (rest := []) (b := eX V 500) G hC hB h (met_X4_of l V (nPut M 3 (nI 0)) k_1 0 (by omega) (by decide)) mw_1572 kv_X4_of ⟨rfl, rfl⟩ ⟨Nat.le_of_ble_eq_true rfl, Nat.le_of_ble_eq_true rfl⟩ (r_mV hC h) rfl rfl hl.1 (Nat.le_of_ble_eq_true rfl) dX4_estimateOf_15 ⟨Nat.le_of_ble_eq_true rfl, Nat.le_of_ble_eq_true rfl⟩ (fun r u H locs hp h => ?_)
    obtain ⟨hr9, hu9⟩ := hp
    obtain rfl : r = nI (B.1 0 k_1) := (hr9.trans (gOf_s hg hn (k := k_1) (w := 0) (by omega) (by decide)))
    rw [hu9] at h
    have q_4 := hz.1 0 k_1
    exact k_reti hQ G hret hlocks h (Or.inl ⟨_, by assumption, rfl, rfl, rfl⟩) (Nat.le_of_ble_eq_true rfl) (Nat.le_of_ble_eq_true rfl) dX4_estimateOf_18
  · skip
    rw [hu9] at h
    refine lv_if_eq (tgt := 12) hx hcd dX4_estimateOf_5 (by decide) (fun c_5 => absurd c_5 (by decide)) (fun _ => ?_)
    refine lv_iconst (v := nI 0) hx hcd dX4_estimateOf_8 (by decide) ?_
    refine lv_goto (tgt := 18) hx hcd dX4_estimateOf_9 (by decide) ?_
    exact k_reti hQ G hret hlocks h (Or.inr ⟨c9, rfl, rfl⟩) (Nat.le_of_ble_eq_true rfl) (Nat.le_of_ble_eq_true rfl) dX4_estimateOf_18
set_option maxHeartbeats 4000000 in
set_option maxRecDepth 100000 in
/-- leftOf(x) -/
theorem met_X4_leftOf (l : Launch) (V : kEnv) (M : kMs) (B : kBd) (hg : M.2 0 = gOf B) (hI : bI B) (x : Int32) : kI l yX4_leftOf cX4_leftOf 2 (some .int) { frames := 3, cells := 0, slots := 0, locals := 64 } V (mWs V) [.ref (eX V 500), .int (x)] (M) (fun r u => (∃ k, k < B.2 0 ∧ x = nI k ∧ r = nI (B.1 1 k) ∧ u = nPut M 3 (nI 0)) ∨ (inS (B.2 0) x = false ∧ r = nI 0 ∧ u = nPut M 3 (nI 1))) 0 0 := by
  refine kI_of (by decide +kernel) (Nat.le_of_ble_eq_true rfl) ?_
  intro pg e s m args below meth c G hret hlocks hC hB h ls hl Q hQ
  have hl : lv_has ls 2 [(0, .ref (eX V 500)), (1, .int (x))] := hl
  have hx := G.1
  have hcd := G.2.1
  have hI0 := hI
  obtain ⟨hz, hbn, hn, hm, h3, h54, h4, h7, hr, he, ha, hact, h5⟩ := hI
  refine lv_aload_n hx hcd dX4_leftOf_0 rfl (lv_at hl 0 rfl) ?_
  refine lv_iload_n hx hcd dX4_leftOf_1 rfl (lv_at hl 1 rfl) ?_
  refine k_Vi (As := [.int (x)]) (rest := []) (b := eX V 500) G hC hB h (met_X4_isNone l V M B hg hI0 x) mw_1619 kv_X4_isNone ⟨rfl, rfl⟩ ⟨Nat.le_of_ble_eq_true rfl, Nat.le_of_ble_eq_true rfl⟩ (r_mV hC h) rfl rfl hl.1 (Nat.le_of_ble_eq_true rfl) dX4_leftOf_2 ⟨Nat.le_of_ble_eq_true rfl, Nat.le_of_ble_eq_true rfl⟩ (fun r u H locs hp h => ?_)
  rcases hp with ⟨k_1, hk_2, rfl, rfl, hu9⟩ | ⟨c9, rfl, hu9⟩
  · skip
    rw [hu9] at h
    refine lv_if_eq (tgt := 12) hx hcd dX4_leftOf_5 (by decide) (fun _ => ?_) (fun c_3 => absurd c_3 (by decide))
    refine lv_aload_n hx hcd dX4_leftOf_12 rfl (lv_at hl 0 rfl) ?_
    refine lv_iload_n hx hcd dX4_leftOf_13 rfl (lv_at hl 1 rfl) ?_
    refine lv_iconst (v := nI 1) hx hcd dX4_leftOf_14 (by decide) ?_
    refine k_Vi (As := [.int (nI (k_1)), .int (nI 1)]) (rest := []) (b := eX V 500) G hC hB h (met_X4_of l V (nPut M 3 (nI 0)) k_1 1 (by omega) (by decide)) mw_1572 kv_X4_of ⟨rfl, rfl⟩ ⟨Nat.le_of_ble_eq_true rfl, Nat.le_of_ble_eq_true rfl⟩ (r_mV hC h) rfl rfl hl.1 (Nat.le_of_ble_eq_true rfl) dX4_leftOf_15 ⟨Nat.le_of_ble_eq_true rfl, Nat.le_of_ble_eq_true rfl⟩ (fun r u H locs hp h => ?_)
    obtain ⟨hr9, hu9⟩ := hp
    obtain rfl : r = nI (B.1 1 k_1) := (hr9.trans (gOf_s hg hn (k := k_1) (w := 1) (by omega) (by decide)))
    rw [hu9] at h
    have q_4 := hz.1 1 k_1
    exact k_reti hQ G hret hlocks h (Or.inl ⟨_, by assumption, rfl, rfl, rfl⟩) (Nat.le_of_ble_eq_true rfl) (Nat.le_of_ble_eq_true rfl) dX4_leftOf_18
  · skip
    rw [hu9] at h
    refine lv_if_eq (tgt := 12) hx hcd dX4_leftOf_5 (by decide) (fun c_5 => absurd c_5 (by decide)) (fun _ => ?_)
    refine lv_iconst (v := nI 0) hx hcd dX4_leftOf_8 (by decide) ?_
    refine lv_goto (tgt := 18) hx hcd dX4_leftOf_9 (by decide) ?_
    exact k_reti hQ G hret hlocks h (Or.inr ⟨c9, rfl, rfl⟩) (Nat.le_of_ble_eq_true rfl) (Nat.le_of_ble_eq_true rfl) dX4_leftOf_18
set_option maxHeartbeats 4000000 in
set_option maxRecDepth 100000 in
/-- workedOn(x) -/
theorem met_X4_workedOn (l : Launch) (V : kEnv) (M : kMs) (B : kBd) (hg : M.2 0 = gOf B) (hI : bI B) (x : Int32) : kI l yX4_workedOn cX4_workedOn 2 (some .int) { frames := 3, cells := 0, slots := 0, locals := 64 } V (mWs V) [.ref (eX V 500), .int (x)] (M) (fun r u => (∃ k, k < B.2 0 ∧ x = nI k ∧ r = nI (B.1 0 k) - nI (B.1 1 k) ∧ u = nPut M 3 (nI 0)) ∨ (inS (B.2 0) x = false ∧ r = nI 0 ∧ u = nPut M 3 (nI 1))) 0 0 := by
  refine kI_of (by decide +kernel) (Nat.le_of_ble_eq_true rfl) ?_
  intro pg e s m args below meth c G hret hlocks hC hB h ls hl Q hQ
  have hl : lv_has ls 2 [(0, .ref (eX V 500)), (1, .int (x))] := hl
  have hx := G.1
  have hcd := G.2.1
  have hI0 := hI
  obtain ⟨hz, hbn, hn, hm, h3, h54, h4, h7, hr, he, ha, hact, h5⟩ := hI
  refine lv_aload_n hx hcd dX4_workedOn_0 rfl (lv_at hl 0 rfl) ?_
  refine lv_iload_n hx hcd dX4_workedOn_1 rfl (lv_at hl 1 rfl) ?_
  refine k_Vi (As := [.int (x)]) (rest := []) (b := eX V 500) G hC hB h (met_X4_isNone l V M B hg hI0 x) mw_1619 kv_X4_isNone ⟨rfl, rfl⟩ ⟨Nat.le_of_ble_eq_true rfl, Nat.le_of_ble_eq_true rfl⟩ (r_mV hC h) rfl rfl hl.1 (Nat.le_of_ble_eq_true rfl) dX4_workedOn_2 ⟨Nat.le_of_ble_eq_true rfl, Nat.le_of_ble_eq_true rfl⟩ (fun r u H locs hp h => ?_)
  rcases hp with ⟨k_1, hk_2, rfl, rfl, hu9⟩ | ⟨c9, rfl, hu9⟩
  · skip
    rw [hu9] at h
    refine lv_if_eq (tgt := 12) hx hcd dX4_workedOn_5 (by decide) (fun _ => ?_) (fun c_3 => absurd c_3 (by decide))
    refine lv_aload_n hx hcd dX4_workedOn_12 rfl (lv_at hl 0 rfl) ?_
    refine lv_iload_n hx hcd dX4_workedOn_13 rfl (lv_at hl 1 rfl) ?_
    refine lv_iconst (v := nI 0) hx hcd dX4_workedOn_14 (by decide) ?_
    refine k_Vi (As := [.int (nI (k_1)), .int (nI 0)]) (rest := []) (b := eX V 500) G hC hB h (met_X4_of l V (nPut M 3 (nI 0)) k_1 0 (by omega) (by decide)) mw_1572 kv_X4_of ⟨rfl, rfl⟩ ⟨Nat.le_of_ble_eq_true rfl, Nat.le_of_ble_eq_true rfl⟩ (r_mV hC h) rfl rfl hl.1 (Nat.le_of_ble_eq_true rfl) dX4_workedOn_15 ⟨Nat.le_of_ble_eq_true rfl, Nat.le_of_ble_eq_true rfl⟩ (fun r u H locs hp h => ?_)
    obtain ⟨hr9, hu9⟩ := hp
    obtain rfl : r = nI (B.1 0 k_1) := (hr9.trans (gOf_s hg hn (k := k_1) (w := 0) (by omega) (by decide)))
    rw [hu9] at h
    have q_4 := hz.1 0 k_1
    refine lv_aload_n hx hcd dX4_workedOn_18 rfl (lv_at hl 0 rfl) ?_
    refine lv_iload_n hx hcd dX4_workedOn_19 rfl (lv_at hl 1 rfl) ?_
    refine lv_iconst (v := nI 1) hx hcd dX4_workedOn_20 (by decide) ?_
    refine k_Vi (As := [.int (nI (k_1)), .int (nI 1)]) (rest := [.int (nI (B.1 0 k_1))]) (b := eX V 500) G hC hB h (met_X4_of l V (nPut M 3 (nI 0)) k_1 1 (by omega) (by decide)) mw_1572 kv_X4_of ⟨rfl, rfl⟩ ⟨Nat.le_of_ble_eq_true rfl, Nat.le_of_ble_eq_true rfl⟩ (r_mV hC h) rfl rfl hl.1 (Nat.le_of_ble_eq_true rfl) dX4_workedOn_21 ⟨Nat.le_of_ble_eq_true rfl, Nat.le_of_ble_eq_true rfl⟩ (fun r u H locs hp h => ?_)
    obtain ⟨hr9, hu9⟩ := hp
    obtain rfl : r = nI (B.1 1 k_1) := (hr9.trans (gOf_s hg hn (k := k_1) (w := 1) (by omega) (by decide)))
    rw [hu9] at h
    have q_5 := hz.1 1 k_1
    refine w_isub (v := nI (B.1 0 k_1) - nI (B.1 1 k_1)) hx hcd dX4_workedOn_24 rfl ?_
    exact k_reti hQ G hret hlocks h (Or.inl ⟨_, by assumption, rfl, rfl, rfl⟩) (Nat.le_of_ble_eq_true rfl) (Nat.le_of_ble_eq_true rfl) dX4_workedOn_25
  · skip
    rw [hu9] at h
    refine lv_if_eq (tgt := 12) hx hcd dX4_workedOn_5 (by decide) (fun c_6 => absurd c_6 (by decide)) (fun _ => ?_)
    refine lv_iconst (v := nI 0) hx hcd dX4_workedOn_8 (by decide) ?_
    refine lv_goto (tgt := 25) hx hcd dX4_workedOn_9 (by decide) ?_
    exact k_reti hQ G hret hlocks h (Or.inr ⟨c9, rfl, rfl⟩) (Nat.le_of_ble_eq_true rfl) (Nat.le_of_ble_eq_true rfl) dX4_workedOn_25
set_option maxHeartbeats 4000000 in
set_option maxRecDepth 100000 in
/-- isDone(x) -/
theorem met_X4_isDone (l : Launch) (V : kEnv) (M : kMs) (B : kBd) (hg : M.2 0 = gOf B) (hI : bI B) (x : Int32) : kI l yX4_isDone cX4_isDone 2 (some .boolean) { frames := 3, cells := 0, slots := 0, locals := 64 } V (mWs V) [.ref (eX V 500), .int (x)] (M) (fun r u => (∃ k, k < B.2 0 ∧ x = nI k ∧ r = bz (decide (B.1 1 k = 0)) ∧ u = nPut M 3 (nI 0)) ∨ (inS (B.2 0) x = false ∧ r = nI 0 ∧ u = nPut M 3 (nI 1))) 0 0 := by
  refine kI_of (by decide +kernel) (Nat.le_of_ble_eq_true rfl) ?_
  intro pg e s m args below meth c G hret hlocks hC hB h ls hl Q hQ
  have hl : lv_has ls 2 [(0, .ref (eX V 500)), (1, .int (x))] := hl
  have hx := G.1
  have hcd := G.2.1
  have hI0 := hI
  obtain ⟨hz, hbn, hn, hm, h3, h54, h4, h7, hr, he, ha, hact, h5⟩ := hI
  refine lv_aload_n hx hcd dX4_isDone_0 rfl (lv_at hl 0 rfl) ?_
  refine lv_iload_n hx hcd dX4_isDone_1 rfl (lv_at hl 1 rfl) ?_
  refine k_Vi (As := [.int (x)]) (rest := []) (b := eX V 500) G hC hB h (met_X4_isNone l V M B hg hI0 x) mw_1619 kv_X4_isNone ⟨rfl, rfl⟩ ⟨Nat.le_of_ble_eq_true rfl, Nat.le_of_ble_eq_true rfl⟩ (r_mV hC h) rfl rfl hl.1 (Nat.le_of_ble_eq_true rfl) dX4_isDone_2 ⟨Nat.le_of_ble_eq_true rfl, Nat.le_of_ble_eq_true rfl⟩ (fun r u H locs hp h => ?_)
  rcases hp with ⟨k_1, hk_2, rfl, rfl, hu9⟩ | ⟨c9, rfl, hu9⟩
  · skip
    rw [hu9] at h
    refine lv_if_ne (tgt := 20) hx hcd dX4_isDone_5 (by decide) (fun c_3 => absurd c_3 (by decide)) (fun _ => ?_)
    refine lv_aload_n hx hcd dX4_isDone_8 rfl (lv_at hl 0 rfl) ?_
    refine lv_iload_n hx hcd dX4_isDone_9 rfl (lv_at hl 1 rfl) ?_
    refine k_Vi (As := [.int (nI (k_1))]) (rest := []) (b := eX V 500) G hC hB h (met_X4_isOver l V (nPut M 3 (nI 0)) B hg hI0 k_1 (by omega)) mw_1568 kv_X4_isOver ⟨rfl, rfl⟩ ⟨Nat.le_of_ble_eq_true rfl, Nat.le_of_ble_eq_true rfl⟩ (r_mV hC h) rfl rfl hl.1 (Nat.le_of_ble_eq_true rfl) dX4_isDone_10 ⟨Nat.le_of_ble_eq_true rfl, Nat.le_of_ble_eq_true rfl⟩ (fun r u H locs hp h => ?_)
    obtain ⟨hr9, hu9⟩ := hp
    obtain rfl : r = bz (decide (B.1 1 k_1 = 0)) := hr9
    rw [hu9] at h
    refine lv_if_eq (tgt := 20) hx hcd dX4_isDone_13 (by decide) (fun c_4 => ?_) (fun c_4 => ?_)
    · have c_4 := bz0 c_4
      have f_6 := of_decide_eq_false c_4
      refine lv_iconst (v := nI 0) hx hcd dX4_isDone_20 (by decide) ?_
      exact k_retz hQ G hret hlocks h (Or.inl rfl) (Or.inl ⟨_, by assumption, rfl, (bz_f (decide_eq_false (by omega))).symm, rfl⟩) (Nat.le_of_ble_eq_true rfl) (Nat.le_of_ble_eq_true rfl) dX4_isDone_21
    · have c_4 := bz1 c_4
      have f_5 := of_decide_eq_true c_4
      refine lv_iconst (v := nI 1) hx hcd dX4_isDone_16 (by decide) ?_
      refine lv_goto (tgt := 21) hx hcd dX4_isDone_17 (by decide) ?_
      exact k_retz hQ G hret hlocks h (Or.inr rfl) (Or.inl ⟨_, by assumption, rfl, (bz_t (decide_eq_true (by omega))).symm, rfl⟩) (Nat.le_of_ble_eq_true rfl) (Nat.le_of_ble_eq_true rfl) dX4_isDone_21
  · skip
    rw [hu9] at h
    refine lv_if_ne (tgt := 20) hx hcd dX4_isDone_5 (by decide) (fun _ => ?_) (fun c_7 => absurd c_7 (by decide))
    refine lv_iconst (v := nI 0) hx hcd dX4_isDone_20 (by decide) ?_
    exact k_retz hQ G hret hlocks h (Or.inl rfl) (Or.inr ⟨c9, rfl, rfl⟩) (Nat.le_of_ble_eq_true rfl) (Nat.le_of_ble_eq_true rfl) dX4_isDone_21
set_option maxHeartbeats 4000000 in
set_option maxRecDepth 100000 in
/-- isBlocked(x) -/
theorem met_X4_isBlocked (l : Launch) (V : kEnv) (M : kMs) (B : kBd) (hg : M.2 0 = gOf B) (hI : bI B) (x : Int32) : kI l yX4_isBlocked cX4_isBlocked 2 (some .boolean) { frames := 3, cells := 0, slots := 0, locals := 67 } V (mWs V) [.ref (eX V 500), .int (x)] (M) (fun r u => (∃ k, k < B.2 0 ∧ x = nI k ∧ r = bz (decide (0 < opS B k)) ∧ u = nPut M 3 (nI 0)) ∨ (inS (B.2 0) x = false ∧ r = nI 0 ∧ u = nPut M 3 (nI 1))) 0 0 := by
  refine kI_of (by decide +kernel) (Nat.le_of_ble_eq_true rfl) ?_
  intro pg e s m args below meth c G hret hlocks hC hB h ls hl Q hQ
  have hl : lv_has ls 2 [(0, .ref (eX V 500)), (1, .int (x))] := hl
  have hx := G.1
  have hcd := G.2.1
  have hI0 := hI
  obtain ⟨hz, hbn, hn, hm, h3, h54, h4, h7, hr, he, ha, hact, h5⟩ := hI
  refine lv_aload_n hx hcd dX4_isBlocked_0 rfl (lv_at hl 0 rfl) ?_
  refine lv_iload_n hx hcd dX4_isBlocked_1 rfl (lv_at hl 1 rfl) ?_
  refine k_Vi (As := [.int (x)]) (rest := []) (b := eX V 500) G hC hB h (met_X4_isNone l V M B hg hI0 x) mw_1619 kv_X4_isNone ⟨rfl, rfl⟩ ⟨Nat.le_of_ble_eq_true rfl, Nat.le_of_ble_eq_true rfl⟩ (r_mV hC h) rfl rfl hl.1 (Nat.le_of_ble_eq_true rfl) dX4_isBlocked_2 ⟨Nat.le_of_ble_eq_true rfl, Nat.le_of_ble_eq_true rfl⟩ (fun r u H locs hp h => ?_)
  rcases hp with ⟨k_1, hk_2, rfl, rfl, hu9⟩ | ⟨c9, rfl, hu9⟩
  · skip
    rw [hu9] at h
    refine lv_if_ne (tgt := 20) hx hcd dX4_isBlocked_5 (by decide) (fun c_3 => absurd c_3 (by decide)) (fun _ => ?_)
    refine lv_aload_n hx hcd dX4_isBlocked_8 rfl (lv_at hl 0 rfl) ?_
    refine lv_iload_n hx hcd dX4_isBlocked_9 rfl (lv_at hl 1 rfl) ?_
    refine k_Vi (As := [.int (nI (k_1))]) (rest := []) (b := eX V 500) G hC hB h (met_X4_open l V (nPut M 3 (nI 0)) B hg hI0 k_1 (by omega)) mw_1639 kv_X4_open ⟨rfl, rfl⟩ ⟨Nat.le_of_ble_eq_true rfl, Nat.le_of_ble_eq_true rfl⟩ (r_mV hC h) rfl rfl hl.1 (Nat.le_of_ble_eq_true rfl) dX4_isBlocked_10 ⟨Nat.le_of_ble_eq_true rfl, Nat.le_of_ble_eq_true rfl⟩ (fun r u H locs hp h => ?_)
    obtain ⟨hr9, hu9⟩ := hp
    obtain rfl : r = nI (opS B k_1) := hr9
    rw [hu9] at h
    have q_4 := opS_le hn k_1
    refine lv_if_le (tgt := 20) hx hcd dX4_isBlocked_13 (by decide) (fun c_5 => ?_) (fun c_5 => ?_)
    · have c_5 := cLe (tN (n := opS B k_1) (by omega)) t0 c_5
      refine lv_iconst (v := nI 0) hx hcd dX4_isBlocked_20 (by decide) ?_
      exact k_retz hQ G hret hlocks h (Or.inl rfl) (Or.inl ⟨_, by assumption, rfl, (bz_f (decide_eq_false (by omega))).symm, rfl⟩) (Nat.le_of_ble_eq_true rfl) (Nat.le_of_ble_eq_true rfl) dX4_isBlocked_21
    · have c_5 := cNle (tN (n := opS B k_1) (by omega)) t0 c_5
      refine lv_iconst (v := nI 1) hx hcd dX4_isBlocked_16 (by decide) ?_
      refine lv_goto (tgt := 21) hx hcd dX4_isBlocked_17 (by decide) ?_
      exact k_retz hQ G hret hlocks h (Or.inr rfl) (Or.inl ⟨_, by assumption, rfl, (bz_t (decide_eq_true (by omega))).symm, rfl⟩) (Nat.le_of_ble_eq_true rfl) (Nat.le_of_ble_eq_true rfl) dX4_isBlocked_21
  · skip
    rw [hu9] at h
    refine lv_if_ne (tgt := 20) hx hcd dX4_isBlocked_5 (by decide) (fun _ => ?_) (fun c_6 => absurd c_6 (by decide))
    refine lv_iconst (v := nI 0) hx hcd dX4_isBlocked_20 (by decide) ?_
    exact k_retz hQ G hret hlocks h (Or.inl rfl) (Or.inr ⟨c9, rfl, rfl⟩) (Nat.le_of_ble_eq_true rfl) (Nat.le_of_ble_eq_true rfl) dX4_isBlocked_21
set_option maxHeartbeats 4000000 in
set_option maxRecDepth 100000 in
/-- openBlockers(x) -/
theorem met_X4_openBlockers (l : Launch) (V : kEnv) (M : kMs) (B : kBd) (hg : M.2 0 = gOf B) (hI : bI B) (x : Int32) : kI l yX4_openBlockers cX4_openBlockers 2 (some .int) { frames := 3, cells := 0, slots := 0, locals := 67 } V (mWs V) [.ref (eX V 500), .int (x)] (M) (fun r u => (∃ k, k < B.2 0 ∧ x = nI k ∧ r = nI (opS B k) ∧ u = nPut M 3 (nI 0)) ∨ (inS (B.2 0) x = false ∧ r = nI 0 ∧ u = nPut M 3 (nI 1))) 0 0 := by
  refine kI_of (by decide +kernel) (Nat.le_of_ble_eq_true rfl) ?_
  intro pg e s m args below meth c G hret hlocks hC hB h ls hl Q hQ
  have hl : lv_has ls 2 [(0, .ref (eX V 500)), (1, .int (x))] := hl
  have hx := G.1
  have hcd := G.2.1
  have hI0 := hI
  obtain ⟨hz, hbn, hn, hm, h3, h54, h4, h7, hr, he, ha, hact, h5⟩ := hI
  refine lv_aload_n hx hcd dX4_openBlockers_0 rfl (lv_at hl 0 rfl) ?_
  refine lv_iload_n hx hcd dX4_openBlockers_1 rfl (lv_at hl 1 rfl) ?_
  refine k_Vi (As := [.int (x)]) (rest := []) (b := eX V 500) G hC hB h (met_X4_isNone l V M B hg hI0 x) mw_1619 kv_X4_isNone ⟨rfl, rfl⟩ ⟨Nat.le_of_ble_eq_true rfl, Nat.le_of_ble_eq_true rfl⟩ (r_mV hC h) rfl rfl hl.1 (Nat.le_of_ble_eq_true rfl) dX4_openBlockers_2 ⟨Nat.le_of_ble_eq_true rfl, Nat.le_of_ble_eq_true rfl⟩ (fun r u H locs hp h => ?_)
  rcases hp with ⟨k_1, hk_2, rfl, rfl, hu9⟩ | ⟨c9, rfl, hu9⟩
  · skip
    rw [hu9] at h
    refine lv_if_eq (tgt := 12) hx hcd dX4_openBlockers_5 (by decide) (fun _ => ?_) (fun c_3 => absurd c_3 (by decide))
    refine lv_aload_n hx hcd dX4_openBlockers_12 rfl (lv_at hl 0 rfl) ?_
    refine lv_iload_n hx hcd dX4_openBlockers_13 rfl (lv_at hl 1 rfl) ?_
    refine k_Vi (As := [.int (nI (k_1))]) (rest := []) (b := eX V 500) G hC hB h (met_X4_open l V (nPut M 3 (nI 0)) B hg hI0 k_1 (by omega)) mw_1639 kv_X4_open ⟨rfl, rfl⟩ ⟨Nat.le_of_ble_eq_true rfl, Nat.le_of_ble_eq_true rfl⟩ (r_mV hC h) rfl rfl hl.1 (Nat.le_of_ble_eq_true rfl) dX4_openBlockers_14 ⟨Nat.le_of_ble_eq_true rfl, Nat.le_of_ble_eq_true rfl⟩ (fun r u H locs hp h => ?_)
    obtain ⟨hr9, hu9⟩ := hp
    obtain rfl : r = nI (opS B k_1) := hr9
    rw [hu9] at h
    have q_4 := opS_le hn k_1
    exact k_reti hQ G hret hlocks h (Or.inl ⟨_, by assumption, rfl, rfl, rfl⟩) (Nat.le_of_ble_eq_true rfl) (Nat.le_of_ble_eq_true rfl) dX4_openBlockers_17
  · skip
    rw [hu9] at h
    refine lv_if_eq (tgt := 12) hx hcd dX4_openBlockers_5 (by decide) (fun c_5 => absurd c_5 (by decide)) (fun _ => ?_)
    refine lv_iconst (v := nI 0) hx hcd dX4_openBlockers_8 (by decide) ?_
    refine lv_goto (tgt := 17) hx hcd dX4_openBlockers_9 (by decide) ?_
    exact k_reti hQ G hret hlocks h (Or.inr ⟨c9, rfl, rfl⟩) (Nat.le_of_ble_eq_true rfl) (Nat.le_of_ble_eq_true rfl) dX4_openBlockers_17
set_option maxHeartbeats 4000000 in
set_option maxRecDepth 100000 in
/-- isPlanned(x) -/
theorem met_X4_isPlanned (l : Launch) (V : kEnv) (M : kMs) (B : kBd) (hg : M.2 0 = gOf B) (hI : bI B) (x : Int32) : kI l yX4_isPlanned cX4_isPlanned 2 (some .boolean) { frames := 3, cells := 0, slots := 0, locals := 64 } V (mWs V) [.ref (eX V 500), .int (x)] (M) (fun r u => (∃ k, k < B.2 0 ∧ x = nI k ∧ r = bz ((B.2 2).testBit k) ∧ u = nPut M 3 (nI 0)) ∨ (inS (B.2 0) x = false ∧ r = nI 0 ∧ u = nPut M 3 (nI 1))) 0 0 := by
  refine kI_of (by decide +kernel) (Nat.le_of_ble_eq_true rfl) ?_
  intro pg e s m args below meth c G hret hlocks hC hB h ls hl Q hQ
  have hl : lv_has ls 2 [(0, .ref (eX V 500)), (1, .int (x))] := hl
  have hx := G.1
  have hcd := G.2.1
  have hI0 := hI
  obtain ⟨hz, hbn, hn, hm, h3, h54, h4, h7, hr, he, ha, hact, h5⟩ := hI
  refine lv_aload_n hx hcd dX4_isPlanned_0 rfl (lv_at hl 0 rfl) ?_
  refine lv_iload_n hx hcd dX4_isPlanned_1 rfl (lv_at hl 1 rfl) ?_
  refine k_Vi (As := [.int (x)]) (rest := []) (b := eX V 500) G hC hB h (met_X4_isNone l V M B hg hI0 x) mw_1619 kv_X4_isNone ⟨rfl, rfl⟩ ⟨Nat.le_of_ble_eq_true rfl, Nat.le_of_ble_eq_true rfl⟩ (r_mV hC h) rfl rfl hl.1 (Nat.le_of_ble_eq_true rfl) dX4_isPlanned_2 ⟨Nat.le_of_ble_eq_true rfl, Nat.le_of_ble_eq_true rfl⟩ (fun r u H locs hp h => ?_)
  rcases hp with ⟨k_1, hk_2, rfl, rfl, hu9⟩ | ⟨c9, rfl, hu9⟩
  · skip
    rw [hu9] at h
    refine lv_if_ne (tgt := 22) hx hcd dX4_isPlanned_5 (by decide) (fun c_3 => absurd c_3 (by decide)) (fun _ => ?_)
    refine lv_aload_n hx hcd dX4_isPlanned_8 rfl (lv_at hl 0 rfl) ?_
    refine lv_iload_n hx hcd dX4_isPlanned_9 rfl (lv_at hl 1 rfl) ?_
    refine lv_iconst (v := nI 2) hx hcd dX4_isPlanned_10 (by decide) ?_
    refine k_Vi (As := [.int (nI (k_1)), .int (nI 2)]) (rest := []) (b := eX V 500) G hC hB h (met_X4_of l V (nPut M 3 (nI 0)) k_1 2 (by omega) (by decide)) mw_1572 kv_X4_of ⟨rfl, rfl⟩ ⟨Nat.le_of_ble_eq_true rfl, Nat.le_of_ble_eq_true rfl⟩ (r_mV hC h) rfl rfl hl.1 (Nat.le_of_ble_eq_true rfl) dX4_isPlanned_11 ⟨Nat.le_of_ble_eq_true rfl, Nat.le_of_ble_eq_true rfl⟩ (fun r u H locs hp h => ?_)
    obtain ⟨hr9, hu9⟩ := hp
    obtain rfl : r = nI (pln B k_1) := (hr9.trans (gOf_s hg hn (k := k_1) (w := 2) (by omega) (by decide)))
    rw [hu9] at h
    have q_4 := pln_le B k_1
    refine lv_iconst (v := nI 1) hx hcd dX4_isPlanned_14 (by decide) ?_
    refine lv_icmp_ne (tgt := 22) hx hcd dX4_isPlanned_15 (by decide) (fun c_5 => ?_) (fun c_5 => ?_)
    · have c_5 := cNe (tN (n := pln B k_1) (by omega)) (tN (n := 1) (by decide)) c_5
      refine lv_iconst (v := nI 0) hx hcd dX4_isPlanned_22 (by decide) ?_
      exact k_retz hQ G hret hlocks h (Or.inl rfl) (Or.inl ⟨_, by assumption, rfl, (bz_f (pln_f (by omega))).symm, rfl⟩) (Nat.le_of_ble_eq_true rfl) (Nat.le_of_ble_eq_true rfl) dX4_isPlanned_23
    · have c_5 := cEq (tN (n := pln B k_1) (by omega)) (tN (n := 1) (by decide)) c_5
      refine lv_iconst (v := nI 1) hx hcd dX4_isPlanned_18 (by decide) ?_
      refine lv_goto (tgt := 23) hx hcd dX4_isPlanned_19 (by decide) ?_
      exact k_retz hQ G hret hlocks h (Or.inr rfl) (Or.inl ⟨_, by assumption, rfl, (bz_t (pln_t (by omega))).symm, rfl⟩) (Nat.le_of_ble_eq_true rfl) (Nat.le_of_ble_eq_true rfl) dX4_isPlanned_23
  · skip
    rw [hu9] at h
    refine lv_if_ne (tgt := 22) hx hcd dX4_isPlanned_5 (by decide) (fun _ => ?_) (fun c_6 => absurd c_6 (by decide))
    refine lv_iconst (v := nI 0) hx hcd dX4_isPlanned_22 (by decide) ?_
    exact k_retz hQ G hret hlocks h (Or.inl rfl) (Or.inr ⟨c9, rfl, rfl⟩) (Nat.le_of_ble_eq_true rfl) (Nat.le_of_ble_eq_true rfl) dX4_isPlanned_23
set_option maxHeartbeats 4000000 in
set_option maxRecDepth 100000 in
/-- isPerson(x) -/
theorem met_X4_isPerson (l : Launch) (V : kEnv) (M : kMs) (B : kBd) (hg : M.2 0 = gOf B) (hI : bI B) (x : Int32) : kI l yX4_isPerson cX4_isPerson 2 (some .boolean) { frames := 1, cells := 0, slots := 0, locals := 22 } V (mWs V) [.ref (eX V 500), .int (x)] (M) (fun r u => r = bz (inS (B.2 1) x) ∧ u = M) 0 0 := by
  refine kI_of (by decide +kernel) (Nat.le_of_ble_eq_true rfl) ?_
  intro pg e s m args below meth c G hret hlocks hC hB h ls hl Q hQ
  have hl : lv_has ls 2 [(0, .ref (eX V 500)), (1, .int (x))] := hl
  have hx := G.1
  have hcd := G.2.1
  have hI0 := hI
  obtain ⟨hz, hbn, hn, hm, h3, h54, h4, h7, hr, he, ha, hact, h5⟩ := hI
  refine lv_iload_n hx hcd dX4_isPerson_0 rfl (lv_at hl 1 rfl) ?_
  refine lv_iconst (v := nI 0) hx hcd dX4_isPerson_1 (by decide) ?_
  refine lv_aload_n hx hcd dX4_isPerson_2 rfl (lv_at hl 0 rfl) ?_
  refine r_mA G hC h 0 (by decide) mw_1472 dX4_isPerson_3 ?_
  refine lv_iconst (v := nI 1) hx hcd dX4_isPerson_6 (by decide) ?_
  refine r_mL G hC h 0 (1) (by decide) (by decide) rfl (show 1 < 115 by omega) (x := nI (B.2 1)) (gOf_n hg (f := 1) (by decide)) dX4_isPerson_7 ?_
  have q_1 := hz.2 1
  refine lv_iconst (v := nI 1) hx hcd dX4_isPerson_8 (by decide) ?_
  refine w_isub (v := nI (B.2 1) - 1) hx hcd dX4_isPerson_9 rfl ?_
  refine k_Si (As := [.int (x), .int (nI 0), .int (nI (B.2 1) - 1)]) (rest := []) G hC hB h (met_X4_in l V M x (nI 0) (nI (B.2 1) - 1) (0) (((B.2 1 : Nat) : Int) - 1) (tN (n := 0) (by decide)) (tA (n := B.2 1) (by omega))) mw_1542 ks_X4_in ⟨rfl, rfl⟩ ⟨Nat.le_of_ble_eq_true rfl, Nat.le_of_ble_eq_true rfl⟩ rfl rfl hl.1 (Nat.le_of_ble_eq_true rfl) dX4_isPerson_10 ⟨Nat.le_of_ble_eq_true rfl, Nat.le_of_ble_eq_true rfl⟩ (fun r u H locs hp h => ?_)
  obtain ⟨hr9, hu9⟩ := hp
  obtain rfl : r = bz (decide (0 ≤ (x : Int32).toInt ∧ (x : Int32).toInt ≤ ((B.2 1 : Nat) : Int) - 1)) := hr9
  rw [hu9] at h
  exact k_retz hQ G hret hlocks h (bz01 _) (⟨congrArg bz (decide_eq_decide.mpr (by omega)), rfl⟩) (Nat.le_of_ble_eq_true rfl) (Nat.le_of_ble_eq_true rfl) dX4_isPerson_13
set_option maxHeartbeats 4000000 in
set_option maxRecDepth 100000 in
/-- by(d, w) -/
theorem met_X4_by (l : Launch) (V : kEnv) (M : kMs) (d w : Nat) (hd9 : d < 4) (hw : w < 2) : kI l yX4_by cX4_by 3 (some .int) { frames := 0, cells := 0, slots := 0, locals := 0 } V (mWs V) [.ref (eX V 500), .int (nI (d)), .int (nI (w))] (M) (fun r u => r = M.2 0 (87 + 2 * d + w) ∧ u = M) 0 0 := by
  refine kI_of (by decide +kernel) (Nat.le_of_ble_eq_true rfl) ?_
  intro pg e s m args below meth c G hret hlocks hC hB h ls hl Q hQ
  have hl : lv_has ls 3 [(0, .ref (eX V 500)), (1, .int (nI (d))), (2, .int (nI (w)))] := hl
  have hx := G.1
  have hcd := G.2.1
  refine lv_aload_n hx hcd dX4_by_0 rfl (lv_at hl 0 rfl) ?_
  refine r_mA G hC h 0 (by decide) mw_1472 dX4_by_1 ?_
  refine lv_bipush (v := nI 87) hx hcd dX4_by_4 (by decide) ?_
  refine lv_iconst (v := nI 2) hx hcd dX4_by_6 (by decide) ?_
  refine lv_iload_n hx hcd dX4_by_7 rfl (lv_at hl 1 rfl) ?_
  refine w_imul (v := nI (2 * d)) hx hcd dX4_by_8 (pk_mul _ _) ?_
  refine w_iadd (v := nI (87 + (2 * d))) hx hcd dX4_by_9 (nI_add _ _) ?_
  refine lv_iload_n hx hcd dX4_by_10 rfl (lv_at hl 2 rfl) ?_
  refine w_iadd (v := nI ((87 + (2 * d)) + w)) hx hcd dX4_by_11 (nI_add _ _) ?_
  refine r_mL G hC h 0 ((87 + (2 * d)) + w) (by decide) (by decide) rfl (show (87 + (2 * d)) + w < 115 by omega) (x := M.2 0 ((87 + (2 * d)) + w)) rfl dX4_by_12 ?_
  exact k_reti hQ G hret hlocks h (⟨rfl, rfl⟩) (Nat.le_of_ble_eq_true rfl) (Nat.le_of_ble_eq_true rfl) dX4_by_13
set_option maxHeartbeats 4000000 in
set_option maxRecDepth 100000 in
/-- planned(0) -/
theorem met_X4_planned0 (l : Launch) (V : kEnv) (M : kMs) (B : kBd) (hg : M.2 0 = gOf B) (hI : bI B) : kI l yX4_planned cX4_planned 4 (some .int) { frames := 1, cells := 0, slots := 0, locals := 22 } V (mWs V) [.ref (eX V 500), .int (nI 0)] (M) (fun r u => r = nI (plS B 0) ∧ u = M) 0 0 := by
  refine kI_of (by decide +kernel) (Nat.le_of_ble_eq_true rfl) ?_
  intro pg e s m args below meth c G hret hlocks hC hB h ls hl Q hQ
  have hl : lv_has ls 4 [(0, .ref (eX V 500)), (1, .int (nI 0))] := hl
  have hx := G.1
  have hcd := G.2.1
  have hI0 := hI
  obtain ⟨hz, hbn, hn, hm, h3, h54, h4, h7, hr, he, ha, hact, h5⟩ := hI
  refine lv_iconst (v := nI 0) hx hcd dX4_planned_0 (by decide) ?_
  refine lv_istore_n (lv' := [(2, .int (nI 0)), (0, .ref (eX V 500)), (1, .int (nI 0))]) hx hcd dX4_planned_1 rfl hl (by decide) rfl (fun ls hl => ?_)
  refine lv_iconst (v := nI 0) hx hcd dX4_planned_2 (by decide) ?_
  refine lv_istore_n (lv' := [(3, .int (nI 0)), (2, .int (nI 0)), (0, .ref (eX V 500)), (1, .int (nI 0))]) hx hcd dX4_planned_3 rfl hl (by decide) rfl (fun ls hl => ?_)
  have L_1 : ∀ (fu_3 : Nat) (i : Nat) (acc : Nat) (hi : i ≤ B.2 0) (ha9 : acc = sumUp (fun j => if (B.2 2).testBit j then B.1 0 j else 0) i) (hb2 : acc ≤ i * 65536), B.2 0 - i < fu_3 → ∀ (H : Heap) (locs : List Loc), cH V s H locs (mWs V M) → ∀ ls : Array Slot, lv_has ls 4 [(2, .int (nI (acc))), (3, .int (nI (i))), (0, .ref (eX V 500)), (1, .int (nI 0))] → W pg l e { frames := 1, cells := 0, slots := 0, locals := 22 } s m args below meth c H locs 0 0 Q (F0 m 4 ls []) := by
    intro fu_3
    induction fu_3 with
    | zero => intro i acc hi ha9 hb2 hm; exact absurd hm (Nat.not_lt_zero _)
    | succ fu_3 ih_2 =>
      intro i acc hi ha9 hb2 hm H locs h ls hl
      refine lv_iload_n hx hcd dX4_planned_4 rfl (lv_at hl 1 rfl) ?_
      refine lv_aload_n hx hcd dX4_planned_5 rfl (lv_at hl 2 rfl) ?_
      refine r_mA G hC h 0 (by decide) mw_1472 dX4_planned_6 ?_
      refine lv_iconst (v := nI 0) hx hcd dX4_planned_9 (by decide) ?_
      refine r_mL G hC h 0 (0) (by decide) (by decide) rfl (show 0 < 115 by omega) (x := nI (B.2 0)) (gOf_n hg (f := 0) (by decide)) dX4_planned_10 ?_
      have q_4 := hz.2 0
      refine lv_icmp_ge (tgt := 43) hx hcd dX4_planned_11 (by decide) (fun c_5 => ?_) (fun c_5 => ?_)
      · have c_5 := cLe (tN (n := B.2 0) (by omega)) (tN (n := i) (by omega)) c_5
        refine lv_iload_n hx hcd dX4_planned_43 rfl (lv_at hl 0 rfl) ?_
        exact k_reti hQ G hret hlocks h (⟨by rw [ha9, show i = B.2 0 by omega]; rfl, rfl⟩) (Nat.le_of_ble_eq_true rfl) (Nat.le_of_ble_eq_true rfl) dX4_planned_44
      · have c_5 := cNle (tN (n := B.2 0) (by omega)) (tN (n := i) (by omega)) c_5
        refine lv_iload_n hx hcd dX4_planned_14 rfl (lv_at hl 0 rfl) ?_
        refine lv_aload_n hx hcd dX4_planned_15 rfl (lv_at hl 2 rfl) ?_
        refine lv_iload_n hx hcd dX4_planned_16 rfl (lv_at hl 1 rfl) ?_
        refine lv_iconst (v := nI 2) hx hcd dX4_planned_17 (by decide) ?_
        refine k_Vi (As := [.int (nI (i)), .int (nI 2)]) (rest := [.int (nI (acc))]) (b := eX V 500) G hC hB h (met_X4_of l V M i 2 (by omega) (by decide)) mw_1572 kv_X4_of ⟨rfl, rfl⟩ ⟨Nat.le_of_ble_eq_true rfl, Nat.le_of_ble_eq_true rfl⟩ (r_mV hC h) rfl rfl hl.1 (Nat.le_of_ble_eq_true rfl) dX4_planned_18 ⟨Nat.le_of_ble_eq_true rfl, Nat.le_of_ble_eq_true rfl⟩ (fun r u H locs hp h => ?_)
        obtain ⟨hr9, hu9⟩ := hp
        obtain rfl : r = nI (pln B i) := (hr9.trans (gOf_s hg hn (k := i) (w := 2) (by omega) (by decide)))
        rw [hu9] at h
        have q_6 := pln_le B i
        refine lv_iconst (v := nI 1) hx hcd dX4_planned_21 (by decide) ?_
        refine lv_icmp_ne (tgt := 34) hx hcd dX4_planned_22 (by decide) (fun c_7 => ?_) (fun c_7 => ?_)
        · have c_7 := cNe (tN (n := pln B i) (by omega)) (tN (n := 1) (by decide)) c_7
          refine lv_iconst (v := nI 0) hx hcd dX4_planned_34 (by decide) ?_
          refine w_iadd (v := nI (acc + 0)) hx hcd dX4_planned_35 (nI_add _ _) ?_
          refine lv_istore_n (lv' := [(2, .int (nI (acc + 0))), (3, .int (nI (i))), (0, .ref (eX V 500)), (1, .int (nI 0))]) hx hcd dX4_planned_36 rfl hl (by decide) rfl (fun ls hl => ?_)
          refine lv_iinc (v := nI (i + 1)) (lv' := [(3, .int (nI (i + 1))), (2, .int (nI (acc + 0))), (0, .ref (eX V 500)), (1, .int (nI 0))]) hx hcd dX4_planned_37 hl (k := 1) rfl (by exact nI_add (i) 1) (by decide) rfl (fun ls hl => ?_)
          refine lv_goto (tgt := 4) hx hcd dX4_planned_40 (by decide) ?_
          exact ih_2 (i + 1) (acc + 0) (by omega) (sumUp_t ha9 (if_neg (fun z => Bool.noConfusion (z.symm.trans (pln_f (by omega)))))) (acc_in hb2 (by omega)) (by omega) _ _ h _ (lv_sub hl [1, 0, 2, 3] rfl)
        · have c_7 := cEq (tN (n := pln B i) (by omega)) (tN (n := 1) (by decide)) c_7
          refine lv_aload_n hx hcd dX4_planned_25 rfl (lv_at hl 2 rfl) ?_
          refine lv_iload_n hx hcd dX4_planned_26 rfl (lv_at hl 1 rfl) ?_
          refine lv_iload_n hx hcd dX4_planned_27 rfl (lv_at hl 3 rfl) ?_
          refine k_Vi (As := [.int (nI (i)), .int (nI 0)]) (rest := [.int (nI (acc))]) (b := eX V 500) G hC hB h (met_X4_of l V M i 0 (by omega) (by decide)) mw_1572 kv_X4_of ⟨rfl, rfl⟩ ⟨Nat.le_of_ble_eq_true rfl, Nat.le_of_ble_eq_true rfl⟩ (r_mV hC h) rfl rfl hl.1 (Nat.le_of_ble_eq_true rfl) dX4_planned_28 ⟨Nat.le_of_ble_eq_true rfl, Nat.le_of_ble_eq_true rfl⟩ (fun r u H locs hp h => ?_)
          obtain ⟨hr9, hu9⟩ := hp
          obtain rfl : r = nI (B.1 0 i) := (hr9.trans (gOf_s hg hn (k := i) (w := 0) (by omega) (by decide)))
          rw [hu9] at h
          have q_9 := hz.1 0 i
          refine lv_goto (tgt := 35) hx hcd dX4_planned_31 (by decide) ?_
          refine w_iadd (v := nI (acc + (B.1 0 i))) hx hcd dX4_planned_35 (nI_add _ _) ?_
          refine lv_istore_n (lv' := [(2, .int (nI (acc + (B.1 0 i)))), (3, .int (nI (i))), (0, .ref (eX V 500)), (1, .int (nI 0))]) hx hcd dX4_planned_36 rfl hl (by decide) rfl (fun ls hl => ?_)
          refine lv_iinc (v := nI (i + 1)) (lv' := [(3, .int (nI (i + 1))), (2, .int (nI (acc + (B.1 0 i)))), (0, .ref (eX V 500)), (1, .int (nI 0))]) hx hcd dX4_planned_37 hl (k := 1) rfl (by exact nI_add (i) 1) (by decide) rfl (fun ls hl => ?_)
          refine lv_goto (tgt := 4) hx hcd dX4_planned_40 (by decide) ?_
          exact ih_2 (i + 1) (acc + (B.1 0 i)) (by omega) (sumUp_t ha9 (if_pos (pln_t (by omega)))) (acc_in hb2 (by omega)) (by omega) _ _ h _ (lv_sub hl [1, 0, 2, 3] rfl)
  exact L_1 (B.2 0 + 1) 0 0 (by omega) rfl (by omega) (by omega) _ _ h _ (lv_sub hl [1, 0, 2, 3] rfl)
set_option maxHeartbeats 4000000 in
set_option maxRecDepth 100000 in
/-- planned(1) -/
theorem met_X4_planned1 (l : Launch) (V : kEnv) (M : kMs) (B : kBd) (hg : M.2 0 = gOf B) (hI : bI B) : kI l yX4_planned cX4_planned 4 (some .int) { frames := 1, cells := 0, slots := 0, locals := 22 } V (mWs V) [.ref (eX V 500), .int (nI 1)] (M) (fun r u => r = nI (plS B 1) ∧ u = M) 0 0 := by
  refine kI_of (by decide +kernel) (Nat.le_of_ble_eq_true rfl) ?_
  intro pg e s m args below meth c G hret hlocks hC hB h ls hl Q hQ
  have hl : lv_has ls 4 [(0, .ref (eX V 500)), (1, .int (nI 1))] := hl
  have hx := G.1
  have hcd := G.2.1
  have hI0 := hI
  obtain ⟨hz, hbn, hn, hm, h3, h54, h4, h7, hr, he, ha, hact, h5⟩ := hI
  refine lv_iconst (v := nI 0) hx hcd dX4_planned_0 (by decide) ?_
  refine lv_istore_n (lv' := [(2, .int (nI 0)), (0, .ref (eX V 500)), (1, .int (nI 1))]) hx hcd dX4_planned_1 rfl hl (by decide) rfl (fun ls hl => ?_)
  refine lv_iconst (v := nI 0) hx hcd dX4_planned_2 (by decide) ?_
  refine lv_istore_n (lv' := [(3, .int (nI 0)), (2, .int (nI 0)), (0, .ref (eX V 500)), (1, .int (nI 1))]) hx hcd dX4_planned_3 rfl hl (by decide) rfl (fun ls hl => ?_)
  have L_1 : ∀ (fu_3 : Nat) (i : Nat) (acc : Nat) (hi : i ≤ B.2 0) (ha9 : acc = sumUp (fun j => if (B.2 2).testBit j then B.1 1 j else 0) i) (hb2 : acc ≤ i * 65536), B.2 0 - i < fu_3 → ∀ (H : Heap) (locs : List Loc), cH V s H locs (mWs V M) → ∀ ls : Array Slot, lv_has ls 4 [(2, .int (nI (acc))), (3, .int (nI (i))), (0, .ref (eX V 500)), (1, .int (nI 1))] → W pg l e { frames := 1, cells := 0, slots := 0, locals := 22 } s m args below meth c H locs 0 0 Q (F0 m 4 ls []) := by
    intro fu_3
    induction fu_3 with
    | zero => intro i acc hi ha9 hb2 hm; exact absurd hm (Nat.not_lt_zero _)
    | succ fu_3 ih_2 =>
      intro i acc hi ha9 hb2 hm H locs h ls hl
      refine lv_iload_n hx hcd dX4_planned_4 rfl (lv_at hl 1 rfl) ?_
      refine lv_aload_n hx hcd dX4_planned_5 rfl (lv_at hl 2 rfl) ?_
      refine r_mA G hC h 0 (by decide) mw_1472 dX4_planned_6 ?_
      refine lv_iconst (v := nI 0) hx hcd dX4_planned_9 (by decide) ?_
      refine r_mL G hC h 0 (0) (by decide) (by decide) rfl (show 0 < 115 by omega) (x := nI (B.2 0)) (gOf_n hg (f := 0) (by decide)) dX4_planned_10 ?_
      have q_4 := hz.2 0
      refine lv_icmp_ge (tgt := 43) hx hcd dX4_planned_11 (by decide) (fun c_5 => ?_) (fun c_5 => ?_)
      · have c_5 := cLe (tN (n := B.2 0) (by omega)) (tN (n := i) (by omega)) c_5
        refine lv_iload_n hx hcd dX4_planned_43 rfl (lv_at hl 0 rfl) ?_
        exact k_reti hQ G hret hlocks h (⟨by rw [ha9, show i = B.2 0 by omega]; rfl, rfl⟩) (Nat.le_of_ble_eq_true rfl) (Nat.le_of_ble_eq_true rfl) dX4_planned_44
      · have c_5 := cNle (tN (n := B.2 0) (by omega)) (tN (n := i) (by omega)) c_5
        refine lv_iload_n hx hcd dX4_planned_14 rfl (lv_at hl 0 rfl) ?_
        refine lv_aload_n hx hcd dX4_planned_15 rfl (lv_at hl 2 rfl) ?_
        refine lv_iload_n hx hcd dX4_planned_16 rfl (lv_at hl 1 rfl) ?_
        refine lv_iconst (v := nI 2) hx hcd dX4_planned_17 (by decide) ?_
        refine k_Vi (As := [.int (nI (i)), .int (nI 2)]) (rest := [.int (nI (acc))]) (b := eX V 500) G hC hB h (met_X4_of l V M i 2 (by omega) (by decide)) mw_1572 kv_X4_of ⟨rfl, rfl⟩ ⟨Nat.le_of_ble_eq_true rfl, Nat.le_of_ble_eq_true rfl⟩ (r_mV hC h) rfl rfl hl.1 (Nat.le_of_ble_eq_true rfl) dX4_planned_18 ⟨Nat.le_of_ble_eq_true rfl, Nat.le_of_ble_eq_true rfl⟩ (fun r u H locs hp h => ?_)
        obtain ⟨hr9, hu9⟩ := hp
        obtain rfl : r = nI (pln B i) := (hr9.trans (gOf_s hg hn (k := i) (w := 2) (by omega) (by decide)))
        rw [hu9] at h
        have q_6 := pln_le B i
        refine lv_iconst (v := nI 1) hx hcd dX4_planned_21 (by decide) ?_
        refine lv_icmp_ne (tgt := 34) hx hcd dX4_planned_22 (by decide) (fun c_7 => ?_) (fun c_7 => ?_)
        · have c_7 := cNe (tN (n := pln B i) (by omega)) (tN (n := 1) (by decide)) c_7
          refine lv_iconst (v := nI 0) hx hcd dX4_planned_34 (by decide) ?_
          refine w_iadd (v := nI (acc + 0)) hx hcd dX4_planned_35 (nI_add _ _) ?_
          refine lv_istore_n (lv' := [(2, .int (nI (acc + 0))), (3, .int (nI (i))), (0, .ref (eX V 500)), (1, .int (nI 1))]) hx hcd dX4_planned_36 rfl hl (by decide) rfl (fun ls hl => ?_)
          refine lv_iinc (v := nI (i + 1)) (lv' := [(3, .int (nI (i + 1))), (2, .int (nI (acc + 0))), (0, .ref (eX V 500)), (1, .int (nI 1))]) hx hcd dX4_planned_37 hl (k := 1) rfl (by exact nI_add (i) 1) (by decide) rfl (fun ls hl => ?_)
          refine lv_goto (tgt := 4) hx hcd dX4_planned_40 (by decide) ?_
          exact ih_2 (i + 1) (acc + 0) (by omega) (sumUp_t ha9 (if_neg (fun z => Bool.noConfusion (z.symm.trans (pln_f (by omega)))))) (acc_in hb2 (by omega)) (by omega) _ _ h _ (lv_sub hl [1, 0, 2, 3] rfl)
        · have c_7 := cEq (tN (n := pln B i) (by omega)) (tN (n := 1) (by decide)) c_7
          refine lv_aload_n hx hcd dX4_planned_25 rfl (lv_at hl 2 rfl) ?_
          refine lv_iload_n hx hcd dX4_planned_26 rfl (lv_at hl 1 rfl) ?_
          refine lv_iload_n hx hcd dX4_planned_27 rfl (lv_at hl 3 rfl) ?_
          refine k_Vi (As := [.int (nI (i)), .int (nI 1)]) (rest := [.int (nI (acc))]) (b := eX V 500) G hC hB h (met_X4_of l V M i 1 (by omega) (by decide)) mw_1572 kv_X4_of ⟨rfl, rfl⟩ ⟨Nat.le_of_ble_eq_true rfl, Nat.le_of_ble_eq_true rfl⟩ (r_mV hC h) rfl rfl hl.1 (Nat.le_of_ble_eq_true rfl) dX4_planned_28 ⟨Nat.le_of_ble_eq_true rfl, Nat.le_of_ble_eq_true rfl⟩ (fun r u H locs hp h => ?_)
          obtain ⟨hr9, hu9⟩ := hp
          obtain rfl : r = nI (B.1 1 i) := (hr9.trans (gOf_s hg hn (k := i) (w := 1) (by omega) (by decide)))
          rw [hu9] at h
          have q_9 := hz.1 1 i
          refine lv_goto (tgt := 35) hx hcd dX4_planned_31 (by decide) ?_
          refine w_iadd (v := nI (acc + (B.1 1 i))) hx hcd dX4_planned_35 (nI_add _ _) ?_
          refine lv_istore_n (lv' := [(2, .int (nI (acc + (B.1 1 i)))), (3, .int (nI (i))), (0, .ref (eX V 500)), (1, .int (nI 1))]) hx hcd dX4_planned_36 rfl hl (by decide) rfl (fun ls hl => ?_)
          refine lv_iinc (v := nI (i + 1)) (lv' := [(3, .int (nI (i + 1))), (2, .int (nI (acc + (B.1 1 i)))), (0, .ref (eX V 500)), (1, .int (nI 1))]) hx hcd dX4_planned_37 hl (k := 1) rfl (by exact nI_add (i) 1) (by decide) rfl (fun ls hl => ?_)
          refine lv_goto (tgt := 4) hx hcd dX4_planned_40 (by decide) ?_
          exact ih_2 (i + 1) (acc + (B.1 1 i)) (by omega) (sumUp_t ha9 (if_pos (pln_t (by omega)))) (acc_in hb2 (by omega)) (by omega) _ _ h _ (lv_sub hl [1, 0, 2, 3] rfl)
  exact L_1 (B.2 0 + 1) 0 0 (by omega) rfl (by omega) (by omega) _ _ h _ (lv_sub hl [1, 0, 2, 3] rfl)
set_option maxHeartbeats 4000000 in
set_option maxRecDepth 100000 in
/-- scope() -/
theorem met_X4_scope (l : Launch) (V : kEnv) (M : kMs) (B : kBd) (hg : M.2 0 = gOf B) (hI : bI B) : kI l yX4_scope cX4_scope 1 (some .int) { frames := 2, cells := 0, slots := 0, locals := 45 } V (mWs V) [.ref (eX V 500)] (M) (fun r u => r = nI (plS B 0) ∧ u = nPut M 3 (nI 0)) 0 0 := by
  refine kI_of (by decide +kernel) (Nat.le_of_ble_eq_true rfl) ?_
  intro pg e s m args below meth c G hret hlocks hC hB h ls hl Q hQ
  have hl : lv_has ls 1 [(0, .ref (eX V 500))] := hl
  have hx := G.1
  have hcd := G.2.1
  have hI0 := hI
  obtain ⟨hz, hbn, hn, hm, h3, h54, h4, h7, hr, he, ha, hact, h5⟩ := hI
  refine lv_aload_n hx hcd dX4_scope_0 rfl (lv_at hl 0 rfl) ?_
  refine lv_iconst (v := nI 0) hx hcd dX4_scope_1 (by decide) ?_
  refine r_mP G hC h 3 (by decide) mw_1479 (fun z => absurd z (by decide)) rfl dX4_scope_2 (fun H locs h => ?_)
  refine lv_aload_n hx hcd dX4_scope_5 rfl (lv_at hl 0 rfl) ?_
  refine lv_iconst (v := nI 0) hx hcd dX4_scope_6 (by decide) ?_
  refine k_Vi (As := [.int (nI 0)]) (rest := []) (b := eX V 500) G hC hB h (met_X4_planned0 l V (nPut M 3 (nI 0)) B hg hI0) mw_1718 kv_X4_planned ⟨rfl, rfl⟩ ⟨Nat.le_of_ble_eq_true rfl, Nat.le_of_ble_eq_true rfl⟩ (r_mV hC h) rfl rfl hl.1 (Nat.le_of_ble_eq_true rfl) dX4_scope_7 ⟨Nat.le_of_ble_eq_true rfl, Nat.le_of_ble_eq_true rfl⟩ (fun r u H locs hp h => ?_)
  obtain ⟨hr9, hu9⟩ := hp
  obtain rfl : r = nI (plS B 0) := hr9
  rw [hu9] at h
  have q_1 := plS_le hI0 (c := 0) (by decide)
  exact k_reti hQ G hret hlocks h (⟨rfl, rfl⟩) (Nat.le_of_ble_eq_true rfl) (Nat.le_of_ble_eq_true rfl) dX4_scope_10
set_option maxHeartbeats 4000000 in
set_option maxRecDepth 100000 in
/-- left() -/
theorem met_X4_left (l : Launch) (V : kEnv) (M : kMs) (B : kBd) (hg : M.2 0 = gOf B) (hI : bI B) : kI l yX4_left cX4_left 1 (some .int) { frames := 2, cells := 0, slots := 0, locals := 45 } V (mWs V) [.ref (eX V 500)] (M) (fun r u => r = nI (plS B 1) ∧ u = nPut M 3 (nI 0)) 0 0 := by
  refine kI_of (by decide +kernel) (Nat.le_of_ble_eq_true rfl) ?_
  intro pg e s m args below meth c G hret hlocks hC hB h ls hl Q hQ
  have hl : lv_has ls 1 [(0, .ref (eX V 500))] := hl
  have hx := G.1
  have hcd := G.2.1
  have hI0 := hI
  obtain ⟨hz, hbn, hn, hm, h3, h54, h4, h7, hr, he, ha, hact, h5⟩ := hI
  refine lv_aload_n hx hcd dX4_left_0 rfl (lv_at hl 0 rfl) ?_
  refine lv_iconst (v := nI 0) hx hcd dX4_left_1 (by decide) ?_
  refine r_mP G hC h 3 (by decide) mw_1479 (fun z => absurd z (by decide)) rfl dX4_left_2 (fun H locs h => ?_)
  refine lv_aload_n hx hcd dX4_left_5 rfl (lv_at hl 0 rfl) ?_
  refine lv_iconst (v := nI 1) hx hcd dX4_left_6 (by decide) ?_
  refine k_Vi (As := [.int (nI 1)]) (rest := []) (b := eX V 500) G hC hB h (met_X4_planned1 l V (nPut M 3 (nI 0)) B hg hI0) mw_1718 kv_X4_planned ⟨rfl, rfl⟩ ⟨Nat.le_of_ble_eq_true rfl, Nat.le_of_ble_eq_true rfl⟩ (r_mV hC h) rfl rfl hl.1 (Nat.le_of_ble_eq_true rfl) dX4_left_7 ⟨Nat.le_of_ble_eq_true rfl, Nat.le_of_ble_eq_true rfl⟩ (fun r u H locs hp h => ?_)
  obtain ⟨hr9, hu9⟩ := hp
  obtain rfl : r = nI (plS B 1) := hr9
  rw [hu9] at h
  have q_1 := plS_le hI0 (c := 1) (by decide)
  exact k_reti hQ G hret hlocks h (⟨rfl, rfl⟩) (Nat.le_of_ble_eq_true rfl) (Nat.le_of_ble_eq_true rfl) dX4_left_10
set_option maxHeartbeats 4000000 in
set_option maxRecDepth 100000 in
/-- worked() -/
theorem met_X4_worked (l : Launch) (V : kEnv) (M : kMs) (B : kBd) (hg : M.2 0 = gOf B) (hI : bI B) : kI l yX4_worked cX4_worked 1 (some .int) { frames := 2, cells := 0, slots := 0, locals := 45 } V (mWs V) [.ref (eX V 500)] (M) (fun r u => r = nI (plS B 0) - nI (plS B 1) ∧ u = nPut M 3 (nI 0)) 0 0 := by
  refine kI_of (by decide +kernel) (Nat.le_of_ble_eq_true rfl) ?_
  intro pg e s m args below meth c G hret hlocks hC hB h ls hl Q hQ
  have hl : lv_has ls 1 [(0, .ref (eX V 500))] := hl
  have hx := G.1
  have hcd := G.2.1
  have hI0 := hI
  obtain ⟨hz, hbn, hn, hm, h3, h54, h4, h7, hr, he, ha, hact, h5⟩ := hI
  refine lv_aload_n hx hcd dX4_worked_0 rfl (lv_at hl 0 rfl) ?_
  refine lv_iconst (v := nI 0) hx hcd dX4_worked_1 (by decide) ?_
  refine r_mP G hC h 3 (by decide) mw_1479 (fun z => absurd z (by decide)) rfl dX4_worked_2 (fun H locs h => ?_)
  refine lv_aload_n hx hcd dX4_worked_5 rfl (lv_at hl 0 rfl) ?_
  refine lv_iconst (v := nI 0) hx hcd dX4_worked_6 (by decide) ?_
  refine k_Vi (As := [.int (nI 0)]) (rest := []) (b := eX V 500) G hC hB h (met_X4_planned0 l V (nPut M 3 (nI 0)) B hg hI0) mw_1718 kv_X4_planned ⟨rfl, rfl⟩ ⟨Nat.le_of_ble_eq_true rfl, Nat.le_of_ble_eq_true rfl⟩ (r_mV hC h) rfl rfl hl.1 (Nat.le_of_ble_eq_true rfl) dX4_worked_7 ⟨Nat.le_of_ble_eq_true rfl, Nat.le_of_ble_eq_true rfl⟩ (fun r u H locs hp h => ?_)
  obtain ⟨hr9, hu9⟩ := hp
  obtain rfl : r = nI (plS B 0) := hr9
  rw [hu9] at h
  have q_1 := plS_le hI0 (c := 0) (by decide)
  refine lv_aload_n hx hcd dX4_worked_10 rfl (lv_at hl 0 rfl) ?_
  refine lv_iconst (v := nI 1) hx hcd dX4_worked_11 (by decide) ?_
  refine k_Vi (As := [.int (nI 1)]) (rest := [.int (nI (plS B 0))]) (b := eX V 500) G hC hB h (met_X4_planned1 l V (nPut M 3 (nI 0)) B hg hI0) mw_1718 kv_X4_planned ⟨rfl, rfl⟩ ⟨Nat.le_of_ble_eq_true rfl, Nat.le_of_ble_eq_true rfl⟩ (r_mV hC h) rfl rfl hl.1 (Nat.le_of_ble_eq_true rfl) dX4_worked_12 ⟨Nat.le_of_ble_eq_true rfl, Nat.le_of_ble_eq_true rfl⟩ (fun r u H locs hp h => ?_)
  obtain ⟨hr9, hu9⟩ := hp
  obtain rfl : r = nI (plS B 1) := hr9
  rw [hu9] at h
  have q_2 := plS_le hI0 (c := 1) (by decide)
  refine w_isub (v := nI (plS B 0) - nI (plS B 1)) hx hcd dX4_worked_15 rfl ?_
  exact k_reti hQ G hret hlocks h (⟨rfl, rfl⟩) (Nat.le_of_ble_eq_true rfl) (Nat.le_of_ble_eq_true rfl) dX4_worked_16
set_option maxHeartbeats 4000000 in
set_option maxRecDepth 100000 in
/-- isIdle() -/
theorem met_X4_isIdle (l : Launch) (V : kEnv) (M : kMs) (B : kBd) (hg : M.2 0 = gOf B) (hI : bI B) : kI l yX4_isIdle cX4_isIdle 1 (some .boolean) { frames := 1, cells := 0, slots := 0, locals := 21 } V (mWs V) [.ref (eX V 500)] (M) (fun r u => (B.2 3 ≠ 0 ∧ r = nI 0 ∧ u = nPut M 3 (nI 0)) ∨ (B.2 3 = 0 ∧ r = nI 1 ∧ u = nPut M 3 (nI 1))) 0 0 := by
  refine kI_of (by decide +kernel) (Nat.le_of_ble_eq_true rfl) ?_
  intro pg e s m args below meth c G hret hlocks hC hB h ls hl Q hQ
  have hl : lv_has ls 1 [(0, .ref (eX V 500))] := hl
  have hx := G.1
  have hcd := G.2.1
  have hI0 := hI
  obtain ⟨hz, hbn, hn, hm, h3, h54, h4, h7, hr, he, ha, hact, h5⟩ := hI
  refine lv_aload_n hx hcd dX4_isIdle_0 rfl (lv_at hl 0 rfl) ?_
  refine lv_aload_n hx hcd dX4_isIdle_1 rfl (lv_at hl 0 rfl) ?_
  refine r_mA G hC h 0 (by decide) mw_1472 dX4_isIdle_2 ?_
  refine lv_iconst (v := nI 2) hx hcd dX4_isIdle_5 (by decide) ?_
  refine r_mL G hC h 0 (2) (by decide) (by decide) rfl (show 2 < 115 by omega) (x := nI (B.2 3)) (gOf_n hg (f := 2) (by decide)) dX4_isIdle_6 ?_
  have q_1 := hz.2 3
  refine lv_if_ne (tgt := 14) hx hcd dX4_isIdle_7 (by decide) (fun c_2 => ?_) (fun c_2 => ?_)
  · have c_2 := cNe (tN (n := B.2 3) (by omega)) t0 c_2
    refine lv_iconst (v := nI 0) hx hcd dX4_isIdle_14 (by decide) ?_
    refine k_Vi (As := [.int (nI 0)]) (rest := []) (b := eX V 500) G hC hB h (met_X4_fails l V M (nI 0)) mw_1545 kv_X4_fails ⟨rfl, rfl⟩ ⟨Nat.le_of_ble_eq_true rfl, Nat.le_of_ble_eq_true rfl⟩ (r_mV hC h) rfl rfl hl.1 (Nat.le_of_ble_eq_true rfl) dX4_isIdle_15 ⟨Nat.le_of_ble_eq_true rfl, Nat.le_of_ble_eq_true rfl⟩ (fun r u H locs hp h => ?_)
    obtain ⟨hr9, hu9⟩ := hp
    obtain rfl : r = nI 0 := (hr9.trans (by decide))
    rw [hu9] at h
    exact k_retz hQ G hret hlocks h (Or.inl rfl) (Or.inl ⟨by omega, rfl, rfl⟩) (Nat.le_of_ble_eq_true rfl) (Nat.le_of_ble_eq_true rfl) dX4_isIdle_18
  · have c_2 := cEq (tN (n := B.2 3) (by omega)) t0 c_2
    refine lv_iconst (v := nI 1) hx hcd dX4_isIdle_10 (by decide) ?_
    refine lv_goto (tgt := 15) hx hcd dX4_isIdle_11 (by decide) ?_
    refine k_Vi (As := [.int (nI 1)]) (rest := []) (b := eX V 500) G hC hB h (met_X4_fails l V M (nI 1)) mw_1545 kv_X4_fails ⟨rfl, rfl⟩ ⟨Nat.le_of_ble_eq_true rfl, Nat.le_of_ble_eq_true rfl⟩ (r_mV hC h) rfl rfl hl.1 (Nat.le_of_ble_eq_true rfl) dX4_isIdle_15 ⟨Nat.le_of_ble_eq_true rfl, Nat.le_of_ble_eq_true rfl⟩ (fun r u H locs hp h => ?_)
    obtain ⟨hr9, hu9⟩ := hp
    obtain rfl : r = nI 1 := (hr9.trans (by decide))
    rw [hu9] at h
    exact k_retz hQ G hret hlocks h (Or.inr rfl) (Or.inr ⟨by omega, rfl, rfl⟩) (Nat.le_of_ble_eq_true rfl) (Nat.le_of_ble_eq_true rfl) dX4_isIdle_18
set_option maxHeartbeats 4000000 in
set_option maxRecDepth 100000 in
/-- daysPassed() -/
theorem met_X4_daysPassed (l : Launch) (V : kEnv) (M : kMs) (B : kBd) (hg : M.2 0 = gOf B) (hI : bI B) : kI l yX4_daysPassed cX4_daysPassed 1 (some .int) { frames := 2, cells := 0, slots := 0, locals := 41 } V (mWs V) [.ref (eX V 500)] (M) (fun r u => (B.2 3 ≠ 0 ∧ r = nI (B.2 5) ∧ u = nPut M 3 (nI 0)) ∨ (B.2 3 = 0 ∧ r = nI 0 ∧ u = nPut M 3 (nI 1))) 0 0 := by
  refine kI_of (by decide +kernel) (Nat.le_of_ble_eq_true rfl) ?_
  intro pg e s m args below meth c G hret hlocks hC hB h ls hl Q hQ
  have hl : lv_has ls 1 [(0, .ref (eX V 500))] := hl
  have hx := G.1
  have hcd := G.2.1
  have hI0 := hI
  obtain ⟨hz, hbn, hn, hm, h3, h54, h4, h7, hr, he, ha, hact, h5⟩ := hI
  refine lv_aload_n hx hcd dX4_daysPassed_0 rfl (lv_at hl 0 rfl) ?_
  refine k_Vi (As := []) (rest := []) (b := eX V 500) G hC hB h (met_X4_isIdle l V M B hg hI0) mw_1754 kv_X4_isIdle ⟨rfl, rfl⟩ ⟨Nat.le_of_ble_eq_true rfl, Nat.le_of_ble_eq_true rfl⟩ (r_mV hC h) rfl rfl hl.1 (Nat.le_of_ble_eq_true rfl) dX4_daysPassed_1 ⟨Nat.le_of_ble_eq_true rfl, Nat.le_of_ble_eq_true rfl⟩ (fun r u H locs hp h => ?_)
  rcases hp with ⟨c9, rfl, hu9⟩ | ⟨c9, rfl, hu9⟩
  · skip
    rw [hu9] at h
    refine lv_if_eq (tgt := 11) hx hcd dX4_daysPassed_4 (by decide) (fun _ => ?_) (fun c_1 => absurd c_1 (by decide))
    refine lv_aload_n hx hcd dX4_daysPassed_11 rfl (lv_at hl 0 rfl) ?_
    refine r_mA G hC h 0 (by decide) mw_1472 dX4_daysPassed_12 ?_
    refine lv_iconst (v := nI 4) hx hcd dX4_daysPassed_15 (by decide) ?_
    refine r_mL G hC h 0 (4) (by decide) (by decide) rfl (show 4 < 115 by omega) (x := nI (B.2 5)) (gOf_n hg (f := 4) (by decide)) dX4_daysPassed_16 ?_
    have q_2 := hz.2 5
    exact k_reti hQ G hret hlocks h (Or.inl ⟨by omega, rfl, rfl⟩) (Nat.le_of_ble_eq_true rfl) (Nat.le_of_ble_eq_true rfl) dX4_daysPassed_17
  · skip
    rw [hu9] at h
    refine lv_if_eq (tgt := 11) hx hcd dX4_daysPassed_4 (by decide) (fun c_3 => absurd c_3 (by decide)) (fun _ => ?_)
    refine lv_iconst (v := nI 0) hx hcd dX4_daysPassed_7 (by decide) ?_
    refine lv_goto (tgt := 17) hx hcd dX4_daysPassed_8 (by decide) ?_
    exact k_reti hQ G hret hlocks h (Or.inr ⟨by omega, rfl, rfl⟩) (Nat.le_of_ble_eq_true rfl) (Nat.le_of_ble_eq_true rfl) dX4_daysPassed_17
set_option maxHeartbeats 4000000 in
set_option maxRecDepth 100000 in
/-- scopeChange() -/
theorem met_X4_scopeChange (l : Launch) (V : kEnv) (M : kMs) (B : kBd) (hg : M.2 0 = gOf B) (hI : bI B) : kI l yX4_scopeChange cX4_scopeChange 1 (some .int) { frames := 2, cells := 0, slots := 0, locals := 45 } V (mWs V) [.ref (eX V 500)] (M) (fun r u => (B.2 3 ≠ 0 ∧ r = nI (plS B 0) - nI (B.2 6) ∧ u = nPut M 3 (nI 0)) ∨ (B.2 3 = 0 ∧ r = nI 0 ∧ u = nPut M 3 (nI 1))) 0 0 := by
  refine kI_of (by decide +kernel) (Nat.le_of_ble_eq_true rfl) ?_
  intro pg e s m args below meth c G hret hlocks hC hB h ls hl Q hQ
  have hl : lv_has ls 1 [(0, .ref (eX V 500))] := hl
  have hx := G.1
  have hcd := G.2.1
  have hI0 := hI
  obtain ⟨hz, hbn, hn, hm, h3, h54, h4, h7, hr, he, ha, hact, h5⟩ := hI
  refine lv_aload_n hx hcd dX4_scopeChange_0 rfl (lv_at hl 0 rfl) ?_
  refine k_Vi (As := []) (rest := []) (b := eX V 500) G hC hB h (met_X4_isIdle l V M B hg hI0) mw_1754 kv_X4_isIdle ⟨rfl, rfl⟩ ⟨Nat.le_of_ble_eq_true rfl, Nat.le_of_ble_eq_true rfl⟩ (r_mV hC h) rfl rfl hl.1 (Nat.le_of_ble_eq_true rfl) dX4_scopeChange_1 ⟨Nat.le_of_ble_eq_true rfl, Nat.le_of_ble_eq_true rfl⟩ (fun r u H locs hp h => ?_)
  rcases hp with ⟨c9, rfl, hu9⟩ | ⟨c9, rfl, hu9⟩
  · skip
    rw [hu9] at h
    refine lv_if_eq (tgt := 11) hx hcd dX4_scopeChange_4 (by decide) (fun _ => ?_) (fun c_1 => absurd c_1 (by decide))
    refine lv_aload_n hx hcd dX4_scopeChange_11 rfl (lv_at hl 0 rfl) ?_
    refine lv_iconst (v := nI 0) hx hcd dX4_scopeChange_12 (by decide) ?_
    refine k_Vi (As := [.int (nI 0)]) (rest := []) (b := eX V 500) G hC hB h (met_X4_planned0 l V (nPut M 3 (nI 0)) B hg hI0) mw_1718 kv_X4_planned ⟨rfl, rfl⟩ ⟨Nat.le_of_ble_eq_true rfl, Nat.le_of_ble_eq_true rfl⟩ (r_mV hC h) rfl rfl hl.1 (Nat.le_of_ble_eq_true rfl) dX4_scopeChange_13 ⟨Nat.le_of_ble_eq_true rfl, Nat.le_of_ble_eq_true rfl⟩ (fun r u H locs hp h => ?_)
    obtain ⟨hr9, hu9⟩ := hp
    obtain rfl : r = nI (plS B 0) := hr9
    rw [hu9] at h
    have q_2 := plS_le hI0 (c := 0) (by decide)
    refine lv_aload_n hx hcd dX4_scopeChange_16 rfl (lv_at hl 0 rfl) ?_
    refine r_mA G hC h 0 (by decide) mw_1472 dX4_scopeChange_17 ?_
    refine lv_iconst (v := nI 5) hx hcd dX4_scopeChange_20 (by decide) ?_
    refine r_mL G hC h 0 (5) (by decide) (by decide) rfl (show 5 < 115 by omega) (x := nI (B.2 6)) (gOf_n hg (f := 5) (by decide)) dX4_scopeChange_21 ?_
    have q_3 := hz.2 6
    refine w_isub (v := nI (plS B 0) - nI (B.2 6)) hx hcd dX4_scopeChange_22 rfl ?_
    exact k_reti hQ G hret hlocks h (Or.inl ⟨by omega, rfl, rfl⟩) (Nat.le_of_ble_eq_true rfl) (Nat.le_of_ble_eq_true rfl) dX4_scopeChange_23
  · skip
    rw [hu9] at h
    refine lv_if_eq (tgt := 11) hx hcd dX4_scopeChange_4 (by decide) (fun c_4 => absurd c_4 (by decide)) (fun _ => ?_)
    refine lv_iconst (v := nI 0) hx hcd dX4_scopeChange_7 (by decide) ?_
    refine lv_goto (tgt := 23) hx hcd dX4_scopeChange_8 (by decide) ?_
    exact k_reti hQ G hret hlocks h (Or.inr ⟨by omega, rfl, rfl⟩) (Nat.le_of_ble_eq_true rfl) (Nat.le_of_ble_eq_true rfl) dX4_scopeChange_23
