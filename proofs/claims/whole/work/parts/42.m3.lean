/-! THE REFERENCE: people, days, copies. -/
theorem rngm_ex {x : Int32} {n : Nat} (hb : n < 2147483648) (h : (0 : Int) ≤ x.toInt ∧ x.toInt ≤ ((n : Nat) : Int) - 1) : ∃ k : Nat, x = nI k ∧ k < n :=
  ⟨x.toInt.toNat, of_toInt (by omega) (by omega), by omega⟩
/-- i numbers of array q1 from a copied to q2 from b -/
def cpG (M : kMs) (q1 a q2 b i : Nat) : kMs := (M.1, va_up M.2 q2 (fun j => if b ≤ j ∧ j < b + i then M.2 q1 (a + (j - b)) else M.2 q2 j))
theorem cpG_0 (M : kMs) (q1 a q2 b : Nat) : cpG M q1 a q2 b 0 = M := by
  unfold cpG
  refine Prod.ext rfl (funext fun r => ?_)
  show va_up M.2 q2 _ r = M.2 r
  simp only [va_up]
  split
  · rename_i h; subst h
    funext j
    rw [if_neg (by omega)]
  · rfl
theorem cpG_r (M : kMs) {q1 q2 : Nat} (a b i j : Nat) (h : q1 ≠ q2) : (cpG M q1 a q2 b i).2 q1 j = M.2 q1 j := by
  show va_up M.2 q2 _ q1 j = _
  simp only [va_up]
  rw [if_neg h]
theorem cpG_s (M : kMs) {q1 q2 : Nat} (a b i : Nat) : gPut (cpG M q1 a q2 b i) q2 (b + i) (M.2 q1 (a + i)) = cpG M q1 a q2 b (i + 1) := by
  unfold gPut cpG
  refine Prod.ext rfl (funext fun r => ?_)
  show va_up (va_up M.2 q2 _) q2 (upd (va_up M.2 q2 _ q2) (b + i) (M.2 q1 (a + i))) r = va_up M.2 q2 _ r
  simp only [va_up]
  by_cases h : r = q2
  · rw [if_pos h, if_pos h]
    simp only [if_true]
    funext j
    simp only [upd]
    by_cases h2 : j = b + i
    · rw [if_pos h2, if_pos (by omega), show a + (j - b) = a + i by omega]
    · rw [if_neg h2]
      by_cases h3 : b ≤ j ∧ j < b + i
      · rw [if_pos h3, if_pos (by omega)]
      · rw [if_neg h3, if_neg (by omega)]
  · rw [if_neg h, if_neg h, if_neg h]
/-- the kept boards moved down by one -/
def shG (M : kMs) (i : Nat) : kMs := (M.1, va_up M.2 1 (fun j => if j < i then M.2 1 (j + 115) else M.2 1 j))
theorem shG_0 (M : kMs) : shG M 0 = M := by
  unfold shG
  refine Prod.ext rfl (funext fun r => ?_)
  show va_up M.2 1 _ r = M.2 r
  simp only [va_up]
  split
  · rename_i h; subst h
    funext j
    rw [if_neg (by omega)]
  · rfl
theorem shG_r (M : kMs) (i : Nat) : (shG M i).2 1 (i + 115) = M.2 1 (i + 115) := by
  show (if (1 : Nat) = 1 then (fun j => if j < i then M.2 1 (j + 115) else M.2 1 j) else M.2 1) (i + 115) = _
  rw [if_pos rfl]
  exact if_neg (by omega)
theorem shG_s (M : kMs) (i : Nat) : gPut (shG M i) 1 i (M.2 1 (i + 115)) = shG M (i + 1) := by
  unfold gPut shG
  refine Prod.ext rfl (funext fun r => ?_)
  show va_up (va_up M.2 1 _) 1 (upd (va_up M.2 1 _ 1) i (M.2 1 (i + 115))) r = va_up M.2 1 _ r
  simp only [va_up]
  by_cases h : r = 1
  · rw [if_pos h, if_pos h]
    simp only [if_true]
    funext j
    simp only [upd]
    by_cases h2 : j = i
    · rw [if_pos h2, if_pos (by omega), h2]
    · rw [if_neg h2]
      by_cases h3 : j < i
      · rw [if_pos h3, if_pos (by omega)]
      · rw [if_neg h3, if_neg (by omega)]
  · rw [if_neg h, if_neg h, if_neg h]
/-- what keeps leaves behind: row q, c boards kept before -/
def kpG (M : kMs) (q c : Nat) : kMs := if c = 8 then nPut (cpG (nPut (shG (nPut M 3 (nI 0)) 805) 1 (nI (c - 1))) q 0 1 (115 * (c - 1)) 115) 1 (nI (c - 1 + 1)) else nPut (cpG (nPut M 3 (nI 0)) q 0 1 (115 * c) 115) 1 (nI (c + 1))
theorem kv_X4_areNone : kV yX4_areNone cX4_areNone 3 (some .boolean) 2 := ⟨mw_1653, mw_34, mw_64, mw_1654, by decide, by decide, by decide +kernel⟩
theorem kv_X4_areStories : kV yX4_areStories cX4_areStories 3 (some .boolean) 2 := ⟨mw_1589, mw_27, mw_64, mw_1590, by decide, by decide, by decide +kernel⟩
theorem kv_X4_by : kV yX4_by cX4_by 3 (some .int) 2 := ⟨mw_1692, mw_37, mw_64, mw_1693, by decide, by decide, by decide +kernel⟩
theorem ks_X4_copies : kSt yX4_copies cX4_copies 5 none 4 := ⟨mw_1554, mw_64, mw_1555, by decide, by decide, by decide +kernel⟩
theorem kv_X4_isPerson : kV yX4_isPerson cX4_isPerson 2 (some .boolean) 1 := ⟨mw_1688, mw_36, mw_64, mw_1689, by decide, by decide, by decide +kernel⟩
set_option maxHeartbeats 4000000 in
set_option maxRecDepth 100000 in
/-- speedOf(x) -/
theorem met_X4_speedOf (l : Launch) (V : kEnv) (M : kMs) (B : kBd) (hg : M.2 0 = gOf B) (hI : bI B) (x : Int32) : kI l yX4_speedOf cX4_speedOf 2 (some .int) { frames := 2, cells := 0, slots := 0, locals := 43 } V (mWs V) [.ref (eX V 500), .int (x)] (M) (fun r u => (∃ k, k < B.2 1 ∧ x = nI k ∧ r = nI (B.1 3 k) ∧ u = nPut M 3 (nI 0)) ∨ (inS (B.2 1) x = false ∧ r = nI 0 ∧ u = nPut M 3 (nI 1))) 0 0 := by
  refine kI_of (by decide +kernel) (Nat.le_of_ble_eq_true rfl) ?_
  intro pg e s m args below meth c G hret hlocks hC hB h ls hl Q hQ
  have hl : lv_has ls 2 [(0, .ref (eX V 500)), (1, .int (x))] := hl
  have hx := G.1
  have hcd := G.2.1
  have hI0 := hI
  obtain ⟨hz, hbn, hn, hm, h3, h54, h4, h7, hr, he, ha, hact, h5⟩ := hI
  refine lv_aload_n hx hcd dX4_speedOf_0 rfl (lv_at hl 0 rfl) ?_
  refine lv_aload_n hx hcd dX4_speedOf_1 rfl (lv_at hl 0 rfl) ?_
  refine lv_iload_n hx hcd dX4_speedOf_2 rfl (lv_at hl 1 rfl) ?_
  refine k_Vi (As := [.int (x)]) (rest := [.ref (eX V 500)]) (b := eX V 500) G hC hB h (met_X4_isPerson l V M B hg hI0 x) mw_1686 kv_X4_isPerson ⟨rfl, rfl⟩ ⟨Nat.le_of_ble_eq_true rfl, Nat.le_of_ble_eq_true rfl⟩ (r_mV hC h) rfl rfl hl.1 (Nat.le_of_ble_eq_true rfl) dX4_speedOf_3 ⟨Nat.le_of_ble_eq_true rfl, Nat.le_of_ble_eq_true rfl⟩ (fun r u H locs hp h => ?_)
  obtain ⟨hr9, hu9⟩ := hp
  rw [hu9] at h
  rcases bsp (inS (B.2 1) x) with c9 | c9
  · skip
    obtain rfl : r = nI 1 := (hr9.trans ((congrArg bz c9).trans (by decide)))
    obtain ⟨k_1, hk_2, rfl⟩ := inS_ex (by omega) c9
    refine lv_if_eq (tgt := 13) hx hcd dX4_speedOf_6 (by decide) (fun c_3 => absurd c_3 (by decide)) (fun _ => ?_)
    refine lv_iconst (v := nI 0) hx hcd dX4_speedOf_9 (by decide) ?_
    refine lv_goto (tgt := 14) hx hcd dX4_speedOf_10 (by decide) ?_
    refine k_Vi (As := [.int (nI 0)]) (rest := []) (b := eX V 500) G hC hB h (met_X4_fails l V M (nI 0)) mw_1545 kv_X4_fails ⟨rfl, rfl⟩ ⟨Nat.le_of_ble_eq_true rfl, Nat.le_of_ble_eq_true rfl⟩ (r_mV hC h) rfl rfl hl.1 (Nat.le_of_ble_eq_true rfl) dX4_speedOf_14 ⟨Nat.le_of_ble_eq_true rfl, Nat.le_of_ble_eq_true rfl⟩ (fun r u H locs hp h => ?_)
    obtain ⟨hr9, hu9⟩ := hp
    obtain rfl : r = nI 0 := (hr9.trans (by decide))
    rw [hu9] at h
    refine lv_if_eq (tgt := 24) hx hcd dX4_speedOf_17 (by decide) (fun _ => ?_) (fun c_4 => absurd c_4 (by decide))
    refine lv_aload_n hx hcd dX4_speedOf_24 rfl (lv_at hl 0 rfl) ?_
    refine lv_iload_n hx hcd dX4_speedOf_25 rfl (lv_at hl 1 rfl) ?_
    refine lv_iconst (v := nI 0) hx hcd dX4_speedOf_26 (by decide) ?_
    refine k_Vi (As := [.int (nI (k_1)), .int (nI 0)]) (rest := []) (b := eX V 500) G hC hB h (met_X4_by l V (nPut M 3 (nI 0)) k_1 0 (by omega) (by decide)) mw_1690 kv_X4_by ⟨rfl, rfl⟩ ⟨Nat.le_of_ble_eq_true rfl, Nat.le_of_ble_eq_true rfl⟩ (r_mV hC h) rfl rfl hl.1 (Nat.le_of_ble_eq_true rfl) dX4_speedOf_27 ⟨Nat.le_of_ble_eq_true rfl, Nat.le_of_ble_eq_true rfl⟩ (fun r u H locs hp h => ?_)
    obtain ⟨hr9, hu9⟩ := hp
    obtain rfl : r = nI (B.1 3 k_1) := (hr9.trans (gOf_p0 hg hm (d := k_1) (by omega)))
    rw [hu9] at h
    have q_5 := hz.1 3 k_1
    exact k_reti hQ G hret hlocks h (Or.inl ⟨_, by assumption, rfl, rfl, rfl⟩) (Nat.le_of_ble_eq_true rfl) (Nat.le_of_ble_eq_true rfl) dX4_speedOf_30
  · skip
    obtain rfl : r = nI 0 := (hr9.trans ((congrArg bz c9).trans (by decide)))
    refine lv_if_eq (tgt := 13) hx hcd dX4_speedOf_6 (by decide) (fun _ => ?_) (fun c_6 => absurd c_6 (by decide))
    refine lv_iconst (v := nI 1) hx hcd dX4_speedOf_13 (by decide) ?_
    refine k_Vi (As := [.int (nI 1)]) (rest := []) (b := eX V 500) G hC hB h (met_X4_fails l V M (nI 1)) mw_1545 kv_X4_fails ⟨rfl, rfl⟩ ⟨Nat.le_of_ble_eq_true rfl, Nat.le_of_ble_eq_true rfl⟩ (r_mV hC h) rfl rfl hl.1 (Nat.le_of_ble_eq_true rfl) dX4_speedOf_14 ⟨Nat.le_of_ble_eq_true rfl, Nat.le_of_ble_eq_true rfl⟩ (fun r u H locs hp h => ?_)
    obtain ⟨hr9, hu9⟩ := hp
    obtain rfl : r = nI 1 := (hr9.trans (by decide))
    rw [hu9] at h
    refine lv_if_eq (tgt := 24) hx hcd dX4_speedOf_17 (by decide) (fun c_7 => absurd c_7 (by decide)) (fun _ => ?_)
    refine lv_iconst (v := nI 0) hx hcd dX4_speedOf_20 (by decide) ?_
    refine lv_goto (tgt := 30) hx hcd dX4_speedOf_21 (by decide) ?_
    exact k_reti hQ G hret hlocks h (Or.inr ⟨c9, rfl, rfl⟩) (Nat.le_of_ble_eq_true rfl) (Nat.le_of_ble_eq_true rfl) dX4_speedOf_30
set_option maxHeartbeats 4000000 in
set_option maxRecDepth 100000 in
/-- storyOf(x) -/
theorem met_X4_storyOf (l : Launch) (V : kEnv) (M : kMs) (B : kBd) (hg : M.2 0 = gOf B) (hI : bI B) (x : Int32) : kI l yX4_storyOf cX4_storyOf 2 (some .int) { frames := 2, cells := 0, slots := 0, locals := 43 } V (mWs V) [.ref (eX V 500), .int (x)] (M) (fun r u => (∃ k, k < B.2 1 ∧ x = nI k ∧ B.1 4 k ≠ 0 ∧ r = nI (B.1 4 k) - 1 ∧ u = nPut M 3 (nI 0)) ∨ (inS (B.2 1) x = false ∧ r = nI 0 ∧ u = nPut M 3 (nI 1)) ∨ (∃ k, k < B.2 1 ∧ x = nI k ∧ B.1 4 k = 0 ∧ r = nI 0 ∧ u = nPut M 3 (nI 2))) 0 0 := by
  refine kI_of (by decide +kernel) (Nat.le_of_ble_eq_true rfl) ?_
  intro pg e s m args below meth c G hret hlocks hC hB h ls hl Q hQ
  have hl : lv_has ls 2 [(0, .ref (eX V 500)), (1, .int (x))] := hl
  have hx := G.1
  have hcd := G.2.1
  have hI0 := hI
  obtain ⟨hz, hbn, hn, hm, h3, h54, h4, h7, hr, he, ha, hact, h5⟩ := hI
  refine lv_aload_n hx hcd dX4_storyOf_0 rfl (lv_at hl 0 rfl) ?_
  refine lv_aload_n hx hcd dX4_storyOf_1 rfl (lv_at hl 0 rfl) ?_
  refine lv_iload_n hx hcd dX4_storyOf_2 rfl (lv_at hl 1 rfl) ?_
  refine k_Vi (As := [.int (x)]) (rest := [.ref (eX V 500)]) (b := eX V 500) G hC hB h (met_X4_isPerson l V M B hg hI0 x) mw_1686 kv_X4_isPerson ⟨rfl, rfl⟩ ⟨Nat.le_of_ble_eq_true rfl, Nat.le_of_ble_eq_true rfl⟩ (r_mV hC h) rfl rfl hl.1 (Nat.le_of_ble_eq_true rfl) dX4_storyOf_3 ⟨Nat.le_of_ble_eq_true rfl, Nat.le_of_ble_eq_true rfl⟩ (fun r u H locs hp h => ?_)
  obtain ⟨hr9, hu9⟩ := hp
  rw [hu9] at h
  rcases bsp (inS (B.2 1) x) with c9 | c9
  · skip
    obtain rfl : r = nI 1 := (hr9.trans ((congrArg bz c9).trans (by decide)))
    obtain ⟨k_1, hk_2, rfl⟩ := inS_ex (by omega) c9
    refine lv_if_ne (tgt := 13) hx hcd dX4_storyOf_6 (by decide) (fun _ => ?_) (fun c_3 => absurd c_3 (by decide))
    refine lv_aload_n hx hcd dX4_storyOf_13 rfl (lv_at hl 0 rfl) ?_
    refine lv_iload_n hx hcd dX4_storyOf_14 rfl (lv_at hl 1 rfl) ?_
    refine lv_iconst (v := nI 1) hx hcd dX4_storyOf_15 (by decide) ?_
    refine k_Vi (As := [.int (nI (k_1)), .int (nI 1)]) (rest := [.ref (eX V 500)]) (b := eX V 500) G hC hB h (met_X4_by l V M k_1 1 (by omega) (by decide)) mw_1690 kv_X4_by ⟨rfl, rfl⟩ ⟨Nat.le_of_ble_eq_true rfl, Nat.le_of_ble_eq_true rfl⟩ (r_mV hC h) rfl rfl hl.1 (Nat.le_of_ble_eq_true rfl) dX4_storyOf_16 ⟨Nat.le_of_ble_eq_true rfl, Nat.le_of_ble_eq_true rfl⟩ (fun r u H locs hp h => ?_)
    obtain ⟨hr9, hu9⟩ := hp
    obtain rfl : r = nI (B.1 4 k_1) - 1 := (hr9.trans (gOf_p1 hg hm (d := k_1) (by omega)))
    rw [hu9] at h
    have q_4 := hz.1 4 k_1
    refine lv_if_ge (tgt := 26) hx hcd dX4_storyOf_19 (by decide) (fun c_5 => ?_) (fun c_5 => ?_)
    · have c_5 := cLe t0 (tA (n := B.1 4 k_1) (by omega)) c_5
      refine lv_iconst (v := nI 0) hx hcd dX4_storyOf_26 (by decide) ?_
      refine k_Vi (As := [.int (nI 0)]) (rest := []) (b := eX V 500) G hC hB h (met_X4_fails l V M (nI 0)) mw_1545 kv_X4_fails ⟨rfl, rfl⟩ ⟨Nat.le_of_ble_eq_true rfl, Nat.le_of_ble_eq_true rfl⟩ (r_mV hC h) rfl rfl hl.1 (Nat.le_of_ble_eq_true rfl) dX4_storyOf_27 ⟨Nat.le_of_ble_eq_true rfl, Nat.le_of_ble_eq_true rfl⟩ (fun r u H locs hp h => ?_)
      obtain ⟨hr9, hu9⟩ := hp
      obtain rfl : r = nI 0 := (hr9.trans (by decide))
      rw [hu9] at h
      refine lv_if_eq (tgt := 37) hx hcd dX4_storyOf_30 (by decide) (fun _ => ?_) (fun c_6 => absurd c_6 (by decide))
      refine lv_aload_n hx hcd dX4_storyOf_37 rfl (lv_at hl 0 rfl) ?_
      refine lv_iload_n hx hcd dX4_storyOf_38 rfl (lv_at hl 1 rfl) ?_
      refine lv_iconst (v := nI 1) hx hcd dX4_storyOf_39 (by decide) ?_
      refine k_Vi (As := [.int (nI (k_1)), .int (nI 1)]) (rest := []) (b := eX V 500) G hC hB h (met_X4_by l V (nPut M 3 (nI 0)) k_1 1 (by omega) (by decide)) mw_1690 kv_X4_by ⟨rfl, rfl⟩ ⟨Nat.le_of_ble_eq_true rfl, Nat.le_of_ble_eq_true rfl⟩ (r_mV hC h) rfl rfl hl.1 (Nat.le_of_ble_eq_true rfl) dX4_storyOf_40 ⟨Nat.le_of_ble_eq_true rfl, Nat.le_of_ble_eq_true rfl⟩ (fun r u H locs hp h => ?_)
      obtain ⟨hr9, hu9⟩ := hp
      obtain rfl : r = nI (B.1 4 k_1) - 1 := (hr9.trans (gOf_p1 hg hm (d := k_1) (by omega)))
      rw [hu9] at h
      have q_7 := hz.1 4 k_1
      exact k_reti hQ G hret hlocks h (Or.inl ⟨_, by assumption, rfl, by omega, rfl, rfl⟩) (Nat.le_of_ble_eq_true rfl) (Nat.le_of_ble_eq_true rfl) dX4_storyOf_43
    · have c_5 := cNle t0 (tA (n := B.1 4 k_1) (by omega)) c_5
      refine lv_iconst (v := nI 2) hx hcd dX4_storyOf_22 (by decide) ?_
      refine lv_goto (tgt := 27) hx hcd dX4_storyOf_23 (by decide) ?_
      refine k_Vi (As := [.int (nI 2)]) (rest := []) (b := eX V 500) G hC hB h (met_X4_fails l V M (nI 2)) mw_1545 kv_X4_fails ⟨rfl, rfl⟩ ⟨Nat.le_of_ble_eq_true rfl, Nat.le_of_ble_eq_true rfl⟩ (r_mV hC h) rfl rfl hl.1 (Nat.le_of_ble_eq_true rfl) dX4_storyOf_27 ⟨Nat.le_of_ble_eq_true rfl, Nat.le_of_ble_eq_true rfl⟩ (fun r u H locs hp h => ?_)
      obtain ⟨hr9, hu9⟩ := hp
      obtain rfl : r = nI 1 := (hr9.trans (by decide))
      rw [hu9] at h
      refine lv_if_eq (tgt := 37) hx hcd dX4_storyOf_30 (by decide) (fun c_8 => absurd c_8 (by decide)) (fun _ => ?_)
      refine lv_iconst (v := nI 0) hx hcd dX4_storyOf_33 (by decide) ?_
      refine lv_goto (tgt := 43) hx hcd dX4_storyOf_34 (by decide) ?_
      exact k_reti hQ G hret hlocks h (Or.inr (Or.inr ⟨_, by assumption, rfl, by omega, rfl, rfl⟩)) (Nat.le_of_ble_eq_true rfl) (Nat.le_of_ble_eq_true rfl) dX4_storyOf_43
  · skip
    obtain rfl : r = nI 0 := (hr9.trans ((congrArg bz c9).trans (by decide)))
    refine lv_if_ne (tgt := 13) hx hcd dX4_storyOf_6 (by decide) (fun c_9 => absurd c_9 (by decide)) (fun _ => ?_)
    refine lv_iconst (v := nI 1) hx hcd dX4_storyOf_9 (by decide) ?_
    refine lv_goto (tgt := 27) hx hcd dX4_storyOf_10 (by decide) ?_
    refine k_Vi (As := [.int (nI 1)]) (rest := []) (b := eX V 500) G hC hB h (met_X4_fails l V M (nI 1)) mw_1545 kv_X4_fails ⟨rfl, rfl⟩ ⟨Nat.le_of_ble_eq_true rfl, Nat.le_of_ble_eq_true rfl⟩ (r_mV hC h) rfl rfl hl.1 (Nat.le_of_ble_eq_true rfl) dX4_storyOf_27 ⟨Nat.le_of_ble_eq_true rfl, Nat.le_of_ble_eq_true rfl⟩ (fun r u H locs hp h => ?_)
    obtain ⟨hr9, hu9⟩ := hp
    obtain rfl : r = nI 1 := (hr9.trans (by decide))
    rw [hu9] at h
    refine lv_if_eq (tgt := 37) hx hcd dX4_storyOf_30 (by decide) (fun c_10 => absurd c_10 (by decide)) (fun _ => ?_)
    refine lv_iconst (v := nI 0) hx hcd dX4_storyOf_33 (by decide) ?_
    refine lv_goto (tgt := 43) hx hcd dX4_storyOf_34 (by decide) ?_
    exact k_reti hQ G hret hlocks h (Or.inr (Or.inl ⟨c9, rfl, rfl⟩)) (Nat.le_of_ble_eq_true rfl) (Nat.le_of_ble_eq_true rfl) dX4_storyOf_43
set_option maxHeartbeats 4000000 in
set_option maxRecDepth 100000 in
/-- developerOf(x) -/
theorem met_X4_developerOf (l : Launch) (V : kEnv) (M : kMs) (B : kBd) (hg : M.2 0 = gOf B) (hI : bI B) (x : Int32) : kI l yX4_developerOf cX4_developerOf 2 (some .int) { frames := 2, cells := 0, slots := 0, locals := 43 } V (mWs V) [.ref (eX V 500), .int (x)] (M) (fun r u => (∃ k, k < B.2 0 ∧ x = nI k ∧ asgOf B k ≠ 0 ∧ r = nI (asgOf B k) - 1 ∧ u = nPut M 3 (nI 0)) ∨ (inS (B.2 0) x = false ∧ r = nI 0 ∧ u = nPut M 3 (nI 1)) ∨ (∃ k, k < B.2 0 ∧ x = nI k ∧ asgOf B k = 0 ∧ r = nI 0 ∧ u = nPut M 3 (nI 2))) 0 0 := by
  refine kI_of (by decide +kernel) (Nat.le_of_ble_eq_true rfl) ?_
  intro pg e s m args below meth c G hret hlocks hC hB h ls hl Q hQ
  have hl : lv_has ls 2 [(0, .ref (eX V 500)), (1, .int (x))] := hl
  have hx := G.1
  have hcd := G.2.1
  have hI0 := hI
  obtain ⟨hz, hbn, hn, hm, h3, h54, h4, h7, hr, he, ha, hact, h5⟩ := hI
  refine lv_aload_n hx hcd dX4_developerOf_0 rfl (lv_at hl 0 rfl) ?_
  refine lv_aload_n hx hcd dX4_developerOf_1 rfl (lv_at hl 0 rfl) ?_
  refine lv_iload_n hx hcd dX4_developerOf_2 rfl (lv_at hl 1 rfl) ?_
  refine k_Vi (As := [.int (x)]) (rest := [.ref (eX V 500)]) (b := eX V 500) G hC hB h (met_X4_isStory l V M B hg hI0 x) mw_1564 kv_X4_isStory ⟨rfl, rfl⟩ ⟨Nat.le_of_ble_eq_true rfl, Nat.le_of_ble_eq_true rfl⟩ (r_mV hC h) rfl rfl hl.1 (Nat.le_of_ble_eq_true rfl) dX4_developerOf_3 ⟨Nat.le_of_ble_eq_true rfl, Nat.le_of_ble_eq_true rfl⟩ (fun r u H locs hp h => ?_)
  obtain ⟨hr9, hu9⟩ := hp
  rw [hu9] at h
  rcases bsp (inS (B.2 0) x) with c9 | c9
  · skip
    obtain rfl : r = nI 1 := (hr9.trans ((congrArg bz c9).trans (by decide)))
    obtain ⟨k_1, hk_2, rfl⟩ := inS_ex (by omega) c9
    refine lv_if_ne (tgt := 13) hx hcd dX4_developerOf_6 (by decide) (fun _ => ?_) (fun c_3 => absurd c_3 (by decide))
    refine lv_aload_n hx hcd dX4_developerOf_13 rfl (lv_at hl 0 rfl) ?_
    refine lv_iload_n hx hcd dX4_developerOf_14 rfl (lv_at hl 1 rfl) ?_
    refine lv_iconst (v := nI 3) hx hcd dX4_developerOf_15 (by decide) ?_
    refine k_Vi (As := [.int (nI (k_1)), .int (nI 3)]) (rest := [.ref (eX V 500)]) (b := eX V 500) G hC hB h (met_X4_of l V M k_1 3 (by omega) (by decide)) mw_1572 kv_X4_of ⟨rfl, rfl⟩ ⟨Nat.le_of_ble_eq_true rfl, Nat.le_of_ble_eq_true rfl⟩ (r_mV hC h) rfl rfl hl.1 (Nat.le_of_ble_eq_true rfl) dX4_developerOf_16 ⟨Nat.le_of_ble_eq_true rfl, Nat.le_of_ble_eq_true rfl⟩ (fun r u H locs hp h => ?_)
    obtain ⟨hr9, hu9⟩ := hp
    obtain rfl : r = nI (asgOf B k_1) - 1 := (hr9.trans (gOf_s hg hn (k := k_1) (w := 3) (by omega) (by decide)))
    rw [hu9] at h
    have q_4 := asgOf_le B k_1
    refine lv_if_ge (tgt := 26) hx hcd dX4_developerOf_19 (by decide) (fun c_5 => ?_) (fun c_5 => ?_)
    · have c_5 := cLe t0 (tA (n := asgOf B k_1) (by omega)) c_5
      refine lv_iconst (v := nI 0) hx hcd dX4_developerOf_26 (by decide) ?_
      refine k_Vi (As := [.int (nI 0)]) (rest := []) (b := eX V 500) G hC hB h (met_X4_fails l V M (nI 0)) mw_1545 kv_X4_fails ⟨rfl, rfl⟩ ⟨Nat.le_of_ble_eq_true rfl, Nat.le_of_ble_eq_true rfl⟩ (r_mV hC h) rfl rfl hl.1 (Nat.le_of_ble_eq_true rfl) dX4_developerOf_27 ⟨Nat.le_of_ble_eq_true rfl, Nat.le_of_ble_eq_true rfl⟩ (fun r u H locs hp h => ?_)
      obtain ⟨hr9, hu9⟩ := hp
      obtain rfl : r = nI 0 := (hr9.trans (by decide))
      rw [hu9] at h
      refine lv_if_eq (tgt := 37) hx hcd dX4_developerOf_30 (by decide) (fun _ => ?_) (fun c_6 => absurd c_6 (by decide))
      refine lv_aload_n hx hcd dX4_developerOf_37 rfl (lv_at hl 0 rfl) ?_
      refine lv_iload_n hx hcd dX4_developerOf_38 rfl (lv_at hl 1 rfl) ?_
      refine lv_iconst (v := nI 3) hx hcd dX4_developerOf_39 (by decide) ?_
      refine k_Vi (As := [.int (nI (k_1)), .int (nI 3)]) (rest := []) (b := eX V 500) G hC hB h (met_X4_of l V (nPut M 3 (nI 0)) k_1 3 (by omega) (by decide)) mw_1572 kv_X4_of ⟨rfl, rfl⟩ ⟨Nat.le_of_ble_eq_true rfl, Nat.le_of_ble_eq_true rfl⟩ (r_mV hC h) rfl rfl hl.1 (Nat.le_of_ble_eq_true rfl) dX4_developerOf_40 ⟨Nat.le_of_ble_eq_true rfl, Nat.le_of_ble_eq_true rfl⟩ (fun r u H locs hp h => ?_)
      obtain ⟨hr9, hu9⟩ := hp
      obtain rfl : r = nI (asgOf B k_1) - 1 := (hr9.trans (gOf_s hg hn (k := k_1) (w := 3) (by omega) (by decide)))
      rw [hu9] at h
      have q_7 := asgOf_le B k_1
      exact k_reti hQ G hret hlocks h (Or.inl ⟨_, by assumption, rfl, by omega, rfl, rfl⟩) (Nat.le_of_ble_eq_true rfl) (Nat.le_of_ble_eq_true rfl) dX4_developerOf_43
    · have c_5 := cNle t0 (tA (n := asgOf B k_1) (by omega)) c_5
      refine lv_iconst (v := nI 2) hx hcd dX4_developerOf_22 (by decide) ?_
      refine lv_goto (tgt := 27) hx hcd dX4_developerOf_23 (by decide) ?_
      refine k_Vi (As := [.int (nI 2)]) (rest := []) (b := eX V 500) G hC hB h (met_X4_fails l V M (nI 2)) mw_1545 kv_X4_fails ⟨rfl, rfl⟩ ⟨Nat.le_of_ble_eq_true rfl, Nat.le_of_ble_eq_true rfl⟩ (r_mV hC h) rfl rfl hl.1 (Nat.le_of_ble_eq_true rfl) dX4_developerOf_27 ⟨Nat.le_of_ble_eq_true rfl, Nat.le_of_ble_eq_true rfl⟩ (fun r u H locs hp h => ?_)
      obtain ⟨hr9, hu9⟩ := hp
      obtain rfl : r = nI 1 := (hr9.trans (by decide))
      rw [hu9] at h
      refine lv_if_eq (tgt := 37) hx hcd dX4_developerOf_30 (by decide) (fun c_8 => absurd c_8 (by decide)) (fun _ => ?_)
      refine lv_iconst (v := nI 0) hx hcd dX4_developerOf_33 (by decide) ?_
      refine lv_goto (tgt := 43) hx hcd dX4_developerOf_34 (by decide) ?_
      exact k_reti hQ G hret hlocks h (Or.inr (Or.inr ⟨_, by assumption, rfl, by omega, rfl, rfl⟩)) (Nat.le_of_ble_eq_true rfl) (Nat.le_of_ble_eq_true rfl) dX4_developerOf_43
  · skip
    obtain rfl : r = nI 0 := (hr9.trans ((congrArg bz c9).trans (by decide)))
    refine lv_if_ne (tgt := 13) hx hcd dX4_developerOf_6 (by decide) (fun c_9 => absurd c_9 (by decide)) (fun _ => ?_)
    refine lv_iconst (v := nI 1) hx hcd dX4_developerOf_9 (by decide) ?_
    refine lv_goto (tgt := 27) hx hcd dX4_developerOf_10 (by decide) ?_
    refine k_Vi (As := [.int (nI 1)]) (rest := []) (b := eX V 500) G hC hB h (met_X4_fails l V M (nI 1)) mw_1545 kv_X4_fails ⟨rfl, rfl⟩ ⟨Nat.le_of_ble_eq_true rfl, Nat.le_of_ble_eq_true rfl⟩ (r_mV hC h) rfl rfl hl.1 (Nat.le_of_ble_eq_true rfl) dX4_developerOf_27 ⟨Nat.le_of_ble_eq_true rfl, Nat.le_of_ble_eq_true rfl⟩ (fun r u H locs hp h => ?_)
    obtain ⟨hr9, hu9⟩ := hp
    obtain rfl : r = nI 1 := (hr9.trans (by decide))
    rw [hu9] at h
    refine lv_if_eq (tgt := 37) hx hcd dX4_developerOf_30 (by decide) (fun c_10 => absurd c_10 (by decide)) (fun _ => ?_)
    refine lv_iconst (v := nI 0) hx hcd dX4_developerOf_33 (by decide) ?_
    refine lv_goto (tgt := 43) hx hcd dX4_developerOf_34 (by decide) ?_
    exact k_reti hQ G hret hlocks h (Or.inr (Or.inl ⟨c9, rfl, rfl⟩)) (Nat.le_of_ble_eq_true rfl) (Nat.le_of_ble_eq_true rfl) dX4_developerOf_43
set_option maxHeartbeats 4000000 in
set_option maxRecDepth 100000 in
/-- burnDown(x) -/
theorem met_X4_burnDown (l : Launch) (V : kEnv) (M : kMs) (B : kBd) (hg : M.2 0 = gOf B) (hI : bI B) (x : Int32) : kI l yX4_burnDown cX4_burnDown 2 (some .int) { frames := 1, cells := 0, slots := 0, locals := 22 } V (mWs V) [.ref (eX V 500), .int (x)] (M) (fun r u => (∃ k : Nat, B.2 3 ≠ 0 ∧ k ≤ B.2 5 ∧ x = nI k ∧ r = nI (B.1 5 k) ∧ u = nPut M 3 (nI 0)) ∨ ((B.2 3 = 0 ∨ ¬ (0 ≤ x.toInt ∧ x.toInt ≤ (B.2 5 : Nat))) ∧ r = nI 0 ∧ u = nPut M 3 (nI 1))) 0 0 := by
  refine kI_of (by decide +kernel) (Nat.le_of_ble_eq_true rfl) ?_
  intro pg e s m args below meth c G hret hlocks hC hB h ls hl Q hQ
  have hl : lv_has ls 2 [(0, .ref (eX V 500)), (1, .int (x))] := hl
  have hx := G.1
  have hcd := G.2.1
  have hI0 := hI
  obtain ⟨hz, hbn, hn, hm, h3, h54, h4, h7, hr, he, ha, hact, h5⟩ := hI
  refine lv_aload_n hx hcd dX4_burnDown_0 rfl (lv_at hl 0 rfl) ?_
  refine lv_aload_n hx hcd dX4_burnDown_1 rfl (lv_at hl 0 rfl) ?_
  refine r_mA G hC h 0 (by decide) mw_1472 dX4_burnDown_2 ?_
  refine lv_iconst (v := nI 2) hx hcd dX4_burnDown_5 (by decide) ?_
  refine r_mL G hC h 0 (2) (by decide) (by decide) rfl (show 2 < 115 by omega) (x := nI (B.2 3)) (gOf_n hg (f := 2) (by decide)) dX4_burnDown_6 ?_
  have q_1 := hz.2 3
  refine lv_iconst (v := nI 1) hx hcd dX4_burnDown_7 (by decide) ?_
  refine lv_icmp_ne (tgt := 29) hx hcd dX4_burnDown_8 (by decide) (fun c_2 => ?_) (fun c_2 => ?_)
  · have c_2 := cNe (tN (n := B.2 3) (by omega)) (tN (n := 1) (by decide)) c_2
    refine lv_iconst (v := nI 1) hx hcd dX4_burnDown_29 (by decide) ?_
    refine k_Vi (As := [.int (nI 1)]) (rest := []) (b := eX V 500) G hC hB h (met_X4_fails l V M (nI 1)) mw_1545 kv_X4_fails ⟨rfl, rfl⟩ ⟨Nat.le_of_ble_eq_true rfl, Nat.le_of_ble_eq_true rfl⟩ (r_mV hC h) rfl rfl hl.1 (Nat.le_of_ble_eq_true rfl) dX4_burnDown_30 ⟨Nat.le_of_ble_eq_true rfl, Nat.le_of_ble_eq_true rfl⟩ (fun r u H locs hp h => ?_)
    obtain ⟨hr9, hu9⟩ := hp
    obtain rfl : r = nI 1 := (hr9.trans (by decide))
    rw [hu9] at h
    refine lv_if_eq (tgt := 40) hx hcd dX4_burnDown_33 (by decide) (fun c_3 => absurd c_3 (by decide)) (fun _ => ?_)
    refine lv_iconst (v := nI 0) hx hcd dX4_burnDown_36 (by decide) ?_
    refine lv_goto (tgt := 49) hx hcd dX4_burnDown_37 (by decide) ?_
    exact k_reti hQ G hret hlocks h (Or.inr ⟨by omega, rfl, rfl⟩) (Nat.le_of_ble_eq_true rfl) (Nat.le_of_ble_eq_true rfl) dX4_burnDown_49
  · have c_2 := cEq (tN (n := B.2 3) (by omega)) (tN (n := 1) (by decide)) c_2
    refine lv_iload_n hx hcd dX4_burnDown_11 rfl (lv_at hl 1 rfl) ?_
    refine lv_iconst (v := nI 0) hx hcd dX4_burnDown_12 (by decide) ?_
    refine lv_aload_n hx hcd dX4_burnDown_13 rfl (lv_at hl 0 rfl) ?_
    refine r_mA G hC h 0 (by decide) mw_1472 dX4_burnDown_14 ?_
    refine lv_iconst (v := nI 4) hx hcd dX4_burnDown_17 (by decide) ?_
    refine r_mL G hC h 0 (4) (by decide) (by decide) rfl (show 4 < 115 by omega) (x := nI (B.2 5)) (gOf_n hg (f := 4) (by decide)) dX4_burnDown_18 ?_
    have q_4 := hz.2 5
    refine k_Si (As := [.int (x), .int (nI 0), .int (nI (B.2 5))]) (rest := [.ref (eX V 500)]) G hC hB h (met_X4_in l V M x (nI 0) (nI (B.2 5)) (0) ((B.2 5 : Nat)) (tN (n := 0) (by decide)) (tN (n := B.2 5) (by omega))) mw_1542 ks_X4_in ⟨rfl, rfl⟩ ⟨Nat.le_of_ble_eq_true rfl, Nat.le_of_ble_eq_true rfl⟩ rfl rfl hl.1 (Nat.le_of_ble_eq_true rfl) dX4_burnDown_19 ⟨Nat.le_of_ble_eq_true rfl, Nat.le_of_ble_eq_true rfl⟩ (fun r u H locs hp h => ?_)
    obtain ⟨hr9, hu9⟩ := hp
    rw [hu9] at h
    rcases bsp (decide (0 ≤ (x : Int32).toInt ∧ (x : Int32).toInt ≤ (B.2 5 : Nat))) with c9 | c9
    · skip
      obtain rfl : r = nI 1 := (hr9.trans ((congrArg bz c9).trans (by decide)))
      obtain ⟨k_5, rfl, -, hk_6⟩ := rng_ex (a := 0) (b := B.2 5) (by omega) (of_decide_eq_true c9)
      refine lv_if_eq (tgt := 29) hx hcd dX4_burnDown_22 (by decide) (fun c_7 => absurd c_7 (by decide)) (fun _ => ?_)
      refine lv_iconst (v := nI 0) hx hcd dX4_burnDown_25 (by decide) ?_
      refine lv_goto (tgt := 30) hx hcd dX4_burnDown_26 (by decide) ?_
      refine k_Vi (As := [.int (nI 0)]) (rest := []) (b := eX V 500) G hC hB h (met_X4_fails l V M (nI 0)) mw_1545 kv_X4_fails ⟨rfl, rfl⟩ ⟨Nat.le_of_ble_eq_true rfl, Nat.le_of_ble_eq_true rfl⟩ (r_mV hC h) rfl rfl hl.1 (Nat.le_of_ble_eq_true rfl) dX4_burnDown_30 ⟨Nat.le_of_ble_eq_true rfl, Nat.le_of_ble_eq_true rfl⟩ (fun r u H locs hp h => ?_)
      obtain ⟨hr9, hu9⟩ := hp
      obtain rfl : r = nI 0 := (hr9.trans (by decide))
      rw [hu9] at h
      refine lv_if_eq (tgt := 40) hx hcd dX4_burnDown_33 (by decide) (fun _ => ?_) (fun c_8 => absurd c_8 (by decide))
      refine lv_aload_n hx hcd dX4_burnDown_40 rfl (lv_at hl 0 rfl) ?_
      refine r_mA G hC h 0 (by decide) mw_1472 dX4_burnDown_41 ?_
      refine lv_bipush (v := nI 104) hx hcd dX4_burnDown_44 (by decide) ?_
      refine lv_iload_n hx hcd dX4_burnDown_46 rfl (lv_at hl 1 rfl) ?_
      refine w_iadd (v := nI (104 + k_5)) hx hcd dX4_burnDown_47 (nI_add _ _) ?_
      refine r_mL G hC h 0 (104 + k_5) (by decide) (by decide) rfl (show 104 + k_5 < 115 by omega) (x := nI (B.1 5 k_5)) (gOf_b hg (k := k_5) (by omega)) dX4_burnDown_48 ?_
      have q_10 := hz.1 5 k_5
      exact k_reti hQ G hret hlocks h (Or.inl ⟨_, by omega, by assumption, rfl, rfl, rfl⟩) (Nat.le_of_ble_eq_true rfl) (Nat.le_of_ble_eq_true rfl) dX4_burnDown_49
    · skip
      obtain rfl : r = nI 0 := (hr9.trans ((congrArg bz c9).trans (by decide)))
      have c8 := of_decide_eq_false c9
      refine lv_if_eq (tgt := 29) hx hcd dX4_burnDown_22 (by decide) (fun _ => ?_) (fun c_11 => absurd c_11 (by decide))
      refine lv_iconst (v := nI 1) hx hcd dX4_burnDown_29 (by decide) ?_
      refine k_Vi (As := [.int (nI 1)]) (rest := []) (b := eX V 500) G hC hB h (met_X4_fails l V M (nI 1)) mw_1545 kv_X4_fails ⟨rfl, rfl⟩ ⟨Nat.le_of_ble_eq_true rfl, Nat.le_of_ble_eq_true rfl⟩ (r_mV hC h) rfl rfl hl.1 (Nat.le_of_ble_eq_true rfl) dX4_burnDown_30 ⟨Nat.le_of_ble_eq_true rfl, Nat.le_of_ble_eq_true rfl⟩ (fun r u H locs hp h => ?_)
      obtain ⟨hr9, hu9⟩ := hp
      obtain rfl : r = nI 1 := (hr9.trans (by decide))
      rw [hu9] at h
      refine lv_if_eq (tgt := 40) hx hcd dX4_burnDown_33 (by decide) (fun c_12 => absurd c_12 (by decide)) (fun _ => ?_)
      refine lv_iconst (v := nI 0) hx hcd dX4_burnDown_36 (by decide) ?_
      refine lv_goto (tgt := 49) hx hcd dX4_burnDown_37 (by decide) ?_
      exact k_reti hQ G hret hlocks h (Or.inr ⟨by omega, rfl, rfl⟩) (Nat.le_of_ble_eq_true rfl) (Nat.le_of_ble_eq_true rfl) dX4_burnDown_49
set_option maxHeartbeats 4000000 in
set_option maxRecDepth 100000 in
/-- velocityOf(x) -/
theorem met_X4_velocityOf (l : Launch) (V : kEnv) (M : kMs) (B : kBd) (hg : M.2 0 = gOf B) (hI : bI B) (x : Int32) : kI l yX4_velocityOf cX4_velocityOf 2 (some .int) { frames := 1, cells := 0, slots := 0, locals := 22 } V (mWs V) [.ref (eX V 500), .int (x)] (M) (fun r u => (∃ k : Nat, k < B.2 7 ∧ x = nI k ∧ r = nI (B.1 6 k) ∧ u = nPut M 3 (nI 0)) ∨ (¬ (0 ≤ x.toInt ∧ x.toInt < (B.2 7 : Nat)) ∧ r = nI 0 ∧ u = nPut M 3 (nI 1))) 0 0 := by
  refine kI_of (by decide +kernel) (Nat.le_of_ble_eq_true rfl) ?_
  intro pg e s m args below meth c G hret hlocks hC hB h ls hl Q hQ
  have hl : lv_has ls 2 [(0, .ref (eX V 500)), (1, .int (x))] := hl
  have hx := G.1
  have hcd := G.2.1
  have hI0 := hI
  obtain ⟨hz, hbn, hn, hm, h3, h54, h4, h7, hr, he, ha, hact, h5⟩ := hI
  refine lv_aload_n hx hcd dX4_velocityOf_0 rfl (lv_at hl 0 rfl) ?_
  refine lv_iload_n hx hcd dX4_velocityOf_1 rfl (lv_at hl 1 rfl) ?_
  refine lv_iconst (v := nI 0) hx hcd dX4_velocityOf_2 (by decide) ?_
  refine lv_aload_n hx hcd dX4_velocityOf_3 rfl (lv_at hl 0 rfl) ?_
  refine r_mA G hC h 0 (by decide) mw_1472 dX4_velocityOf_4 ?_
  refine lv_bipush (v := nI 6) hx hcd dX4_velocityOf_7 (by decide) ?_
  refine r_mL G hC h 0 (6) (by decide) (by decide) rfl (show 6 < 115 by omega) (x := nI (B.2 7)) (gOf_n hg (f := 6) (by decide)) dX4_velocityOf_9 ?_
  have q_1 := hz.2 7
  refine lv_iconst (v := nI 1) hx hcd dX4_velocityOf_10 (by decide) ?_
  refine w_isub (v := nI (B.2 7) - 1) hx hcd dX4_velocityOf_11 rfl ?_
  refine k_Si (As := [.int (x), .int (nI 0), .int (nI (B.2 7) - 1)]) (rest := [.ref (eX V 500)]) G hC hB h (met_X4_in l V M x (nI 0) (nI (B.2 7) - 1) (0) (((B.2 7 : Nat) : Int) - 1) (tN (n := 0) (by decide)) (tA (n := B.2 7) (by omega))) mw_1542 ks_X4_in ⟨rfl, rfl⟩ ⟨Nat.le_of_ble_eq_true rfl, Nat.le_of_ble_eq_true rfl⟩ rfl rfl hl.1 (Nat.le_of_ble_eq_true rfl) dX4_velocityOf_12 ⟨Nat.le_of_ble_eq_true rfl, Nat.le_of_ble_eq_true rfl⟩ (fun r u H locs hp h => ?_)
  obtain ⟨hr9, hu9⟩ := hp
  rw [hu9] at h
  rcases bsp (decide (0 ≤ (x : Int32).toInt ∧ (x : Int32).toInt ≤ ((B.2 7 : Nat) : Int) - 1)) with c9 | c9
  · skip
    obtain rfl : r = nI 1 := (hr9.trans ((congrArg bz c9).trans (by decide)))
    obtain ⟨k_2, rfl, hk_3⟩ := rngm_ex (n := B.2 7) (by omega) (of_decide_eq_true c9)
    refine lv_if_eq (tgt := 22) hx hcd dX4_velocityOf_15 (by decide) (fun c_4 => absurd c_4 (by decide)) (fun _ => ?_)
    refine lv_iconst (v := nI 0) hx hcd dX4_velocityOf_18 (by decide) ?_
    refine lv_goto (tgt := 23) hx hcd dX4_velocityOf_19 (by decide) ?_
    refine k_Vi (As := [.int (nI 0)]) (rest := []) (b := eX V 500) G hC hB h (met_X4_fails l V M (nI 0)) mw_1545 kv_X4_fails ⟨rfl, rfl⟩ ⟨Nat.le_of_ble_eq_true rfl, Nat.le_of_ble_eq_true rfl⟩ (r_mV hC h) rfl rfl hl.1 (Nat.le_of_ble_eq_true rfl) dX4_velocityOf_23 ⟨Nat.le_of_ble_eq_true rfl, Nat.le_of_ble_eq_true rfl⟩ (fun r u H locs hp h => ?_)
    obtain ⟨hr9, hu9⟩ := hp
    obtain rfl : r = nI 0 := (hr9.trans (by decide))
    rw [hu9] at h
    refine lv_if_eq (tgt := 33) hx hcd dX4_velocityOf_26 (by decide) (fun _ => ?_) (fun c_5 => absurd c_5 (by decide))
    refine lv_aload_n hx hcd dX4_velocityOf_33 rfl (lv_at hl 0 rfl) ?_
    refine r_mA G hC h 0 (by decide) mw_1472 dX4_velocityOf_34 ?_
    refine lv_bipush (v := nI 95) hx hcd dX4_velocityOf_37 (by decide) ?_
    refine lv_iload_n hx hcd dX4_velocityOf_39 rfl (lv_at hl 1 rfl) ?_
    refine w_iadd (v := nI (95 + k_2)) hx hcd dX4_velocityOf_40 (nI_add _ _) ?_
    refine r_mL G hC h 0 (95 + k_2) (by decide) (by decide) rfl (show 95 + k_2 < 115 by omega) (x := nI (B.1 6 k_2)) (gOf_v hg (k := k_2) (by omega)) dX4_velocityOf_41 ?_
    have q_7 := hz.1 6 k_2
    exact k_reti hQ G hret hlocks h (Or.inl ⟨_, by assumption, rfl, rfl, rfl⟩) (Nat.le_of_ble_eq_true rfl) (Nat.le_of_ble_eq_true rfl) dX4_velocityOf_42
  · skip
    obtain rfl : r = nI 0 := (hr9.trans ((congrArg bz c9).trans (by decide)))
    have c8 := of_decide_eq_false c9
    refine lv_if_eq (tgt := 22) hx hcd dX4_velocityOf_15 (by decide) (fun _ => ?_) (fun c_8 => absurd c_8 (by decide))
    refine lv_iconst (v := nI 1) hx hcd dX4_velocityOf_22 (by decide) ?_
    refine k_Vi (As := [.int (nI 1)]) (rest := []) (b := eX V 500) G hC hB h (met_X4_fails l V M (nI 1)) mw_1545 kv_X4_fails ⟨rfl, rfl⟩ ⟨Nat.le_of_ble_eq_true rfl, Nat.le_of_ble_eq_true rfl⟩ (r_mV hC h) rfl rfl hl.1 (Nat.le_of_ble_eq_true rfl) dX4_velocityOf_23 ⟨Nat.le_of_ble_eq_true rfl, Nat.le_of_ble_eq_true rfl⟩ (fun r u H locs hp h => ?_)
    obtain ⟨hr9, hu9⟩ := hp
    obtain rfl : r = nI 1 := (hr9.trans (by decide))
    rw [hu9] at h
    refine lv_if_eq (tgt := 33) hx hcd dX4_velocityOf_26 (by decide) (fun c_9 => absurd c_9 (by decide)) (fun _ => ?_)
    refine lv_iconst (v := nI 0) hx hcd dX4_velocityOf_29 (by decide) ?_
    refine lv_goto (tgt := 42) hx hcd dX4_velocityOf_30 (by decide) ?_
    exact k_reti hQ G hret hlocks h (Or.inr ⟨by omega, rfl, rfl⟩) (Nat.le_of_ble_eq_true rfl) (Nat.le_of_ble_eq_true rfl) dX4_velocityOf_42
set_option maxHeartbeats 4000000 in
set_option maxRecDepth 100000 in
/-- errorPosition() -/
theorem met_X4_errorPosition (l : Launch) (V : kEnv) (M : kMs) : kI l yX4_errorPosition cX4_errorPosition 1 (some .int) { frames := 1, cells := 0, slots := 0, locals := 21 } V (mWs V) [.ref (eX V 500)] (M) (fun r u => (¬ (M.1 5).toInt < 0 ∧ r = M.1 5 ∧ u = nPut M 3 (nI 0)) ∨ ((M.1 5).toInt < 0 ∧ r = nI 0 ∧ u = nPut M 3 (nI 1))) 0 0 := by
  refine kI_of (by decide +kernel) (Nat.le_of_ble_eq_true rfl) ?_
  intro pg e s m args below meth c G hret hlocks hC hB h ls hl Q hQ
  have hl : lv_has ls 1 [(0, .ref (eX V 500))] := hl
  have hx := G.1
  have hcd := G.2.1
  refine lv_aload_n hx hcd dX4_errorPosition_0 rfl (lv_at hl 0 rfl) ?_
  refine lv_aload_n hx hcd dX4_errorPosition_1 rfl (lv_at hl 0 rfl) ?_
  refine r_mN G hC h 5 (by decide) mw_1482 (x := M.1 5) rfl dX4_errorPosition_2 ?_
  refine lv_if_ge (tgt := 12) hx hcd dX4_errorPosition_5 (by decide) (fun c_1 => ?_) (fun c_1 => ?_)
  · have c_1 := cLe t0 (rfl : (M.1 5 : Int32).toInt = (M.1 5 : Int32).toInt) c_1
    refine lv_iconst (v := nI 0) hx hcd dX4_errorPosition_12 (by decide) ?_
    refine k_Vi (As := [.int (nI 0)]) (rest := []) (b := eX V 500) G hC hB h (met_X4_fails l V M (nI 0)) mw_1545 kv_X4_fails ⟨rfl, rfl⟩ ⟨Nat.le_of_ble_eq_true rfl, Nat.le_of_ble_eq_true rfl⟩ (r_mV hC h) rfl rfl hl.1 (Nat.le_of_ble_eq_true rfl) dX4_errorPosition_13 ⟨Nat.le_of_ble_eq_true rfl, Nat.le_of_ble_eq_true rfl⟩ (fun r u H locs hp h => ?_)
    obtain ⟨hr9, hu9⟩ := hp
    obtain rfl : r = nI 0 := (hr9.trans (by decide))
    rw [hu9] at h
    refine lv_if_eq (tgt := 23) hx hcd dX4_errorPosition_16 (by decide) (fun _ => ?_) (fun c_2 => absurd c_2 (by decide))
    refine lv_aload_n hx hcd dX4_errorPosition_23 rfl (lv_at hl 0 rfl) ?_
    refine r_mN G hC h 5 (by decide) mw_1482 (x := M.1 5) rfl dX4_errorPosition_24 ?_
    exact k_reti hQ G hret hlocks h (Or.inl ⟨by omega, rfl, rfl⟩) (Nat.le_of_ble_eq_true rfl) (Nat.le_of_ble_eq_true rfl) dX4_errorPosition_27
  · have c_1 := cNle t0 (rfl : (M.1 5 : Int32).toInt = (M.1 5 : Int32).toInt) c_1
    refine lv_iconst (v := nI 1) hx hcd dX4_errorPosition_8 (by decide) ?_
    refine lv_goto (tgt := 13) hx hcd dX4_errorPosition_9 (by decide) ?_
    refine k_Vi (As := [.int (nI 1)]) (rest := []) (b := eX V 500) G hC hB h (met_X4_fails l V M (nI 1)) mw_1545 kv_X4_fails ⟨rfl, rfl⟩ ⟨Nat.le_of_ble_eq_true rfl, Nat.le_of_ble_eq_true rfl⟩ (r_mV hC h) rfl rfl hl.1 (Nat.le_of_ble_eq_true rfl) dX4_errorPosition_13 ⟨Nat.le_of_ble_eq_true rfl, Nat.le_of_ble_eq_true rfl⟩ (fun r u H locs hp h => ?_)
    obtain ⟨hr9, hu9⟩ := hp
    obtain rfl : r = nI 1 := (hr9.trans (by decide))
    rw [hu9] at h
    refine lv_if_eq (tgt := 23) hx hcd dX4_errorPosition_16 (by decide) (fun c_3 => absurd c_3 (by decide)) (fun _ => ?_)
    refine lv_iconst (v := nI 0) hx hcd dX4_errorPosition_19 (by decide) ?_
    refine lv_goto (tgt := 27) hx hcd dX4_errorPosition_20 (by decide) ?_
    exact k_reti hQ G hret hlocks h (Or.inr ⟨by omega, rfl, rfl⟩) (Nat.le_of_ble_eq_true rfl) (Nat.le_of_ble_eq_true rfl) dX4_errorPosition_27
set_option maxHeartbeats 4000000 in
set_option maxRecDepth 100000 in
/-- failedCommand() -/
theorem met_X4_failedCommand (l : Launch) (V : kEnv) (M : kMs) : kI l yX4_failedCommand cX4_failedCommand 1 (some .int) { frames := 1, cells := 0, slots := 0, locals := 21 } V (mWs V) [.ref (eX V 500)] (M) (fun r u => (¬ (M.1 6).toInt < 0 ∧ r = M.1 6 ∧ u = nPut M 3 (nI 0)) ∨ ((M.1 6).toInt < 0 ∧ r = nI 0 ∧ u = nPut M 3 (nI 1))) 0 0 := by
  refine kI_of (by decide +kernel) (Nat.le_of_ble_eq_true rfl) ?_
  intro pg e s m args below meth c G hret hlocks hC hB h ls hl Q hQ
  have hl : lv_has ls 1 [(0, .ref (eX V 500))] := hl
  have hx := G.1
  have hcd := G.2.1
  refine lv_aload_n hx hcd dX4_failedCommand_0 rfl (lv_at hl 0 rfl) ?_
  refine lv_aload_n hx hcd dX4_failedCommand_1 rfl (lv_at hl 0 rfl) ?_
  refine r_mN G hC h 6 (by decide) mw_1483 (x := M.1 6) rfl dX4_failedCommand_2 ?_
  refine lv_if_ge (tgt := 12) hx hcd dX4_failedCommand_5 (by decide) (fun c_1 => ?_) (fun c_1 => ?_)
  · have c_1 := cLe t0 (rfl : (M.1 6 : Int32).toInt = (M.1 6 : Int32).toInt) c_1
    refine lv_iconst (v := nI 0) hx hcd dX4_failedCommand_12 (by decide) ?_
    refine k_Vi (As := [.int (nI 0)]) (rest := []) (b := eX V 500) G hC hB h (met_X4_fails l V M (nI 0)) mw_1545 kv_X4_fails ⟨rfl, rfl⟩ ⟨Nat.le_of_ble_eq_true rfl, Nat.le_of_ble_eq_true rfl⟩ (r_mV hC h) rfl rfl hl.1 (Nat.le_of_ble_eq_true rfl) dX4_failedCommand_13 ⟨Nat.le_of_ble_eq_true rfl, Nat.le_of_ble_eq_true rfl⟩ (fun r u H locs hp h => ?_)
    obtain ⟨hr9, hu9⟩ := hp
    obtain rfl : r = nI 0 := (hr9.trans (by decide))
    rw [hu9] at h
    refine lv_if_eq (tgt := 23) hx hcd dX4_failedCommand_16 (by decide) (fun _ => ?_) (fun c_2 => absurd c_2 (by decide))
    refine lv_aload_n hx hcd dX4_failedCommand_23 rfl (lv_at hl 0 rfl) ?_
    refine r_mN G hC h 6 (by decide) mw_1483 (x := M.1 6) rfl dX4_failedCommand_24 ?_
    exact k_reti hQ G hret hlocks h (Or.inl ⟨by omega, rfl, rfl⟩) (Nat.le_of_ble_eq_true rfl) (Nat.le_of_ble_eq_true rfl) dX4_failedCommand_27
  · have c_1 := cNle t0 (rfl : (M.1 6 : Int32).toInt = (M.1 6 : Int32).toInt) c_1
    refine lv_iconst (v := nI 1) hx hcd dX4_failedCommand_8 (by decide) ?_
    refine lv_goto (tgt := 13) hx hcd dX4_failedCommand_9 (by decide) ?_
    refine k_Vi (As := [.int (nI 1)]) (rest := []) (b := eX V 500) G hC hB h (met_X4_fails l V M (nI 1)) mw_1545 kv_X4_fails ⟨rfl, rfl⟩ ⟨Nat.le_of_ble_eq_true rfl, Nat.le_of_ble_eq_true rfl⟩ (r_mV hC h) rfl rfl hl.1 (Nat.le_of_ble_eq_true rfl) dX4_failedCommand_13 ⟨Nat.le_of_ble_eq_true rfl, Nat.le_of_ble_eq_true rfl⟩ (fun r u H locs hp h => ?_)
    obtain ⟨hr9, hu9⟩ := hp
    obtain rfl : r = nI 1 := (hr9.trans (by decide))
    rw [hu9] at h
    refine lv_if_eq (tgt := 23) hx hcd dX4_failedCommand_16 (by decide) (fun c_3 => absurd c_3 (by decide)) (fun _ => ?_)
    refine lv_iconst (v := nI 0) hx hcd dX4_failedCommand_19 (by decide) ?_
    refine lv_goto (tgt := 27) hx hcd dX4_failedCommand_20 (by decide) ?_
    exact k_reti hQ G hret hlocks h (Or.inr ⟨by omega, rfl, rfl⟩) (Nat.le_of_ble_eq_true rfl) (Nat.le_of_ble_eq_true rfl) dX4_failedCommand_27
set_option maxHeartbeats 4000000 in
set_option maxRecDepth 100000 in
/-- areNone(x, y) -/
theorem met_X4_areNone (l : Launch) (V : kEnv) (M : kMs) (B : kBd) (hg : M.2 0 = gOf B) (hI : bI B) (x y : Int32) : kI l yX4_areNone cX4_areNone 3 (some .boolean) { frames := 3, cells := 0, slots := 0, locals := 65 } V (mWs V) [.ref (eX V 500), .int (x), .int (y)] (M) (fun r u => (∃ j k, j < B.2 0 ∧ k < B.2 0 ∧ x = nI j ∧ y = nI k ∧ r = nI 0 ∧ u = nPut M 3 (nI 0)) ∨ ((inS (B.2 0) x && inS (B.2 0) y) = false ∧ r = nI 1 ∧ u = nPut M 3 (nI 1))) 0 0 := by
  refine kI_of (by decide +kernel) (Nat.le_of_ble_eq_true rfl) ?_
  intro pg e s m args below meth c G hret hlocks hC hB h ls hl Q hQ
  have hl : lv_has ls 3 [(0, .ref (eX V 500)), (1, .int (x)), (2, .int (y))] := hl
  have hx := G.1
  have hcd := G.2.1
  have hI0 := hI
  obtain ⟨hz, hbn, hn, hm, h3, h54, h4, h7, hr, he, ha, hact, h5⟩ := hI
  refine lv_aload_n hx hcd dX4_areNone_0 rfl (lv_at hl 0 rfl) ?_
  refine lv_aload_n hx hcd dX4_areNone_1 rfl (lv_at hl 0 rfl) ?_
  refine lv_iload_n hx hcd dX4_areNone_2 rfl (lv_at hl 1 rfl) ?_
  refine lv_iload_n hx hcd dX4_areNone_3 rfl (lv_at hl 2 rfl) ?_
  refine k_Vi (As := [.int (x), .int (y)]) (rest := [.ref (eX V 500)]) (b := eX V 500) G hC hB h (met_X4_areStories l V M B hg hI0 x y) mw_1587 kv_X4_areStories ⟨rfl, rfl⟩ ⟨Nat.le_of_ble_eq_true rfl, Nat.le_of_ble_eq_true rfl⟩ (r_mV hC h) rfl rfl hl.1 (Nat.le_of_ble_eq_true rfl) dX4_areNone_4 ⟨Nat.le_of_ble_eq_true rfl, Nat.le_of_ble_eq_true rfl⟩ (fun r u H locs hp h => ?_)
  obtain ⟨hr9, hu9⟩ := hp
  rw [hu9] at h
  rcases bsp (inS (B.2 0) x && inS (B.2 0) y) with c9 | c9
  · skip
    obtain rfl : r = nI 1 := (hr9.trans ((congrArg bz c9).trans (by decide)))
    obtain ⟨j, hj, rfl⟩ := inS_ex (by omega) (band_l c9)
    obtain ⟨k, hk, rfl⟩ := inS_ex (by omega) (band_r c9)
    refine lv_if_eq (tgt := 14) hx hcd dX4_areNone_7 (by decide) (fun c_1 => absurd c_1 (by decide)) (fun _ => ?_)
    refine lv_iconst (v := nI 0) hx hcd dX4_areNone_10 (by decide) ?_
    refine lv_goto (tgt := 15) hx hcd dX4_areNone_11 (by decide) ?_
    refine k_Vi (As := [.int (nI 0)]) (rest := []) (b := eX V 500) G hC hB h (met_X4_fails l V M (nI 0)) mw_1545 kv_X4_fails ⟨rfl, rfl⟩ ⟨Nat.le_of_ble_eq_true rfl, Nat.le_of_ble_eq_true rfl⟩ (r_mV hC h) rfl rfl hl.1 (Nat.le_of_ble_eq_true rfl) dX4_areNone_15 ⟨Nat.le_of_ble_eq_true rfl, Nat.le_of_ble_eq_true rfl⟩ (fun r u H locs hp h => ?_)
    obtain ⟨hr9, hu9⟩ := hp
    obtain rfl : r = nI 0 := (hr9.trans (by decide))
    rw [hu9] at h
    exact k_retz hQ G hret hlocks h (Or.inl rfl) (Or.inl ⟨j, k, hj, hk, rfl, rfl, rfl, rfl⟩) (Nat.le_of_ble_eq_true rfl) (Nat.le_of_ble_eq_true rfl) dX4_areNone_18
  · skip
    obtain rfl : r = nI 0 := (hr9.trans ((congrArg bz c9).trans (by decide)))
    refine lv_if_eq (tgt := 14) hx hcd dX4_areNone_7 (by decide) (fun _ => ?_) (fun c_2 => absurd c_2 (by decide))
    refine lv_iconst (v := nI 1) hx hcd dX4_areNone_14 (by decide) ?_
    refine k_Vi (As := [.int (nI 1)]) (rest := []) (b := eX V 500) G hC hB h (met_X4_fails l V M (nI 1)) mw_1545 kv_X4_fails ⟨rfl, rfl⟩ ⟨Nat.le_of_ble_eq_true rfl, Nat.le_of_ble_eq_true rfl⟩ (r_mV hC h) rfl rfl hl.1 (Nat.le_of_ble_eq_true rfl) dX4_areNone_15 ⟨Nat.le_of_ble_eq_true rfl, Nat.le_of_ble_eq_true rfl⟩ (fun r u H locs hp h => ?_)
    obtain ⟨hr9, hu9⟩ := hp
    obtain rfl : r = nI 1 := (hr9.trans (by decide))
    rw [hu9] at h
    exact k_retz hQ G hret hlocks h (Or.inr rfl) (Or.inr ⟨c9, rfl, rfl⟩) (Nat.le_of_ble_eq_true rfl) (Nat.le_of_ble_eq_true rfl) dX4_areNone_18
set_option maxHeartbeats 4000000 in
set_option maxRecDepth 100000 in
/-- isBlocker(x, y) -/
theorem met_X4_isBlocker (l : Launch) (V : kEnv) (M : kMs) (B : kBd) (hg : M.2 0 = gOf B) (hI : bI B) (x y : Int32) : kI l yX4_isBlocker cX4_isBlocker 3 (some .boolean) { frames := 4, cells := 0, slots := 0, locals := 87 } V (mWs V) [.ref (eX V 500), .int (x), .int (y)] (M) (fun r u => (∃ j k, j < B.2 0 ∧ k < B.2 0 ∧ x = nI j ∧ y = nI k ∧ r = bz ((B.1 2 j).testBit k) ∧ u = nPut M 3 (nI 0)) ∨ ((inS (B.2 0) x && inS (B.2 0) y) = false ∧ r = nI 0 ∧ u = nPut M 3 (nI 1))) 0 0 := by
  refine kI_of (by decide +kernel) (Nat.le_of_ble_eq_true rfl) ?_
  intro pg e s m args below meth c G hret hlocks hC hB h ls hl Q hQ
  have hl : lv_has ls 3 [(0, .ref (eX V 500)), (1, .int (x)), (2, .int (y))] := hl
  have hx := G.1
  have hcd := G.2.1
  have hI0 := hI
  obtain ⟨hz, hbn, hn, hm, h3, h54, h4, h7, hr, he, ha, hact, h5⟩ := hI
  refine lv_aload_n hx hcd dX4_isBlocker_0 rfl (lv_at hl 0 rfl) ?_
  refine lv_iload_n hx hcd dX4_isBlocker_1 rfl (lv_at hl 1 rfl) ?_
  refine lv_iload_n hx hcd dX4_isBlocker_2 rfl (lv_at hl 2 rfl) ?_
  refine k_Vi (As := [.int (x), .int (y)]) (rest := []) (b := eX V 500) G hC hB h (met_X4_areNone l V M B hg hI0 x y) mw_1651 kv_X4_areNone ⟨rfl, rfl⟩ ⟨Nat.le_of_ble_eq_true rfl, Nat.le_of_ble_eq_true rfl⟩ (r_mV hC h) rfl rfl hl.1 (Nat.le_of_ble_eq_true rfl) dX4_isBlocker_3 ⟨Nat.le_of_ble_eq_true rfl, Nat.le_of_ble_eq_true rfl⟩ (fun r u H locs hp h => ?_)
  rcases hp with ⟨j, k, hj, hk, rfl, rfl, rfl, hu9⟩ | ⟨c9, rfl, hu9⟩
  · skip
    rw [hu9] at h
    refine lv_if_ne (tgt := 22) hx hcd dX4_isBlocker_6 (by decide) (fun c_1 => absurd c_1 (by decide)) (fun _ => ?_)
    refine lv_aload_n hx hcd dX4_isBlocker_9 rfl (lv_at hl 0 rfl) ?_
    refine lv_iload_n hx hcd dX4_isBlocker_10 rfl (lv_at hl 1 rfl) ?_
    refine lv_iload_n hx hcd dX4_isBlocker_11 rfl (lv_at hl 2 rfl) ?_
    refine k_Vi (As := [.int (nI (j)), .int (nI (k))]) (rest := []) (b := eX V 500) G hC hB h (met_X4_bars l V (nPut M 3 (nI 0)) B hg hI0 j (by omega) k (by omega)) mw_1591 kv_X4_bars ⟨rfl, rfl⟩ ⟨Nat.le_of_ble_eq_true rfl, Nat.le_of_ble_eq_true rfl⟩ (r_mV hC h) rfl rfl hl.1 (Nat.le_of_ble_eq_true rfl) dX4_isBlocker_12 ⟨Nat.le_of_ble_eq_true rfl, Nat.le_of_ble_eq_true rfl⟩ (fun r u H locs hp h => ?_)
    obtain ⟨hr9, hu9⟩ := hp
    obtain rfl : r = bz ((B.1 2 j).testBit k) := hr9
    rw [hu9] at h
    refine lv_if_eq (tgt := 22) hx hcd dX4_isBlocker_15 (by decide) (fun c_2 => ?_) (fun c_2 => ?_)
    · have c_2 := bz0 c_2
      refine lv_iconst (v := nI 0) hx hcd dX4_isBlocker_22 (by decide) ?_
      exact k_retz hQ G hret hlocks h (Or.inl rfl) (Or.inl ⟨j, k, hj, hk, rfl, rfl, (bz_f (by first | assumption | (rw [Bool.not_eq_true] at *; assumption))).symm, rfl⟩) (Nat.le_of_ble_eq_true rfl) (Nat.le_of_ble_eq_true rfl) dX4_isBlocker_23
    · have c_2 := bz1 c_2
      refine lv_iconst (v := nI 1) hx hcd dX4_isBlocker_18 (by decide) ?_
      refine lv_goto (tgt := 23) hx hcd dX4_isBlocker_19 (by decide) ?_
      exact k_retz hQ G hret hlocks h (Or.inr rfl) (Or.inl ⟨j, k, hj, hk, rfl, rfl, (bz_t (by first | assumption | (rw [Bool.not_eq_true] at *; assumption))).symm, rfl⟩) (Nat.le_of_ble_eq_true rfl) (Nat.le_of_ble_eq_true rfl) dX4_isBlocker_23
  · skip
    rw [hu9] at h
    refine lv_if_ne (tgt := 22) hx hcd dX4_isBlocker_6 (by decide) (fun _ => ?_) (fun c_3 => absurd c_3 (by decide))
    refine lv_iconst (v := nI 0) hx hcd dX4_isBlocker_22 (by decide) ?_
    exact k_retz hQ G hret hlocks h (Or.inl rfl) (Or.inr ⟨c9, rfl, rfl⟩) (Nat.le_of_ble_eq_true rfl) (Nat.le_of_ble_eq_true rfl) dX4_isBlocker_23
set_option maxHeartbeats 4000000 in
set_option maxRecDepth 100000 in
/-- copies(q1, a, q2, b) -/
theorem met_X4_copies (l : Launch) (V : kEnv) (M : kMs) (q1 a q2 b : Nat) (hq1 : q1 < 9) (h51 : q1 ≠ 5) (hq2 : q2 < 9) (h52 : q2 ≠ 5) (hne : q1 ≠ q2) (ha : a + 115 ≤ mLen q1) (hb : b + 115 ≤ mLen q2) : kU l yX4_copies cX4_copies 5 { frames := 0, cells := 0, slots := 0, locals := 0 } V (mWs V) [.ref (eX V (501 + q1)), .int (nI (a)), .ref (eX V (501 + q2)), .int (nI (b))] (M) (fun u => u = cpG M q1 a q2 b 115) 0 0 := by
  refine kU_of (by decide +kernel) (Nat.le_of_ble_eq_true rfl) ?_
  intro pg e s m args below meth c G hret hlocks hC hB h ls hl Q hQ
  have hl : lv_has ls 5 [(0, .ref (eX V (501 + q1))), (1, .int (nI (a))), (2, .ref (eX V (501 + q2))), (3, .int (nI (b)))] := hl
  have hx := G.1
  have hcd := G.2.1
  have e1 := mLen_le q1
  have e2 := mLen_le q2
  refine lv_iconst (v := nI 0) hx hcd dX4_copies_0 (by decide) ?_
  refine lv_istore (lv' := [(4, .int (nI 0)), (0, .ref (eX V (501 + q1))), (1, .int (nI (a))), (2, .ref (eX V (501 + q2))), (3, .int (nI (b)))]) hx hcd dX4_copies_1 hl (by decide) rfl (fun ls hl => ?_)
  have L_1 : ∀ (fu_3 : Nat) (i : Nat) (hi : i ≤ 115), 115 - i < fu_3 → ∀ (H : Heap) (locs : List Loc), cH V s H locs (mWs V (cpG M q1 a q2 b i)) → ∀ ls : Array Slot, lv_has ls 5 [(4, .int (nI (i))), (0, .ref (eX V (501 + q1))), (1, .int (nI (a))), (2, .ref (eX V (501 + q2))), (3, .int (nI (b)))] → W pg l e { frames := 0, cells := 0, slots := 0, locals := 0 } s m args below meth c H locs 0 0 Q (F0 m 3 ls []) := by
    intro fu_3
    induction fu_3 with
    | zero => intro i hi hm; exact absurd hm (Nat.not_lt_zero _)
    | succ fu_3 ih_2 =>
      intro i hi hm H locs h ls hl
      refine lv_iload hx hcd dX4_copies_3 (lv_at hl 0 rfl) ?_
      refine lv_bipush (v := nI 115) hx hcd dX4_copies_5 (by decide) ?_
      refine lv_icmp_ge (tgt := 28) hx hcd dX4_copies_7 (by decide) (fun c_4 => ?_) (fun c_4 => ?_)
      · have c_4 := cLe (tN (n := 115) (by decide)) (tN (n := i) (by omega)) c_4
        exact k_retv hQ G hret hlocks h (by rw [show i = 115 by omega]) (Nat.le_of_ble_eq_true rfl) (Nat.le_of_ble_eq_true rfl) dX4_copies_28
      · have c_4 := cNle (tN (n := 115) (by decide)) (tN (n := i) (by omega)) c_4
        refine lv_aload_n hx hcd dX4_copies_10 rfl (lv_at hl 3 rfl) ?_
        refine lv_iload_n hx hcd dX4_copies_11 rfl (lv_at hl 4 rfl) ?_
        refine lv_iload hx hcd dX4_copies_12 (lv_at hl 0 rfl) ?_
        refine w_iadd (v := nI (b + i)) hx hcd dX4_copies_14 (nI_add _ _) ?_
        refine lv_aload_n hx hcd dX4_copies_15 rfl (lv_at hl 1 rfl) ?_
        refine lv_iload_n hx hcd dX4_copies_16 rfl (lv_at hl 2 rfl) ?_
        refine lv_iload hx hcd dX4_copies_17 (lv_at hl 0 rfl) ?_
        refine w_iadd (v := nI (a + i)) hx hcd dX4_copies_19 (nI_add _ _) ?_
        refine r_mL G hC h q1 (a + i) hq1 h51 rfl (show a + i < mLen q1 by omega) (x := M.2 q1 (a + i)) (cpG_r M _ _ _ _ hne) dX4_copies_20 ?_
        refine r_mT G hC h q2 (b + i) hq2 h52 rfl (show b + i < mLen q2 by omega) rfl dX4_copies_21 (fun H locs h => ?_)
        refine lv_iinc (v := nI (i + 1)) (lv' := [(4, .int (nI (i + 1))), (0, .ref (eX V (501 + q1))), (1, .int (nI (a))), (2, .ref (eX V (501 + q2))), (3, .int (nI (b)))]) hx hcd dX4_copies_22 hl (k := 0) rfl (by exact nI_add (i) 1) (by decide) rfl (fun ls hl => ?_)
        refine lv_goto (tgt := 3) hx hcd dX4_copies_25 (by decide) ?_
        exact ih_2 (i + 1) (by omega) (by omega) _ _ (by rw [cpG_s] at h; exact h) _ (lv_sub hl [0, 1, 2, 3, 4] rfl)
  exact L_1 (115 + 1) 0 (by omega) (by omega) _ _ (by rw [cpG_0]; exact h) _ (lv_sub hl [0, 1, 2, 3, 4] rfl)
set_option maxHeartbeats 4000000 in
set_option maxRecDepth 100000 in
/-- keeps(row), within a text -/
theorem met_X4_keeps1 (l : Launch) (V : kEnv) (M : kMs) (q : Nat) (hq : q = 0 ∨ q = 3) (hw : M.1 2 = nI 1) : kU l yX4_keeps cX4_keeps 3 { frames := 1, cells := 0, slots := 0, locals := 24 } V (mWs V) [.ref (eX V 500), .ref (eX V (501 + q))] (M) (fun u => u = nPut M 3 (nI 0)) 0 0 := by
  refine kU_of (by decide +kernel) (Nat.le_of_ble_eq_true rfl) ?_
  intro pg e s m args below meth c G hret hlocks hC hB h ls hl Q hQ
  have hl : lv_has ls 3 [(0, .ref (eX V 500)), (1, .ref (eX V (501 + q)))] := hl
  have hx := G.1
  have hcd := G.2.1
  refine lv_aload_n hx hcd dX4_keeps_0 rfl (lv_at hl 0 rfl) ?_
  refine lv_iconst (v := nI 0) hx hcd dX4_keeps_1 (by decide) ?_
  refine r_mP G hC h 3 (by decide) mw_1479 (fun z => absurd z (by decide)) rfl dX4_keeps_2 (fun H locs h => ?_)
  refine lv_aload_n hx hcd dX4_keeps_5 rfl (lv_at hl 0 rfl) ?_
  refine r_mN G hC h 2 (by decide) mw_1478 (x := nI 1) hw dX4_keeps_6 ?_
  refine lv_if_eq (tgt := 13) hx hcd dX4_keeps_9 (by decide) (fun c_1 => absurd c_1 (by decide)) (fun _ => ?_)
  exact k_retv hQ G hret hlocks h (rfl) (Nat.le_of_ble_eq_true rfl) (Nat.le_of_ble_eq_true rfl) dX4_keeps_12
set_option maxHeartbeats 4000000 in
set_option maxRecDepth 100000 in
/-- keeps(row), alone -/
theorem met_X4_keeps0 (l : Launch) (V : kEnv) (M : kMs) (q : Nat) (hq : q = 0 ∨ q = 3) (hw : M.1 2 = nI 0) (c0 : Nat) (hc0 : M.1 1 = nI c0) (hc8 : c0 ≤ 8) : kU l yX4_keeps cX4_keeps 3 { frames := 1, cells := 0, slots := 0, locals := 24 } V (mWs V) [.ref (eX V 500), .ref (eX V (501 + q))] (M) (fun u => u = kpG M q c0) 0 0 := by
  refine kU_of (by decide +kernel) (Nat.le_of_ble_eq_true rfl) ?_
  intro pg e s m args below meth c G hret hlocks hC hB h ls hl Q hQ
  have hl : lv_has ls 3 [(0, .ref (eX V 500)), (1, .ref (eX V (501 + q)))] := hl
  have hx := G.1
  have hcd := G.2.1
  refine lv_aload_n hx hcd dX4_keeps_0 rfl (lv_at hl 0 rfl) ?_
  refine lv_iconst (v := nI 0) hx hcd dX4_keeps_1 (by decide) ?_
  refine r_mP G hC h 3 (by decide) mw_1479 (fun z => absurd z (by decide)) rfl dX4_keeps_2 (fun H locs h => ?_)
  refine lv_aload_n hx hcd dX4_keeps_5 rfl (lv_at hl 0 rfl) ?_
  refine r_mN G hC h 2 (by decide) mw_1478 (x := nI 0) hw dX4_keeps_6 ?_
  refine lv_if_eq (tgt := 13) hx hcd dX4_keeps_9 (by decide) (fun _ => ?_) (fun c_1 => absurd c_1 (by decide))
  refine lv_aload_n hx hcd dX4_keeps_13 rfl (lv_at hl 0 rfl) ?_
  refine r_mN G hC h 1 (by decide) mw_1477 (x := nI (c0)) hc0 dX4_keeps_14 ?_
  refine lv_bipush (v := nI 8) hx hcd dX4_keeps_17 (by decide) ?_
  refine lv_icmp_ne (tgt := 62) hx hcd dX4_keeps_19 (by decide) (fun c_2 => ?_) (fun c_2 => ?_)
  · have c_2 := cNe (tN (n := c0) (by omega)) (tN (n := 8) (by decide)) c_2
    refine lv_aload_n hx hcd dX4_keeps_62 rfl (lv_at hl 1 rfl) ?_
    refine lv_iconst (v := nI 0) hx hcd dX4_keeps_63 (by decide) ?_
    refine lv_aload_n hx hcd dX4_keeps_64 rfl (lv_at hl 0 rfl) ?_
    refine r_mA G hC h 1 (by decide) mw_1473 dX4_keeps_65 ?_
    refine lv_bipush (v := nI 115) hx hcd dX4_keeps_68 (by decide) ?_
    refine lv_aload_n hx hcd dX4_keeps_70 rfl (lv_at hl 0 rfl) ?_
    refine r_mN G hC h 1 (by decide) mw_1477 (x := nI (c0)) hc0 dX4_keeps_71 ?_
    refine w_imul (v := nI (115 * c0)) hx hcd dX4_keeps_74 (pk_mul _ _) ?_
    refine k_Sv (As := [.ref (eX V (501 + q)), .int (nI 0), .ref (eX V (501 + 1)), .int (nI (115 * c0))]) (rest := []) G hC hB h (met_X4_copies l V (nPut M 3 (nI 0)) q 0 1 (115 * c0) (by omega) (by omega) (by decide) (by decide) (by omega) (by rcases hq with rfl | rfl <;> decide) (by show _ ≤ 920; omega)) mw_1553 ks_X4_copies ⟨rfl, rfl⟩ ⟨Nat.le_of_ble_eq_true rfl, Nat.le_of_ble_eq_true rfl⟩ rfl rfl hl.1 (Nat.le_of_ble_eq_true rfl) dX4_keeps_75 ⟨Nat.le_of_ble_eq_true rfl, Nat.le_of_ble_eq_true rfl⟩ (fun u H locs hp h => ?_)
    have hu9 := hp
    rw [hu9] at h
    refine lv_aload_n hx hcd dX4_keeps_78 rfl (lv_at hl 0 rfl) ?_
    refine lv_dup hx hcd dX4_keeps_79 rfl ?_
    refine r_mN G hC h 1 (by decide) mw_1477 (x := nI (c0)) hc0 dX4_keeps_80 ?_
    refine lv_iconst (v := nI 1) hx hcd dX4_keeps_83 (by decide) ?_
    refine w_iadd (v := nI (c0 + 1)) hx hcd dX4_keeps_84 (nI_add _ _) ?_
    refine r_mP G hC h 1 (by decide) mw_1477 (fun z => absurd z (by decide)) rfl dX4_keeps_85 (fun H locs h => ?_)
    exact k_retv hQ G hret hlocks h (by unfold kpG; rw [if_neg (by omega)]) (Nat.le_of_ble_eq_true rfl) (Nat.le_of_ble_eq_true rfl) dX4_keeps_88
  · have c_2 := cEq (tN (n := c0) (by omega)) (tN (n := 8) (by decide)) c_2
    refine lv_iconst (v := nI 0) hx hcd dX4_keeps_22 (by decide) ?_
    refine lv_istore_n (lv' := [(2, .int (nI 0)), (0, .ref (eX V 500)), (1, .ref (eX V (501 + q)))]) hx hcd dX4_keeps_23 rfl hl (by decide) rfl (fun ls hl => ?_)
    have L_5 : ∀ (fu_7 : Nat) (i : Nat) (hi : i ≤ 805), 805 - i < fu_7 → ∀ (H : Heap) (locs : List Loc), cH V s H locs (mWs V (shG (nPut M 3 (nI 0)) i)) → ∀ ls : Array Slot, lv_has ls 3 [(2, .int (nI (i))), (0, .ref (eX V 500)), (1, .ref (eX V (501 + q)))] → W pg l e { frames := 1, cells := 0, slots := 0, locals := 24 } s m args below meth c H locs 0 0 Q (F0 m 24 ls []) := by
      intro fu_7
      induction fu_7 with
      | zero => intro i hi hm; exact absurd hm (Nat.not_lt_zero _)
      | succ fu_7 ih_6 =>
        intro i hi hm H locs h ls hl
        refine lv_iload_n hx hcd dX4_keeps_24 rfl (lv_at hl 0 rfl) ?_
        refine lv_sipush (v := nI 805) hx hcd dX4_keeps_25 (by decide) ?_
        refine lv_icmp_ge (tgt := 52) hx hcd dX4_keeps_28 (by decide) (fun c_8 => ?_) (fun c_8 => ?_)
        · have c_8 := cLe (tN (n := 805) (by decide)) (tN (n := i) (by omega)) c_8
          refine lv_aload_n hx hcd dX4_keeps_52 rfl (lv_at hl 1 rfl) ?_
          refine lv_dup hx hcd dX4_keeps_53 rfl ?_
          refine r_mN G hC h 1 (by decide) mw_1477 (x := nI (c0)) hc0 dX4_keeps_54 ?_
          refine lv_iconst (v := nI 1) hx hcd dX4_keeps_57 (by decide) ?_
          refine w_isub (v := nI (c0 - 1)) hx hcd dX4_keeps_58 (pk_sub (by omega)) ?_
          refine r_mP G hC h 1 (by decide) mw_1477 (fun z => absurd z (by decide)) rfl dX4_keeps_59 (fun H locs h => ?_)
          refine lv_aload_n hx hcd dX4_keeps_62 rfl (lv_at hl 2 rfl) ?_
          refine lv_iconst (v := nI 0) hx hcd dX4_keeps_63 (by decide) ?_
          refine lv_aload_n hx hcd dX4_keeps_64 rfl (lv_at hl 1 rfl) ?_
          refine r_mA G hC h 1 (by decide) mw_1473 dX4_keeps_65 ?_
          refine lv_bipush (v := nI 115) hx hcd dX4_keeps_68 (by decide) ?_
          refine lv_aload_n hx hcd dX4_keeps_70 rfl (lv_at hl 1 rfl) ?_
          refine r_mN G hC h 1 (by decide) mw_1477 (x := nI (c0 - 1)) rfl dX4_keeps_71 ?_
          refine w_imul (v := nI (115 * (c0 - 1))) hx hcd dX4_keeps_74 (pk_mul _ _) ?_
          refine k_Sv (As := [.ref (eX V (501 + q)), .int (nI 0), .ref (eX V (501 + 1)), .int (nI (115 * (c0 - 1)))]) (rest := []) G hC hB h (met_X4_copies l V (nPut (shG (nPut M 3 (nI 0)) i) 1 (nI (c0 - 1))) q 0 1 (115 * (c0 - 1)) (by omega) (by omega) (by decide) (by decide) (by omega) (by rcases hq with rfl | rfl <;> decide) (by show _ ≤ 920; omega)) mw_1553 ks_X4_copies ⟨rfl, rfl⟩ ⟨Nat.le_of_ble_eq_true rfl, Nat.le_of_ble_eq_true rfl⟩ rfl rfl hl.1 (Nat.le_of_ble_eq_true rfl) dX4_keeps_75 ⟨Nat.le_of_ble_eq_true rfl, Nat.le_of_ble_eq_true rfl⟩ (fun u H locs hp h => ?_)
          have hu9 := hp
          rw [hu9] at h
          refine lv_aload_n hx hcd dX4_keeps_78 rfl (lv_at hl 1 rfl) ?_
          refine lv_dup hx hcd dX4_keeps_79 rfl ?_
          refine r_mN G hC h 1 (by decide) mw_1477 (x := nI (c0 - 1)) rfl dX4_keeps_80 ?_
          refine lv_iconst (v := nI 1) hx hcd dX4_keeps_83 (by decide) ?_
          refine w_iadd (v := nI ((c0 - 1) + 1)) hx hcd dX4_keeps_84 (nI_add _ _) ?_
          refine r_mP G hC h 1 (by decide) mw_1477 (fun z => absurd z (by decide)) rfl dX4_keeps_85 (fun H locs h => ?_)
          exact k_retv hQ G hret hlocks h (by unfold kpG; rw [if_pos (by omega), show i = 805 by omega]) (Nat.le_of_ble_eq_true rfl) (Nat.le_of_ble_eq_true rfl) dX4_keeps_88
        · have c_8 := cNle (tN (n := 805) (by decide)) (tN (n := i) (by omega)) c_8
          refine lv_aload_n hx hcd dX4_keeps_31 rfl (lv_at hl 1 rfl) ?_
          refine r_mA G hC h 1 (by decide) mw_1473 dX4_keeps_32 ?_
          refine lv_iload_n hx hcd dX4_keeps_35 rfl (lv_at hl 0 rfl) ?_
          refine lv_aload_n hx hcd dX4_keeps_36 rfl (lv_at hl 1 rfl) ?_
          refine r_mA G hC h 1 (by decide) mw_1473 dX4_keeps_37 ?_
          refine lv_iload_n hx hcd dX4_keeps_40 rfl (lv_at hl 0 rfl) ?_
          refine lv_bipush (v := nI 115) hx hcd dX4_keeps_41 (by decide) ?_
          refine w_iadd (v := nI (i + 115)) hx hcd dX4_keeps_43 (nI_add _ _) ?_
          refine r_mL G hC h 1 (i + 115) (by decide) (by decide) rfl (show i + 115 < 920 by omega) (x := (nPut M 3 (nI 0)).2 1 (i + 115)) (shG_r _ _) dX4_keeps_44 ?_
          refine r_mT G hC h 1 (i) (by decide) (by decide) rfl (show i < 920 by omega) rfl dX4_keeps_45 (fun H locs h => ?_)
          refine lv_iinc (v := nI (i + 1)) (lv' := [(2, .int (nI (i + 1))), (0, .ref (eX V 500)), (1, .ref (eX V (501 + q)))]) hx hcd dX4_keeps_46 hl (k := 0) rfl (by exact nI_add (i) 1) (by decide) rfl (fun ls hl => ?_)
          refine lv_goto (tgt := 24) hx hcd dX4_keeps_49 (by decide) ?_
          exact ih_6 (i + 1) (by omega) (by omega) _ _ (by rw [shG_s] at h; exact h) _ (lv_sub hl [0, 1, 2] rfl)
    exact L_5 (805 + 1) 0 (by omega) (by omega) _ _ (by rw [shG_0]; exact h) _ (lv_sub hl [0, 1, 2] rfl)
