/-! THE REFERENCE: assigned, re-estimated. -/
theorem nPut_2 (M : kMs) (f : Nat) (a b : Int32) : nPut (nPut M f a) f b = nPut M f b := by
  unfold nPut
  refine Prod.ext (funext fun g => ?_) rfl
  show va_up (va_up M.1 f a) f b g = va_up M.1 f b g
  simp only [va_up]
  by_cases h : g = f
  · rw [if_pos h, if_pos h]
  · rw [if_neg h, if_neg h, if_neg h]
theorem setG_setG (X : kMs) (B B' : kBd) : setG (setG X B) B' = setG X B' := by
  unfold setG
  refine Prod.ext rfl (funext fun r => ?_)
  show va_up (va_up X.2 0 (gOf B)) 0 (gOf B') r = va_up X.2 0 (gOf B') r
  simp only [va_up]
  by_cases h : r = 0
  · rw [if_pos h, if_pos h]
  · rw [if_neg h, if_neg h, if_neg h]
theorem n_least {a b : Nat} (ha : a < 2147483648) (hb : b < 2147483648) : (if (nI a : Int32).toInt < (nI b : Int32).toInt then nI a else nI b) = nI (min a b) := by
  rw [nI_toInt ha, nI_toInt hb]
  by_cases h : a < b
  · rw [if_pos (by omega), show min a b = a by omega]
  · rw [if_neg (by omega), show min a b = b by omega]
theorem bI_re1 {B : kBd} (h : bI B) {j q : Nat} (hj : j < B.2 0) (hq : q ≤ 13) : bI (bSet (bSet B 0 j q) 1 j (q - min (B.1 0 j - B.1 1 j) q)) := by
  obtain ⟨hz, hbn, hn, hm, h3, h54, h4, h7, hr, he, ha, hact, h5⟩ := h
  refine ⟨kSm_set (kSm_set hz 0 j (by omega)) 1 j (by omega), bN_set (bN_set hbn (by decide) (show j < kLen 0 by show j < 16; omega) q) (by decide) (show j < kLen 1 by show j < 16; omega) _, hn, hm, h3, h54, h4, h7, fun k => ?_, fun k => ?_, fun k => ?_, hact, fun k => ?_⟩
  · have := hr k
    simp [bS1]
    split <;> omega
  · have := he k
    simp [bS1]
    split <;> omega
  · have := ha k
    simp [bS1, bS2]
    omega
  · have := h5 k
    simp [bS1]
    omega
theorem asgOf_is {B : kBd} {k : Nat} (h : asgOf B k ≠ 0) : asgOf B k - 1 < 4 ∧ B.1 4 (asgOf B k - 1) = k + 1 := by
  revert h
  unfold asgOf
  by_cases h0 : B.1 4 0 = k + 1
  · rw [if_pos h0]; exact fun _ => ⟨by decide, h0⟩
  · rw [if_neg h0]
    by_cases h1 : B.1 4 1 = k + 1
    · rw [if_pos h1]; exact fun _ => ⟨by decide, h1⟩
    · rw [if_neg h1]
      by_cases h2 : B.1 4 2 = k + 1
      · rw [if_pos h2]; exact fun _ => ⟨by decide, h2⟩
      · rw [if_neg h2]
        by_cases h3 : B.1 4 3 = k + 1
        · rw [if_pos h3]; exact fun _ => ⟨by decide, h3⟩
        · rw [if_neg h3]; exact fun h => absurd rfl h
/-- nobody who is not there works -/
def bV (B : kBd) : Prop := ∀ d, B.2 1 ≤ d → B.1 4 d = 0
set_option maxHeartbeats 4000000 in
set_option maxRecDepth 100000 in
/-- assign(x, y) -/
theorem met_X4_assign (l : Launch) (V : kEnv) (M : kMs) (B : kBd) (hg : M.2 0 = gOf B) (hI : bI B) (w c0 : Nat) (hw : M.1 2 = nI w) (hw2 : w < 2) (hc0 : M.1 1 = nI c0) (hc8 : c0 ≤ 8) (x y : Int32) : kI l yX4_assign cX4_assign 3 (some .boolean) { frames := 3, cells := 0, slots := 0, locals := 67 } V (mWs V) [.ref (eX V 500), .int (x), .int (y)] (M) (fun r u => (∃ k d, k < B.2 0 ∧ d < B.2 1 ∧ x = nI k ∧ y = nI d ∧ B.2 3 ≠ 0 ∧ ((B.2 2).testBit k = true ∧ B.1 1 k ≠ 0 ∧ asgOf B k = 0 ∧ B.1 4 d = 0) ∧ r = bz (decide (0 < opS (bSet B 4 d (k + 1)) k)) ∧ u = setG (kpW (nPut M 3 (nI 0)) 0 w c0) (bSet B 4 d (k + 1))) ∨ ((inS (B.2 0) x && inS (B.2 1) y) = false ∧ r = nI 0 ∧ u = nPut M 3 (nI 1)) ∨ (∃ k d, k < B.2 0 ∧ d < B.2 1 ∧ x = nI k ∧ y = nI d ∧ B.2 3 = 0 ∧ r = nI 0 ∧ u = nPut M 3 (nI 2)) ∨ (∃ k d, k < B.2 0 ∧ d < B.2 1 ∧ x = nI k ∧ y = nI d ∧ B.2 3 ≠ 0 ∧ ¬ ((B.2 2).testBit k = true ∧ B.1 1 k ≠ 0 ∧ asgOf B k = 0 ∧ B.1 4 d = 0) ∧ r = nI 0 ∧ u = nPut M 3 (nI 3))) 0 0 := by
  refine kI_of (by decide +kernel) (Nat.le_of_ble_eq_true rfl) ?_
  intro pg e s m args below meth c G hret hlocks hC hB h ls hl Q hQ
  have hl : lv_has ls 3 [(0, .ref (eX V 500)), (1, .int (x)), (2, .int (y))] := hl
  have hx := G.1
  have hcd := G.2.1
  have hI0 := hI
  obtain ⟨hz, hbn, hn, hm, h3, h54, h4, h7, hr, he, ha, hact, h5⟩ := hI
  refine lv_aload_n hx hcd dX4_assign_0 rfl (lv_at hl 0 rfl) ?_
  refine lv_aload_n hx hcd dX4_assign_1 rfl (lv_at hl 0 rfl) ?_
  refine lv_iload_n hx hcd dX4_assign_2 rfl (lv_at hl 1 rfl) ?_
  refine k_Vi (As := [.int (x)]) (rest := [.ref (eX V 500)]) (b := eX V 500) G hC hB h (met_X4_isStory l V M B hg hI0 x) mw_1564 kv_X4_isStory ⟨rfl, rfl⟩ ⟨Nat.le_of_ble_eq_true rfl, Nat.le_of_ble_eq_true rfl⟩ (r_mV hC h) rfl rfl hl.1 (Nat.le_of_ble_eq_true rfl) dX4_assign_3 ⟨Nat.le_of_ble_eq_true rfl, Nat.le_of_ble_eq_true rfl⟩ (fun r u H locs hp h => ?_)
  obtain ⟨hr9, hu9⟩ := hp
  rw [hu9] at h
  rcases bsp (inS (B.2 0) x) with c9 | c9
  · skip
    obtain rfl : r = nI 1 := (hr9.trans ((congrArg bz c9).trans (by decide)))
    obtain ⟨k, hk, rfl⟩ := inS_ex (by omega) c9
    refine lv_if_eq (tgt := 17) hx hcd dX4_assign_6 (by decide) (fun c_1 => absurd c_1 (by decide)) (fun _ => ?_)
    refine lv_aload_n hx hcd dX4_assign_9 rfl (lv_at hl 0 rfl) ?_
    refine lv_iload_n hx hcd dX4_assign_10 rfl (lv_at hl 2 rfl) ?_
    refine k_Vi (As := [.int (y)]) (rest := [.ref (eX V 500)]) (b := eX V 500) G hC hB h (met_X4_isPerson l V M B hg hI0 y) mw_1686 kv_X4_isPerson ⟨rfl, rfl⟩ ⟨Nat.le_of_ble_eq_true rfl, Nat.le_of_ble_eq_true rfl⟩ (r_mV hC h) rfl rfl hl.1 (Nat.le_of_ble_eq_true rfl) dX4_assign_11 ⟨Nat.le_of_ble_eq_true rfl, Nat.le_of_ble_eq_true rfl⟩ (fun r u H locs hp h => ?_)
    obtain ⟨hr9, hu9⟩ := hp
    rw [hu9] at h
    rcases bsp (inS (B.2 1) y) with c9 | c9
    · skip
      obtain rfl : r = nI 1 := (hr9.trans ((congrArg bz c9).trans (by decide)))
      obtain ⟨d, hd, rfl⟩ := inS_ex (by omega) c9
      refine lv_if_ne (tgt := 21) hx hcd dX4_assign_14 (by decide) (fun _ => ?_) (fun c_2 => absurd c_2 (by decide))
      refine lv_aload_n hx hcd dX4_assign_21 rfl (lv_at hl 0 rfl) ?_
      refine r_mA G hC h 0 (by decide) mw_1472 dX4_assign_22 ?_
      refine lv_iconst (v := nI 2) hx hcd dX4_assign_25 (by decide) ?_
      refine r_mL G hC h 0 (2) (by decide) (by decide) rfl (show 2 < 115 by omega) (x := nI (B.2 3)) (gOf_n hg (f := 2) (by decide)) dX4_assign_26 ?_
      have q_3 := hz.2 3
      refine lv_if_ne (tgt := 34) hx hcd dX4_assign_27 (by decide) (fun c_4 => ?_) (fun c_4 => ?_)
      · have c_4 := cNe (tN (n := B.2 3) (by omega)) t0 c_4
        refine lv_iconst (v := nI 0) hx hcd dX4_assign_34 (by decide) ?_
        refine k_Vi (As := [.int (nI 0)]) (rest := []) (b := eX V 500) G hC hB h (met_X4_fails l V M (nI 0)) mw_1545 kv_X4_fails ⟨rfl, rfl⟩ ⟨Nat.le_of_ble_eq_true rfl, Nat.le_of_ble_eq_true rfl⟩ (r_mV hC h) rfl rfl hl.1 (Nat.le_of_ble_eq_true rfl) dX4_assign_35 ⟨Nat.le_of_ble_eq_true rfl, Nat.le_of_ble_eq_true rfl⟩ (fun r u H locs hp h => ?_)
        obtain ⟨hr9, hu9⟩ := hp
        obtain rfl : r = nI 0 := (hr9.trans (by decide))
        rw [hu9] at h
        refine lv_if_eq (tgt := 43) hx hcd dX4_assign_38 (by decide) (fun _ => ?_) (fun c_5 => absurd c_5 (by decide))
        refine lv_aload_n hx hcd dX4_assign_43 rfl (lv_at hl 0 rfl) ?_
        refine lv_aload_n hx hcd dX4_assign_44 rfl (lv_at hl 0 rfl) ?_
        refine lv_iload_n hx hcd dX4_assign_45 rfl (lv_at hl 1 rfl) ?_
        refine lv_iconst (v := nI 2) hx hcd dX4_assign_46 (by decide) ?_
        refine k_Vi (As := [.int (nI (k)), .int (nI 2)]) (rest := [.ref (eX V 500)]) (b := eX V 500) G hC hB h (met_X4_of l V (nPut M 3 (nI 0)) k 2 (by omega) (by decide)) mw_1572 kv_X4_of ⟨rfl, rfl⟩ ⟨Nat.le_of_ble_eq_true rfl, Nat.le_of_ble_eq_true rfl⟩ (r_mV hC h) rfl rfl hl.1 (Nat.le_of_ble_eq_true rfl) dX4_assign_47 ⟨Nat.le_of_ble_eq_true rfl, Nat.le_of_ble_eq_true rfl⟩ (fun r u H locs hp h => ?_)
        obtain ⟨hr9, hu9⟩ := hp
        obtain rfl : r = nI (pln B k) := (hr9.trans (gOf_s hg hn (k := k) (w := 2) (by omega) (by decide)))
        rw [hu9] at h
        have q_6 := pln_le B k
        refine lv_if_eq (tgt := 79) hx hcd dX4_assign_50 (by decide) (fun c_7 => ?_) (fun c_7 => ?_)
        · have c_7 := cEq (tN (n := pln B k) (by omega)) t0 c_7
          refine lv_iconst (v := nI 3) hx hcd dX4_assign_79 (by decide) ?_
          refine lv_goto (tgt := 84) hx hcd dX4_assign_80 (by decide) ?_
          refine k_Vi (As := [.int (nI 3)]) (rest := []) (b := eX V 500) G hC hB h (met_X4_fails l V (nPut M 3 (nI 0)) (nI 3)) mw_1545 kv_X4_fails ⟨rfl, rfl⟩ ⟨Nat.le_of_ble_eq_true rfl, Nat.le_of_ble_eq_true rfl⟩ (r_mV hC h) rfl rfl hl.1 (Nat.le_of_ble_eq_true rfl) dX4_assign_84 ⟨Nat.le_of_ble_eq_true rfl, Nat.le_of_ble_eq_true rfl⟩ (fun r u H locs hp h => ?_)
          obtain ⟨hr9, hu9⟩ := hp
          obtain rfl : r = nI 1 := (hr9.trans (by decide))
          rw [hu9] at h
          refine lv_if_eq (tgt := 92) hx hcd dX4_assign_87 (by decide) (fun c_8 => absurd c_8 (by decide)) (fun _ => ?_)
          refine lv_iconst (v := nI 0) hx hcd dX4_assign_90 (by decide) ?_
          exact k_retz hQ G hret hlocks h (Or.inl rfl) (Or.inr (Or.inr (Or.inr ⟨k, d, hk, hd, rfl, rfl, by omega, (fun z => by first | exact Bool.noConfusion (z.1.symm.trans (pln_f (by omega))) | exact absurd z.2.1 (by omega) | exact absurd z.2.2.1 (by omega) | exact absurd z.2.2.2 (by omega)), rfl, nPut_2 _ _ _ _⟩))) (Nat.le_of_ble_eq_true rfl) (Nat.le_of_ble_eq_true rfl) dX4_assign_91
        · have c_7 := cNe (tN (n := pln B k) (by omega)) t0 c_7
          refine lv_aload_n hx hcd dX4_assign_53 rfl (lv_at hl 0 rfl) ?_
          refine lv_iload_n hx hcd dX4_assign_54 rfl (lv_at hl 1 rfl) ?_
          refine k_Vi (As := [.int (nI (k))]) (rest := [.ref (eX V 500)]) (b := eX V 500) G hC hB h (met_X4_isOver l V (nPut M 3 (nI 0)) B hg hI0 k (by omega)) mw_1568 kv_X4_isOver ⟨rfl, rfl⟩ ⟨Nat.le_of_ble_eq_true rfl, Nat.le_of_ble_eq_true rfl⟩ (r_mV hC h) rfl rfl hl.1 (Nat.le_of_ble_eq_true rfl) dX4_assign_55 ⟨Nat.le_of_ble_eq_true rfl, Nat.le_of_ble_eq_true rfl⟩ (fun r u H locs hp h => ?_)
          obtain ⟨hr9, hu9⟩ := hp
          obtain rfl : r = bz (decide (B.1 1 k = 0)) := hr9
          rw [hu9] at h
          refine lv_if_ne (tgt := 79) hx hcd dX4_assign_58 (by decide) (fun c_9 => ?_) (fun c_9 => ?_)
          · have c_9 := bz1 c_9
            have f_10 := of_decide_eq_true c_9
            refine lv_iconst (v := nI 3) hx hcd dX4_assign_79 (by decide) ?_
            refine lv_goto (tgt := 84) hx hcd dX4_assign_80 (by decide) ?_
            refine k_Vi (As := [.int (nI 3)]) (rest := []) (b := eX V 500) G hC hB h (met_X4_fails l V (nPut M 3 (nI 0)) (nI 3)) mw_1545 kv_X4_fails ⟨rfl, rfl⟩ ⟨Nat.le_of_ble_eq_true rfl, Nat.le_of_ble_eq_true rfl⟩ (r_mV hC h) rfl rfl hl.1 (Nat.le_of_ble_eq_true rfl) dX4_assign_84 ⟨Nat.le_of_ble_eq_true rfl, Nat.le_of_ble_eq_true rfl⟩ (fun r u H locs hp h => ?_)
            obtain ⟨hr9, hu9⟩ := hp
            obtain rfl : r = nI 1 := (hr9.trans (by decide))
            rw [hu9] at h
            refine lv_if_eq (tgt := 92) hx hcd dX4_assign_87 (by decide) (fun c_12 => absurd c_12 (by decide)) (fun _ => ?_)
            refine lv_iconst (v := nI 0) hx hcd dX4_assign_90 (by decide) ?_
            exact k_retz hQ G hret hlocks h (Or.inl rfl) (Or.inr (Or.inr (Or.inr ⟨k, d, hk, hd, rfl, rfl, by omega, (fun z => by first | exact Bool.noConfusion (z.1.symm.trans (pln_f (by omega))) | exact absurd z.2.1 (by omega) | exact absurd z.2.2.1 (by omega) | exact absurd z.2.2.2 (by omega)), rfl, nPut_2 _ _ _ _⟩))) (Nat.le_of_ble_eq_true rfl) (Nat.le_of_ble_eq_true rfl) dX4_assign_91
          · have c_9 := bz0 c_9
            have f_11 := of_decide_eq_false c_9
            refine lv_aload_n hx hcd dX4_assign_61 rfl (lv_at hl 0 rfl) ?_
            refine lv_iload_n hx hcd dX4_assign_62 rfl (lv_at hl 1 rfl) ?_
            refine lv_iconst (v := nI 3) hx hcd dX4_assign_63 (by decide) ?_
            refine k_Vi (As := [.int (nI (k)), .int (nI 3)]) (rest := [.ref (eX V 500)]) (b := eX V 500) G hC hB h (met_X4_of l V (nPut M 3 (nI 0)) k 3 (by omega) (by decide)) mw_1572 kv_X4_of ⟨rfl, rfl⟩ ⟨Nat.le_of_ble_eq_true rfl, Nat.le_of_ble_eq_true rfl⟩ (r_mV hC h) rfl rfl hl.1 (Nat.le_of_ble_eq_true rfl) dX4_assign_64 ⟨Nat.le_of_ble_eq_true rfl, Nat.le_of_ble_eq_true rfl⟩ (fun r u H locs hp h => ?_)
            obtain ⟨hr9, hu9⟩ := hp
            obtain rfl : r = nI (asgOf B k) - 1 := (hr9.trans (gOf_s hg hn (k := k) (w := 3) (by omega) (by decide)))
            rw [hu9] at h
            have q_13 := asgOf_le B k
            refine lv_if_ge (tgt := 79) hx hcd dX4_assign_67 (by decide) (fun c_14 => ?_) (fun c_14 => ?_)
            · have c_14 := cLe t0 (tA (n := asgOf B k) (by omega)) c_14
              refine lv_iconst (v := nI 3) hx hcd dX4_assign_79 (by decide) ?_
              refine lv_goto (tgt := 84) hx hcd dX4_assign_80 (by decide) ?_
              refine k_Vi (As := [.int (nI 3)]) (rest := []) (b := eX V 500) G hC hB h (met_X4_fails l V (nPut M 3 (nI 0)) (nI 3)) mw_1545 kv_X4_fails ⟨rfl, rfl⟩ ⟨Nat.le_of_ble_eq_true rfl, Nat.le_of_ble_eq_true rfl⟩ (r_mV hC h) rfl rfl hl.1 (Nat.le_of_ble_eq_true rfl) dX4_assign_84 ⟨Nat.le_of_ble_eq_true rfl, Nat.le_of_ble_eq_true rfl⟩ (fun r u H locs hp h => ?_)
              obtain ⟨hr9, hu9⟩ := hp
              obtain rfl : r = nI 1 := (hr9.trans (by decide))
              rw [hu9] at h
              refine lv_if_eq (tgt := 92) hx hcd dX4_assign_87 (by decide) (fun c_15 => absurd c_15 (by decide)) (fun _ => ?_)
              refine lv_iconst (v := nI 0) hx hcd dX4_assign_90 (by decide) ?_
              exact k_retz hQ G hret hlocks h (Or.inl rfl) (Or.inr (Or.inr (Or.inr ⟨k, d, hk, hd, rfl, rfl, by omega, (fun z => by first | exact Bool.noConfusion (z.1.symm.trans (pln_f (by omega))) | exact absurd z.2.1 (by omega) | exact absurd z.2.2.1 (by omega) | exact absurd z.2.2.2 (by omega)), rfl, nPut_2 _ _ _ _⟩))) (Nat.le_of_ble_eq_true rfl) (Nat.le_of_ble_eq_true rfl) dX4_assign_91
            · have c_14 := cNle t0 (tA (n := asgOf B k) (by omega)) c_14
              refine lv_aload_n hx hcd dX4_assign_70 rfl (lv_at hl 0 rfl) ?_
              refine lv_iload_n hx hcd dX4_assign_71 rfl (lv_at hl 2 rfl) ?_
              refine lv_iconst (v := nI 1) hx hcd dX4_assign_72 (by decide) ?_
              refine k_Vi (As := [.int (nI (d)), .int (nI 1)]) (rest := [.ref (eX V 500)]) (b := eX V 500) G hC hB h (met_X4_by l V (nPut M 3 (nI 0)) d 1 (by omega) (by decide)) mw_1690 kv_X4_by ⟨rfl, rfl⟩ ⟨Nat.le_of_ble_eq_true rfl, Nat.le_of_ble_eq_true rfl⟩ (r_mV hC h) rfl rfl hl.1 (Nat.le_of_ble_eq_true rfl) dX4_assign_73 ⟨Nat.le_of_ble_eq_true rfl, Nat.le_of_ble_eq_true rfl⟩ (fun r u H locs hp h => ?_)
              obtain ⟨hr9, hu9⟩ := hp
              obtain rfl : r = nI (B.1 4 d) - 1 := (hr9.trans (gOf_p1 hg hm (d := d) (by omega)))
              rw [hu9] at h
              have q_16 := hz.1 4 d
              refine lv_if_lt (tgt := 83) hx hcd dX4_assign_76 (by decide) (fun c_17 => ?_) (fun c_17 => ?_)
              · have c_17 := cLt (tA (n := B.1 4 d) (by omega)) t0 c_17
                refine lv_iconst (v := nI 0) hx hcd dX4_assign_83 (by decide) ?_
                refine k_Vi (As := [.int (nI 0)]) (rest := []) (b := eX V 500) G hC hB h (met_X4_fails l V (nPut M 3 (nI 0)) (nI 0)) mw_1545 kv_X4_fails ⟨rfl, rfl⟩ ⟨Nat.le_of_ble_eq_true rfl, Nat.le_of_ble_eq_true rfl⟩ (r_mV hC h) rfl rfl hl.1 (Nat.le_of_ble_eq_true rfl) dX4_assign_84 ⟨Nat.le_of_ble_eq_true rfl, Nat.le_of_ble_eq_true rfl⟩ (fun r u H locs hp h => ?_)
                obtain ⟨hr9, hu9⟩ := hp
                obtain rfl : r = nI 0 := (hr9.trans (by decide))
                rw [hu9] at h
                refine lv_if_eq (tgt := 92) hx hcd dX4_assign_87 (by decide) (fun _ => ?_) (fun c_18 => absurd c_18 (by decide))
                refine lv_aload_n hx hcd dX4_assign_92 rfl (lv_at hl 0 rfl) ?_
                refine lv_aload_n hx hcd dX4_assign_93 rfl (lv_at hl 0 rfl) ?_
                refine r_mA G hC h 0 (by decide) mw_1472 dX4_assign_94 ?_
                refine k_Vv (As := [.ref (eX V (501 + 0))]) (rest := []) (b := eX V 500) G hC hB h (met_X4_keeps l V (nPut (nPut M 3 (nI 0)) 3 (nI 0)) 0 (Or.inl rfl) w hw hw2 c0 hc0 hc8) mw_1549 kv_X4_keeps ⟨rfl, rfl⟩ ⟨Nat.le_of_ble_eq_true rfl, Nat.le_of_ble_eq_true rfl⟩ (r_mV hC h) rfl rfl hl.1 (Nat.le_of_ble_eq_true rfl) dX4_assign_97 ⟨Nat.le_of_ble_eq_true rfl, Nat.le_of_ble_eq_true rfl⟩ (fun u H locs hp h => ?_)
                have hu9 := hp
                rw [hu9] at h
                have hg9 : (kpW (nPut (nPut M 3 (nI 0)) 3 (nI 0)) 0 w c0).2 0 = gOf B := (kpW_g _ _ _ _).trans hg
                refine lv_aload_n hx hcd dX4_assign_100 rfl (lv_at hl 0 rfl) ?_
                refine lv_iload_n hx hcd dX4_assign_101 rfl (lv_at hl 1 rfl) ?_
                refine lv_iconst (v := nI 3) hx hcd dX4_assign_102 (by decide) ?_
                refine lv_iload_n hx hcd dX4_assign_103 rfl (lv_at hl 2 rfl) ?_
                refine k_Vv (As := [.int (nI (k)), .int (nI 3), .int (nI (d))]) (rest := []) (b := eX V 500) G hC hB h (met_X4_lays l V (kpW (nPut (nPut M 3 (nI 0)) 3 (nI 0)) 0 w c0) k 3 (nI (d)) (by omega) (by decide)) mw_1556 kv_X4_lays ⟨rfl, rfl⟩ ⟨Nat.le_of_ble_eq_true rfl, Nat.le_of_ble_eq_true rfl⟩ (r_mV hC h) rfl rfl hl.1 (Nat.le_of_ble_eq_true rfl) dX4_assign_104 ⟨Nat.le_of_ble_eq_true rfl, Nat.le_of_ble_eq_true rfl⟩ (fun u H locs hp h => ?_)
                have hu9 := hp
                rw [hu9] at h
                refine lv_aload_n hx hcd dX4_assign_107 rfl (lv_at hl 0 rfl) ?_
                refine r_mA G hC h 0 (by decide) mw_1472 dX4_assign_108 ?_
                refine lv_bipush (v := nI 87) hx hcd dX4_assign_111 (by decide) ?_
                refine lv_iconst (v := nI 2) hx hcd dX4_assign_113 (by decide) ?_
                refine lv_iload_n hx hcd dX4_assign_114 rfl (lv_at hl 2 rfl) ?_
                refine w_imul (v := nI (2 * d)) hx hcd dX4_assign_115 (pk_mul _ _) ?_
                refine w_iadd (v := nI (87 + (2 * d))) hx hcd dX4_assign_116 (nI_add _ _) ?_
                refine lv_iconst (v := nI 1) hx hcd dX4_assign_117 (by decide) ?_
                refine w_iadd (v := nI ((87 + (2 * d)) + 1)) hx hcd dX4_assign_118 (nI_add _ _) ?_
                refine lv_iload_n hx hcd dX4_assign_119 rfl (lv_at hl 1 rfl) ?_
                refine r_mT G hC h 0 ((87 + (2 * d)) + 1) (by decide) (by decide) rfl (show (87 + (2 * d)) + 1 < 115 by omega) rfl dX4_assign_120 (fun H locs h => ?_)
                have ha1 : (B.2 2).testBit k = true := pln_t (by have := pln_le B k; omega)
                rw [setG2_of hg9 (upd_asg hn hm hk hd (by omega) (by omega))] at h
                obtain ⟨B2, hB2⟩ : ∃ z, z = bSet B 4 d (k + 1) := ⟨_, rfl⟩
                rw [← hB2] at h
                have hIB2 : bI B2 := by rw [hB2]; exact bI_asg hI0 (by omega) (by omega)
                have hgB2 : (setG (kpW (nPut (nPut M 3 (nI 0)) 3 (nI 0)) 0 w c0) B2).2 0 = gOf B2 := setG_g _ _
                have hk2 : k < B2.2 0 := by rw [hB2]; exact hk
                have hJB2 := hIB2
                obtain ⟨hz, hbn, hn, hm, h3, h54, h4, h7, hr, he, ha, hact, h5⟩ := hJB2
                refine lv_aload_n hx hcd dX4_assign_121 rfl (lv_at hl 0 rfl) ?_
                refine lv_iload_n hx hcd dX4_assign_122 rfl (lv_at hl 1 rfl) ?_
                refine k_Vi (As := [.int (nI (k))]) (rest := []) (b := eX V 500) G hC hB h (met_X4_open l V (setG (kpW (nPut (nPut M 3 (nI 0)) 3 (nI 0)) 0 w c0) B2) B2 hgB2 hIB2 k (by omega)) mw_1639 kv_X4_open ⟨rfl, rfl⟩ ⟨Nat.le_of_ble_eq_true rfl, Nat.le_of_ble_eq_true rfl⟩ (r_mV hC h) rfl rfl hl.1 (Nat.le_of_ble_eq_true rfl) dX4_assign_123 ⟨Nat.le_of_ble_eq_true rfl, Nat.le_of_ble_eq_true rfl⟩ (fun r u H locs hp h => ?_)
                obtain ⟨hr9, hu9⟩ := hp
                obtain rfl : r = nI (opS B2 k) := hr9
                rw [hu9] at h
                have q_22 := opS_le hn k
                refine lv_if_le (tgt := 133) hx hcd dX4_assign_126 (by decide) (fun c_23 => ?_) (fun c_23 => ?_)
                · have c_23 := cLe (tN (n := opS B2 k) (by omega)) t0 c_23
                  refine lv_iconst (v := nI 0) hx hcd dX4_assign_133 (by decide) ?_
                  exact k_retz hQ G hret hlocks h (Or.inl rfl) (Or.inl ⟨k, d, hk, hd, rfl, rfl, by omega, ⟨ha1, by omega, by omega, by omega⟩, by rw [← hB2]; exact (bz_f (decide_eq_false (by omega))).symm, by rw [hB2, nPut_2]⟩) (Nat.le_of_ble_eq_true rfl) (Nat.le_of_ble_eq_true rfl) dX4_assign_134
                · have c_23 := cNle (tN (n := opS B2 k) (by omega)) t0 c_23
                  refine lv_iconst (v := nI 1) hx hcd dX4_assign_129 (by decide) ?_
                  refine lv_goto (tgt := 134) hx hcd dX4_assign_130 (by decide) ?_
                  exact k_retz hQ G hret hlocks h (Or.inr rfl) (Or.inl ⟨k, d, hk, hd, rfl, rfl, by omega, ⟨ha1, by omega, by omega, by omega⟩, by rw [← hB2]; exact (bz_t (decide_eq_true (by omega))).symm, by rw [hB2, nPut_2]⟩) (Nat.le_of_ble_eq_true rfl) (Nat.le_of_ble_eq_true rfl) dX4_assign_134
              · have c_17 := cNlt (tA (n := B.1 4 d) (by omega)) t0 c_17
                refine lv_iconst (v := nI 3) hx hcd dX4_assign_79 (by decide) ?_
                refine lv_goto (tgt := 84) hx hcd dX4_assign_80 (by decide) ?_
                refine k_Vi (As := [.int (nI 3)]) (rest := []) (b := eX V 500) G hC hB h (met_X4_fails l V (nPut M 3 (nI 0)) (nI 3)) mw_1545 kv_X4_fails ⟨rfl, rfl⟩ ⟨Nat.le_of_ble_eq_true rfl, Nat.le_of_ble_eq_true rfl⟩ (r_mV hC h) rfl rfl hl.1 (Nat.le_of_ble_eq_true rfl) dX4_assign_84 ⟨Nat.le_of_ble_eq_true rfl, Nat.le_of_ble_eq_true rfl⟩ (fun r u H locs hp h => ?_)
                obtain ⟨hr9, hu9⟩ := hp
                obtain rfl : r = nI 1 := (hr9.trans (by decide))
                rw [hu9] at h
                refine lv_if_eq (tgt := 92) hx hcd dX4_assign_87 (by decide) (fun c_24 => absurd c_24 (by decide)) (fun _ => ?_)
                refine lv_iconst (v := nI 0) hx hcd dX4_assign_90 (by decide) ?_
                exact k_retz hQ G hret hlocks h (Or.inl rfl) (Or.inr (Or.inr (Or.inr ⟨k, d, hk, hd, rfl, rfl, by omega, (fun z => by first | exact Bool.noConfusion (z.1.symm.trans (pln_f (by omega))) | exact absurd z.2.1 (by omega) | exact absurd z.2.2.1 (by omega) | exact absurd z.2.2.2 (by omega)), rfl, nPut_2 _ _ _ _⟩))) (Nat.le_of_ble_eq_true rfl) (Nat.le_of_ble_eq_true rfl) dX4_assign_91
      · have c_4 := cEq (tN (n := B.2 3) (by omega)) t0 c_4
        refine lv_iconst (v := nI 2) hx hcd dX4_assign_30 (by decide) ?_
        refine lv_goto (tgt := 35) hx hcd dX4_assign_31 (by decide) ?_
        refine k_Vi (As := [.int (nI 2)]) (rest := []) (b := eX V 500) G hC hB h (met_X4_fails l V M (nI 2)) mw_1545 kv_X4_fails ⟨rfl, rfl⟩ ⟨Nat.le_of_ble_eq_true rfl, Nat.le_of_ble_eq_true rfl⟩ (r_mV hC h) rfl rfl hl.1 (Nat.le_of_ble_eq_true rfl) dX4_assign_35 ⟨Nat.le_of_ble_eq_true rfl, Nat.le_of_ble_eq_true rfl⟩ (fun r u H locs hp h => ?_)
        obtain ⟨hr9, hu9⟩ := hp
        obtain rfl : r = nI 1 := (hr9.trans (by decide))
        rw [hu9] at h
        refine lv_if_eq (tgt := 43) hx hcd dX4_assign_38 (by decide) (fun c_25 => absurd c_25 (by decide)) (fun _ => ?_)
        refine lv_iconst (v := nI 0) hx hcd dX4_assign_41 (by decide) ?_
        exact k_retz hQ G hret hlocks h (Or.inl rfl) (Or.inr (Or.inr (Or.inl ⟨k, d, hk, hd, rfl, rfl, by omega, rfl, rfl⟩))) (Nat.le_of_ble_eq_true rfl) (Nat.le_of_ble_eq_true rfl) dX4_assign_42
    · skip
      obtain rfl : r = nI 0 := (hr9.trans ((congrArg bz c9).trans (by decide)))
      refine lv_if_ne (tgt := 21) hx hcd dX4_assign_14 (by decide) (fun c_26 => absurd c_26 (by decide)) (fun _ => ?_)
      refine lv_iconst (v := nI 1) hx hcd dX4_assign_17 (by decide) ?_
      refine lv_goto (tgt := 35) hx hcd dX4_assign_18 (by decide) ?_
      refine k_Vi (As := [.int (nI 1)]) (rest := []) (b := eX V 500) G hC hB h (met_X4_fails l V M (nI 1)) mw_1545 kv_X4_fails ⟨rfl, rfl⟩ ⟨Nat.le_of_ble_eq_true rfl, Nat.le_of_ble_eq_true rfl⟩ (r_mV hC h) rfl rfl hl.1 (Nat.le_of_ble_eq_true rfl) dX4_assign_35 ⟨Nat.le_of_ble_eq_true rfl, Nat.le_of_ble_eq_true rfl⟩ (fun r u H locs hp h => ?_)
      obtain ⟨hr9, hu9⟩ := hp
      obtain rfl : r = nI 1 := (hr9.trans (by decide))
      rw [hu9] at h
      refine lv_if_eq (tgt := 43) hx hcd dX4_assign_38 (by decide) (fun c_27 => absurd c_27 (by decide)) (fun _ => ?_)
      refine lv_iconst (v := nI 0) hx hcd dX4_assign_41 (by decide) ?_
      exact k_retz hQ G hret hlocks h (Or.inl rfl) (Or.inr (Or.inl ⟨by first | (rw [c9]; rfl) | (rw [c9]; exact Bool.and_false _), rfl, rfl⟩)) (Nat.le_of_ble_eq_true rfl) (Nat.le_of_ble_eq_true rfl) dX4_assign_42
  · skip
    obtain rfl : r = nI 0 := (hr9.trans ((congrArg bz c9).trans (by decide)))
    refine lv_if_eq (tgt := 17) hx hcd dX4_assign_6 (by decide) (fun _ => ?_) (fun c_28 => absurd c_28 (by decide))
    refine lv_iconst (v := nI 1) hx hcd dX4_assign_17 (by decide) ?_
    refine lv_goto (tgt := 35) hx hcd dX4_assign_18 (by decide) ?_
    refine k_Vi (As := [.int (nI 1)]) (rest := []) (b := eX V 500) G hC hB h (met_X4_fails l V M (nI 1)) mw_1545 kv_X4_fails ⟨rfl, rfl⟩ ⟨Nat.le_of_ble_eq_true rfl, Nat.le_of_ble_eq_true rfl⟩ (r_mV hC h) rfl rfl hl.1 (Nat.le_of_ble_eq_true rfl) dX4_assign_35 ⟨Nat.le_of_ble_eq_true rfl, Nat.le_of_ble_eq_true rfl⟩ (fun r u H locs hp h => ?_)
    obtain ⟨hr9, hu9⟩ := hp
    obtain rfl : r = nI 1 := (hr9.trans (by decide))
    rw [hu9] at h
    refine lv_if_eq (tgt := 43) hx hcd dX4_assign_38 (by decide) (fun c_29 => absurd c_29 (by decide)) (fun _ => ?_)
    refine lv_iconst (v := nI 0) hx hcd dX4_assign_41 (by decide) ?_
    exact k_retz hQ G hret hlocks h (Or.inl rfl) (Or.inr (Or.inl ⟨by first | (rw [c9]; rfl) | (rw [c9]; exact Bool.and_false _), rfl, rfl⟩)) (Nat.le_of_ble_eq_true rfl) (Nat.le_of_ble_eq_true rfl) dX4_assign_42
