theorem ks_X4_least : kSt yX4_least cX4_least 2 (some .int) 2 := ⟨mw_1577, mw_64, mw_1578, by decide, by decide, by decide +kernel⟩
set_option maxHeartbeats 4000000 in
set_option maxRecDepth 100000 in
/-- reestimate(x, y) -/
theorem met_X4_reestimate (l : Launch) (V : kEnv) (M : kMs) (B : kBd) (hg : M.2 0 = gOf B) (hI : bI B) (w c0 : Nat) (hw : M.1 2 = nI w) (hw2 : w < 2) (hc0 : M.1 1 = nI c0) (hc8 : c0 ≤ 8) (hu : bU B) (hv : bV B) (x y : Int32) : kI l yX4_reestimate cX4_reestimate 4 (some .int) { frames := 2, cells := 0, slots := 0, locals := 46 } V (mWs V) [.ref (eX V 500), .int (x), .int (y)] (M) (fun r u => (∃ k q, k < B.2 0 ∧ isEst (nI q : Int32).toInt = true ∧ q ≤ 13 ∧ x = nI k ∧ y = nI q ∧ B.1 1 k ≠ 0 ∧ r = nI ((reB B k q).1 1 k) ∧ u = setG (kpW (nPut M 3 (nI 0)) 0 w c0) (reB B k q)) ∨ (inS (B.2 0) x = false ∧ r = nI 0 ∧ u = nPut M 3 (nI 1)) ∨ (∃ k, k < B.2 0 ∧ x = nI k ∧ isEst y.toInt = false ∧ r = nI 0 ∧ u = nPut M 3 (nI 2)) ∨ (∃ k q, k < B.2 0 ∧ isEst (nI q : Int32).toInt = true ∧ x = nI k ∧ y = nI q ∧ B.1 1 k = 0 ∧ r = nI 0 ∧ u = nPut M 3 (nI 3))) 0 0 := by
  refine kI_of (by decide +kernel) (Nat.le_of_ble_eq_true rfl) ?_
  intro pg e s m args below meth c G hret hlocks hC hB h ls hl Q hQ
  have hl : lv_has ls 4 [(0, .ref (eX V 500)), (1, .int (x)), (2, .int (y))] := hl
  have hx := G.1
  have hcd := G.2.1
  have hI0 := hI
  obtain ⟨hz, hbn, hn, hm, h3, h54, h4, h7, hr, he, ha, hact, h5⟩ := hI
  refine lv_aload_n hx hcd dX4_reestimate_0 rfl (lv_at hl 0 rfl) ?_
  refine lv_aload_n hx hcd dX4_reestimate_1 rfl (lv_at hl 0 rfl) ?_
  refine lv_iload_n hx hcd dX4_reestimate_2 rfl (lv_at hl 1 rfl) ?_
  refine k_Vi (As := [.int (x)]) (rest := [.ref (eX V 500)]) (b := eX V 500) G hC hB h (met_X4_isStory l V M B hg hI0 x) mw_1564 kv_X4_isStory ⟨rfl, rfl⟩ ⟨Nat.le_of_ble_eq_true rfl, Nat.le_of_ble_eq_true rfl⟩ (r_mV hC h) rfl rfl hl.1 (Nat.le_of_ble_eq_true rfl) dX4_reestimate_3 ⟨Nat.le_of_ble_eq_true rfl, Nat.le_of_ble_eq_true rfl⟩ (fun r u H locs hp h => ?_)
  obtain ⟨hr9, hu9⟩ := hp
  rw [hu9] at h
  rcases bsp (inS (B.2 0) x) with c9 | c9
  · skip
    obtain rfl : r = nI 1 := (hr9.trans ((congrArg bz c9).trans (by decide)))
    obtain ⟨k, hk, rfl⟩ := inS_ex (by omega) c9
    refine lv_if_ne (tgt := 13) hx hcd dX4_reestimate_6 (by decide) (fun _ => ?_) (fun c_1 => absurd c_1 (by decide))
    refine lv_iload_n hx hcd dX4_reestimate_13 rfl (lv_at hl 2 rfl) ?_
    refine k_Si (As := [.int (y)]) (rest := [.ref (eX V 500)]) G hC hB h (met_X4_isEstimate l V M y) mw_1539 ks_X4_isEstimate ⟨rfl, rfl⟩ ⟨Nat.le_of_ble_eq_true rfl, Nat.le_of_ble_eq_true rfl⟩ rfl rfl hl.1 (Nat.le_of_ble_eq_true rfl) dX4_reestimate_14 ⟨Nat.le_of_ble_eq_true rfl, Nat.le_of_ble_eq_true rfl⟩ (fun r u H locs hp h => ?_)
    obtain ⟨hr9, hu9⟩ := hp
    rw [hu9] at h
    rcases bsp (isEst (y : Int32).toInt) with c9 | c9
    · skip
      obtain rfl : r = nI 1 := (hr9.trans ((congrArg bz c9).trans (by decide)))
      obtain ⟨q, rfl, hq1, hq2⟩ := isEst_ex c9
      refine lv_if_ne (tgt := 24) hx hcd dX4_reestimate_17 (by decide) (fun _ => ?_) (fun c_2 => absurd c_2 (by decide))
      refine lv_aload_n hx hcd dX4_reestimate_24 rfl (lv_at hl 0 rfl) ?_
      refine lv_iload_n hx hcd dX4_reestimate_25 rfl (lv_at hl 1 rfl) ?_
      refine k_Vi (As := [.int (nI (k))]) (rest := [.ref (eX V 500)]) (b := eX V 500) G hC hB h (met_X4_isOver l V M B hg hI0 k (by omega)) mw_1568 kv_X4_isOver ⟨rfl, rfl⟩ ⟨Nat.le_of_ble_eq_true rfl, Nat.le_of_ble_eq_true rfl⟩ (r_mV hC h) rfl rfl hl.1 (Nat.le_of_ble_eq_true rfl) dX4_reestimate_26 ⟨Nat.le_of_ble_eq_true rfl, Nat.le_of_ble_eq_true rfl⟩ (fun r u H locs hp h => ?_)
      obtain ⟨hr9, hu9⟩ := hp
      obtain rfl : r = bz (decide (B.1 1 k = 0)) := hr9
      rw [hu9] at h
      refine lv_if_eq (tgt := 36) hx hcd dX4_reestimate_29 (by decide) (fun c_3 => ?_) (fun c_3 => ?_)
      · have c_3 := bz0 c_3
        have f_5 := of_decide_eq_false c_3
        refine lv_iconst (v := nI 0) hx hcd dX4_reestimate_36 (by decide) ?_
        refine k_Vi (As := [.int (nI 0)]) (rest := []) (b := eX V 500) G hC hB h (met_X4_fails l V M (nI 0)) mw_1545 kv_X4_fails ⟨rfl, rfl⟩ ⟨Nat.le_of_ble_eq_true rfl, Nat.le_of_ble_eq_true rfl⟩ (r_mV hC h) rfl rfl hl.1 (Nat.le_of_ble_eq_true rfl) dX4_reestimate_37 ⟨Nat.le_of_ble_eq_true rfl, Nat.le_of_ble_eq_true rfl⟩ (fun r u H locs hp h => ?_)
        obtain ⟨hr9, hu9⟩ := hp
        obtain rfl : r = nI 0 := (hr9.trans (by decide))
        rw [hu9] at h
        refine lv_if_eq (tgt := 45) hx hcd dX4_reestimate_40 (by decide) (fun _ => ?_) (fun c_6 => absurd c_6 (by decide))
        have c8 := c9
        refine lv_aload_n hx hcd dX4_reestimate_45 rfl (lv_at hl 0 rfl) ?_
        refine lv_aload_n hx hcd dX4_reestimate_46 rfl (lv_at hl 0 rfl) ?_
        refine r_mA G hC h 0 (by decide) mw_1472 dX4_reestimate_47 ?_
        refine k_Vv (As := [.ref (eX V (501 + 0))]) (rest := []) (b := eX V 500) G hC hB h (met_X4_keeps l V (nPut M 3 (nI 0)) 0 (Or.inl rfl) w hw hw2 c0 hc0 hc8) mw_1549 kv_X4_keeps ⟨rfl, rfl⟩ ⟨Nat.le_of_ble_eq_true rfl, Nat.le_of_ble_eq_true rfl⟩ (r_mV hC h) rfl rfl hl.1 (Nat.le_of_ble_eq_true rfl) dX4_reestimate_50 ⟨Nat.le_of_ble_eq_true rfl, Nat.le_of_ble_eq_true rfl⟩ (fun u H locs hp h => ?_)
        have hu9 := hp
        rw [hu9] at h
        have hg9 : (kpW (nPut M 3 (nI 0)) 0 w c0).2 0 = gOf B := (kpW_g _ _ _ _).trans hg
        refine lv_aload_n hx hcd dX4_reestimate_53 rfl (lv_at hl 0 rfl) ?_
        refine lv_iload_n hx hcd dX4_reestimate_54 rfl (lv_at hl 1 rfl) ?_
        refine lv_iconst (v := nI 0) hx hcd dX4_reestimate_55 (by decide) ?_
        refine k_Vi (As := [.int (nI (k)), .int (nI 0)]) (rest := []) (b := eX V 500) G hC hB h (met_X4_of l V (kpW (nPut M 3 (nI 0)) 0 w c0) k 0 (by omega) (by decide)) mw_1572 kv_X4_of ⟨rfl, rfl⟩ ⟨Nat.le_of_ble_eq_true rfl, Nat.le_of_ble_eq_true rfl⟩ (r_mV hC h) rfl rfl hl.1 (Nat.le_of_ble_eq_true rfl) dX4_reestimate_56 ⟨Nat.le_of_ble_eq_true rfl, Nat.le_of_ble_eq_true rfl⟩ (fun r u H locs hp h => ?_)
        obtain ⟨hr9, hu9⟩ := hp
        obtain rfl : r = nI (B.1 0 k) := (hr9.trans (gOf_s hg9 hn (k := k) (w := 0) (by omega) (by decide)))
        rw [hu9] at h
        have q_7 := hz.1 0 k
        refine lv_aload_n hx hcd dX4_reestimate_59 rfl (lv_at hl 0 rfl) ?_
        refine lv_iload_n hx hcd dX4_reestimate_60 rfl (lv_at hl 1 rfl) ?_
        refine lv_iconst (v := nI 1) hx hcd dX4_reestimate_61 (by decide) ?_
        refine k_Vi (As := [.int (nI (k)), .int (nI 1)]) (rest := [.int (nI (B.1 0 k))]) (b := eX V 500) G hC hB h (met_X4_of l V (kpW (nPut M 3 (nI 0)) 0 w c0) k 1 (by omega) (by decide)) mw_1572 kv_X4_of ⟨rfl, rfl⟩ ⟨Nat.le_of_ble_eq_true rfl, Nat.le_of_ble_eq_true rfl⟩ (r_mV hC h) rfl rfl hl.1 (Nat.le_of_ble_eq_true rfl) dX4_reestimate_62 ⟨Nat.le_of_ble_eq_true rfl, Nat.le_of_ble_eq_true rfl⟩ (fun r u H locs hp h => ?_)
        obtain ⟨hr9, hu9⟩ := hp
        obtain rfl : r = nI (B.1 1 k) := (hr9.trans (gOf_s hg9 hn (k := k) (w := 1) (by omega) (by decide)))
        rw [hu9] at h
        have q_8 := hz.1 1 k
        have hrk := hr k
        have hek := he k
        refine w_isub (v := nI ((B.1 0 k) - (B.1 1 k))) hx hcd dX4_reestimate_65 (pk_sub (by omega)) ?_
        refine lv_istore_n (lv' := [(3, .int (nI ((B.1 0 k) - (B.1 1 k)))), (0, .ref (eX V 500)), (1, .int (nI (k))), (2, .int (nI (q)))]) hx hcd dX4_reestimate_66 rfl hl (by decide) rfl (fun ls hl => ?_)
        refine lv_aload_n hx hcd dX4_reestimate_67 rfl (lv_at hl 1 rfl) ?_
        refine lv_iload_n hx hcd dX4_reestimate_68 rfl (lv_at hl 2 rfl) ?_
        refine lv_iconst (v := nI 0) hx hcd dX4_reestimate_69 (by decide) ?_
        refine lv_iload_n hx hcd dX4_reestimate_70 rfl (lv_at hl 3 rfl) ?_
        refine k_Vv (As := [.int (nI (k)), .int (nI 0), .int (nI (q))]) (rest := []) (b := eX V 500) G hC hB h (met_X4_lays l V (kpW (nPut M 3 (nI 0)) 0 w c0) k 0 (nI (q)) (by omega) (by decide)) mw_1556 kv_X4_lays ⟨rfl, rfl⟩ ⟨Nat.le_of_ble_eq_true rfl, Nat.le_of_ble_eq_true rfl⟩ (r_mV hC h) rfl rfl hl.1 (Nat.le_of_ble_eq_true rfl) dX4_reestimate_71 ⟨Nat.le_of_ble_eq_true rfl, Nat.le_of_ble_eq_true rfl⟩ (fun u H locs hp h => ?_)
        have hu9 := hp
        rw [hu9] at h
        refine lv_aload_n hx hcd dX4_reestimate_74 rfl (lv_at hl 1 rfl) ?_
        refine lv_iload_n hx hcd dX4_reestimate_75 rfl (lv_at hl 2 rfl) ?_
        refine lv_iconst (v := nI 1) hx hcd dX4_reestimate_76 (by decide) ?_
        refine lv_iload_n hx hcd dX4_reestimate_77 rfl (lv_at hl 3 rfl) ?_
        refine lv_iload_n hx hcd dX4_reestimate_78 rfl (lv_at hl 0 rfl) ?_
        refine lv_iload_n hx hcd dX4_reestimate_79 rfl (lv_at hl 3 rfl) ?_
        refine k_Si (As := [.int (nI ((B.1 0 k) - (B.1 1 k))), .int (nI (q))]) (rest := [.int (nI (q)), .int (nI 1), .int (nI (k)), .ref (eX V 500)]) G hC hB h (met_X4_least l V (gPut (kpW (nPut M 3 (nI 0)) 0 w c0) 0 (7 + 5 * k + 0) (nI (q))) (nI ((B.1 0 k) - (B.1 1 k))) (nI (q))) mw_1576 ks_X4_least ⟨rfl, rfl⟩ ⟨Nat.le_of_ble_eq_true rfl, Nat.le_of_ble_eq_true rfl⟩ rfl rfl hl.1 (Nat.le_of_ble_eq_true rfl) dX4_reestimate_80 ⟨Nat.le_of_ble_eq_true rfl, Nat.le_of_ble_eq_true rfl⟩ (fun r u H locs hp h => ?_)
        obtain ⟨hr9, hu9⟩ := hp
        obtain rfl : r = nI (min ((B.1 0 k) - (B.1 1 k)) q) := (hr9.trans (n_least (by omega) (by omega)))
        rw [hu9] at h
        refine w_isub (v := nI (q - (min ((B.1 0 k) - (B.1 1 k)) q))) hx hcd dX4_reestimate_83 (pk_sub (by omega)) ?_
        refine k_Vv (As := [.int (nI (k)), .int (nI 1), .int (nI (q - (min ((B.1 0 k) - (B.1 1 k)) q)))]) (rest := []) (b := eX V 500) G hC hB h (met_X4_lays l V (gPut (kpW (nPut M 3 (nI 0)) 0 w c0) 0 (7 + 5 * k + 0) (nI (q))) k 1 (nI (q - (min ((B.1 0 k) - (B.1 1 k)) q))) (by omega) (by decide)) mw_1556 kv_X4_lays ⟨rfl, rfl⟩ ⟨Nat.le_of_ble_eq_true rfl, Nat.le_of_ble_eq_true rfl⟩ (r_mV hC h) rfl rfl hl.1 (Nat.le_of_ble_eq_true rfl) dX4_reestimate_84 ⟨Nat.le_of_ble_eq_true rfl, Nat.le_of_ble_eq_true rfl⟩ (fun u H locs hp h => ?_)
        have hu9 := hp
        rw [hu9] at h
        rw [setG_of hg9 (upd_pts q hk hn), setG_up (upd_left _ (show k < (bSet B 0 k q).2 0 from hk) hn)] at h
        obtain ⟨B2, hB2⟩ : ∃ z, z = bSet (bSet B 0 k q) 1 k (q - min (B.1 0 k - B.1 1 k) q) := ⟨_, rfl⟩
        rw [← hB2] at h
        have hIB2 : bI B2 := by rw [hB2]; exact bI_re1 hI0 hk hq2
        have hgB2 : (setG (kpW (nPut M 3 (nI 0)) 0 w c0) B2).2 0 = gOf B2 := setG_g _ _
        have hk2 : k < B2.2 0 := by rw [hB2]; exact hk
        have hJB2 := hIB2
        obtain ⟨hz, hbn, hn, hm, h3, h54, h4, h7, hr, he, ha, hact, h5⟩ := hJB2
        refine lv_aload_n hx hcd dX4_reestimate_87 rfl (lv_at hl 1 rfl) ?_
        refine lv_iload_n hx hcd dX4_reestimate_88 rfl (lv_at hl 2 rfl) ?_
        refine k_Vi (As := [.int (nI (k))]) (rest := []) (b := eX V 500) G hC hB h (met_X4_isOver l V (setG (kpW (nPut M 3 (nI 0)) 0 w c0) B2) B2 hgB2 hIB2 k (by omega)) mw_1568 kv_X4_isOver ⟨rfl, rfl⟩ ⟨Nat.le_of_ble_eq_true rfl, Nat.le_of_ble_eq_true rfl⟩ (r_mV hC h) rfl rfl hl.1 (Nat.le_of_ble_eq_true rfl) dX4_reestimate_89 ⟨Nat.le_of_ble_eq_true rfl, Nat.le_of_ble_eq_true rfl⟩ (fun r u H locs hp h => ?_)
        obtain ⟨hr9, hu9⟩ := hp
        obtain rfl : r = bz (decide (B2.1 1 k = 0)) := hr9
        rw [hu9] at h
        refine lv_if_eq (tgt := 114) hx hcd dX4_reestimate_92 (by decide) (fun c_11 => ?_) (fun c_11 => ?_)
        · have c_11 := bz0 c_11
          have f_13 := of_decide_eq_false c_11
          refine lv_aload_n hx hcd dX4_reestimate_114 rfl (lv_at hl 1 rfl) ?_
          refine lv_iload_n hx hcd dX4_reestimate_115 rfl (lv_at hl 2 rfl) ?_
          refine lv_iconst (v := nI 1) hx hcd dX4_reestimate_116 (by decide) ?_
          refine k_Vi (As := [.int (nI (k)), .int (nI 1)]) (rest := []) (b := eX V 500) G hC hB h (met_X4_of l V (setG (kpW (nPut M 3 (nI 0)) 0 w c0) B2) k 1 (by omega) (by decide)) mw_1572 kv_X4_of ⟨rfl, rfl⟩ ⟨Nat.le_of_ble_eq_true rfl, Nat.le_of_ble_eq_true rfl⟩ (r_mV hC h) rfl rfl hl.1 (Nat.le_of_ble_eq_true rfl) dX4_reestimate_117 ⟨Nat.le_of_ble_eq_true rfl, Nat.le_of_ble_eq_true rfl⟩ (fun r u H locs hp h => ?_)
          obtain ⟨hr9, hu9⟩ := hp
          obtain rfl : r = nI (B2.1 1 k) := (hr9.trans (gOf_s hgB2 hn (k := k) (w := 1) (by omega) (by decide)))
          rw [hu9] at h
          have q_14 := hz.1 1 k
          have heq : B2 = reB B k q := by
            have z1 : ¬ (q - min (B.1 0 k - B.1 1 k) q = 0 ∧ 0 < asgOf B k ∧ asgOf B k - 1 < B.2 1) := by
              have z3 : ¬ (B2.1 1 k = 0 ∧ 0 < asgOf B2 k) := by omega
              rw [hB2, bS1, if_pos ⟨rfl, rfl⟩] at z3
              exact fun z => z3 ⟨z.1, z.2.1⟩
            unfold reB
            rw [if_neg z1]
            exact hB2
          exact k_reti hQ G hret hlocks h (Or.inl ⟨k, q, hk, c8, hq2, rfl, rfl, by omega, by rw [← heq], by rw [← heq]⟩) (Nat.le_of_ble_eq_true rfl) (Nat.le_of_ble_eq_true rfl) dX4_reestimate_120
        · have c_11 := bz1 c_11
          have f_12 := of_decide_eq_true c_11
          refine lv_aload_n hx hcd dX4_reestimate_95 rfl (lv_at hl 1 rfl) ?_
          refine lv_iload_n hx hcd dX4_reestimate_96 rfl (lv_at hl 2 rfl) ?_
          refine lv_iconst (v := nI 3) hx hcd dX4_reestimate_97 (by decide) ?_
          refine k_Vi (As := [.int (nI (k)), .int (nI 3)]) (rest := []) (b := eX V 500) G hC hB h (met_X4_of l V (setG (kpW (nPut M 3 (nI 0)) 0 w c0) B2) k 3 (by omega) (by decide)) mw_1572 kv_X4_of ⟨rfl, rfl⟩ ⟨Nat.le_of_ble_eq_true rfl, Nat.le_of_ble_eq_true rfl⟩ (r_mV hC h) rfl rfl hl.1 (Nat.le_of_ble_eq_true rfl) dX4_reestimate_98 ⟨Nat.le_of_ble_eq_true rfl, Nat.le_of_ble_eq_true rfl⟩ (fun r u H locs hp h => ?_)
          obtain ⟨hr9, hu9⟩ := hp
          obtain rfl : r = nI (asgOf B2 k) - 1 := (hr9.trans (gOf_s hgB2 hn (k := k) (w := 3) (by omega) (by decide)))
          rw [hu9] at h
          have q_15 := asgOf_le B2 k
          refine lv_if_lt (tgt := 114) hx hcd dX4_reestimate_101 (by decide) (fun c_16 => ?_) (fun c_16 => ?_)
          · have c_16 := cLt (tA (n := asgOf B2 k) (by omega)) t0 c_16
            refine lv_aload_n hx hcd dX4_reestimate_114 rfl (lv_at hl 1 rfl) ?_
            refine lv_iload_n hx hcd dX4_reestimate_115 rfl (lv_at hl 2 rfl) ?_
            refine lv_iconst (v := nI 1) hx hcd dX4_reestimate_116 (by decide) ?_
            refine k_Vi (As := [.int (nI (k)), .int (nI 1)]) (rest := []) (b := eX V 500) G hC hB h (met_X4_of l V (setG (kpW (nPut M 3 (nI 0)) 0 w c0) B2) k 1 (by omega) (by decide)) mw_1572 kv_X4_of ⟨rfl, rfl⟩ ⟨Nat.le_of_ble_eq_true rfl, Nat.le_of_ble_eq_true rfl⟩ (r_mV hC h) rfl rfl hl.1 (Nat.le_of_ble_eq_true rfl) dX4_reestimate_117 ⟨Nat.le_of_ble_eq_true rfl, Nat.le_of_ble_eq_true rfl⟩ (fun r u H locs hp h => ?_)
            obtain ⟨hr9, hu9⟩ := hp
            obtain rfl : r = nI (B2.1 1 k) := (hr9.trans (gOf_s hgB2 hn (k := k) (w := 1) (by omega) (by decide)))
            rw [hu9] at h
            have q_17 := hz.1 1 k
            have heq : B2 = reB B k q := by
              have z1 : ¬ (q - min (B.1 0 k - B.1 1 k) q = 0 ∧ 0 < asgOf B k ∧ asgOf B k - 1 < B.2 1) := by
                have z3 : ¬ (B2.1 1 k = 0 ∧ 0 < asgOf B2 k) := by omega
                rw [hB2, bS1, if_pos ⟨rfl, rfl⟩] at z3
                exact fun z => z3 ⟨z.1, z.2.1⟩
              unfold reB
              rw [if_neg z1]
              exact hB2
            exact k_reti hQ G hret hlocks h (Or.inl ⟨k, q, hk, c8, hq2, rfl, rfl, by omega, by rw [← heq], by rw [← heq]⟩) (Nat.le_of_ble_eq_true rfl) (Nat.le_of_ble_eq_true rfl) dX4_reestimate_120
          · have c_16 := cNlt (tA (n := asgOf B2 k) (by omega)) t0 c_16
            refine lv_aload_n hx hcd dX4_reestimate_104 rfl (lv_at hl 1 rfl) ?_
            refine lv_aload_n hx hcd dX4_reestimate_105 rfl (lv_at hl 1 rfl) ?_
            refine lv_iload_n hx hcd dX4_reestimate_106 rfl (lv_at hl 2 rfl) ?_
            refine lv_iconst (v := nI 3) hx hcd dX4_reestimate_107 (by decide) ?_
            refine k_Vi (As := [.int (nI (k)), .int (nI 3)]) (rest := [.ref (eX V 500)]) (b := eX V 500) G hC hB h (met_X4_of l V (setG (kpW (nPut M 3 (nI 0)) 0 w c0) B2) k 3 (by omega) (by decide)) mw_1572 kv_X4_of ⟨rfl, rfl⟩ ⟨Nat.le_of_ble_eq_true rfl, Nat.le_of_ble_eq_true rfl⟩ (r_mV hC h) rfl rfl hl.1 (Nat.le_of_ble_eq_true rfl) dX4_reestimate_108 ⟨Nat.le_of_ble_eq_true rfl, Nat.le_of_ble_eq_true rfl⟩ (fun r u H locs hp h => ?_)
            obtain ⟨hr9, hu9⟩ := hp
            obtain rfl : r = nI (asgOf B2 k) - 1 := (hr9.trans (gOf_s hgB2 hn (k := k) (w := 3) (by omega) (by decide)))
            rw [hu9] at h
            have q_18 := asgOf_le B2 k
            obtain ⟨ho1, ho2⟩ := asgOf_is (B := B2) (k := k) (by omega)
            have hv2 : bV B2 := by rw [hB2]; exact hv
            have hu2 : bU B2 := by rw [hB2]; exact hu
            have hod : asgOf B2 k - 1 < B2.2 1 := by
              rcases Nat.lt_or_ge (asgOf B2 k - 1) (B2.2 1) with z | z
              · exact z
              · exact absurd (hv2 _ z) (by omega)
            refine lv_topi (fun z_19 e_z_19 => ?_)
            obtain rfl : z_19 = nI ((asgOf B2 k) - 1) := by rw [e_z_19]; exact pk_sub (b := 1) (by omega)
            refine k_Vv (As := [.int (nI ((asgOf B2 k) - 1))]) (rest := []) (b := eX V 500) G hC hB h (met_X4_frees l V (setG (kpW (nPut M 3 (nI 0)) 0 w c0) B2) B2 hgB2 hIB2 hu2 ((asgOf B2 k) - 1) (by omega) (by omega)) mw_1579 kv_X4_frees ⟨rfl, rfl⟩ ⟨Nat.le_of_ble_eq_true rfl, Nat.le_of_ble_eq_true rfl⟩ (r_mV hC h) rfl rfl hl.1 (Nat.le_of_ble_eq_true rfl) dX4_reestimate_111 ⟨Nat.le_of_ble_eq_true rfl, Nat.le_of_ble_eq_true rfl⟩ (fun u H locs hp h => ?_)
            have hu9 := hp
            rw [hu9] at h
            rw [setG_setG] at h
            obtain ⟨B3, hB3⟩ : ∃ z, z = bSet B2 4 ((asgOf B2 k) - 1) 0 := ⟨_, rfl⟩
            rw [← hB3] at h
            have hIB3 : bI B3 := by rw [hB3]; exact bI_asg hIB2 (by omega) (Nat.zero_le _)
            have hgB3 : (setG (kpW (nPut M 3 (nI 0)) 0 w c0) B3).2 0 = gOf B3 := setG_g _ _
            have hk3 : k < B3.2 0 := by rw [hB3]; exact hk2
            have hJB3 := hIB3
            obtain ⟨hz, hbn, hn, hm, h3, h54, h4, h7, hr, he, ha, hact, h5⟩ := hJB3
            refine lv_aload_n hx hcd dX4_reestimate_114 rfl (lv_at hl 1 rfl) ?_
            refine lv_iload_n hx hcd dX4_reestimate_115 rfl (lv_at hl 2 rfl) ?_
            refine lv_iconst (v := nI 1) hx hcd dX4_reestimate_116 (by decide) ?_
            refine k_Vi (As := [.int (nI (k)), .int (nI 1)]) (rest := []) (b := eX V 500) G hC hB h (met_X4_of l V (setG (kpW (nPut M 3 (nI 0)) 0 w c0) B3) k 1 (by omega) (by decide)) mw_1572 kv_X4_of ⟨rfl, rfl⟩ ⟨Nat.le_of_ble_eq_true rfl, Nat.le_of_ble_eq_true rfl⟩ (r_mV hC h) rfl rfl hl.1 (Nat.le_of_ble_eq_true rfl) dX4_reestimate_117 ⟨Nat.le_of_ble_eq_true rfl, Nat.le_of_ble_eq_true rfl⟩ (fun r u H locs hp h => ?_)
            obtain ⟨hr9, hu9⟩ := hp
            obtain rfl : r = nI (B3.1 1 k) := (hr9.trans (gOf_s hgB3 hn (k := k) (w := 1) (by omega) (by decide)))
            rw [hu9] at h
            have q_20 := hz.1 1 k
            have heq : B3 = reB B k q := by
              have z1 : q - min (B.1 0 k - B.1 1 k) q = 0 ∧ 0 < asgOf B k ∧ asgOf B k - 1 < B.2 1 := by
                have z2 : asgOf B2 k ≠ 0 := by omega
                have z3 : B2.1 1 k = 0 := by omega
                have z4 := hod
                rw [hB2] at z2 z3 z4
                rw [bS1, if_pos ⟨rfl, rfl⟩] at z3
                exact ⟨z3, Nat.pos_of_ne_zero z2, z4⟩
              unfold reB
              rw [if_pos z1]
              subst hB3; subst hB2; rfl
            exact k_reti hQ G hret hlocks h (Or.inl ⟨k, q, hk, c8, hq2, rfl, rfl, by omega, by rw [← heq], by rw [← heq]⟩) (Nat.le_of_ble_eq_true rfl) (Nat.le_of_ble_eq_true rfl) dX4_reestimate_120
      · have c_3 := bz1 c_3
        have f_4 := of_decide_eq_true c_3
        refine lv_iconst (v := nI 3) hx hcd dX4_reestimate_32 (by decide) ?_
        refine lv_goto (tgt := 37) hx hcd dX4_reestimate_33 (by decide) ?_
        refine k_Vi (As := [.int (nI 3)]) (rest := []) (b := eX V 500) G hC hB h (met_X4_fails l V M (nI 3)) mw_1545 kv_X4_fails ⟨rfl, rfl⟩ ⟨Nat.le_of_ble_eq_true rfl, Nat.le_of_ble_eq_true rfl⟩ (r_mV hC h) rfl rfl hl.1 (Nat.le_of_ble_eq_true rfl) dX4_reestimate_37 ⟨Nat.le_of_ble_eq_true rfl, Nat.le_of_ble_eq_true rfl⟩ (fun r u H locs hp h => ?_)
        obtain ⟨hr9, hu9⟩ := hp
        obtain rfl : r = nI 1 := (hr9.trans (by decide))
        rw [hu9] at h
        refine lv_if_eq (tgt := 45) hx hcd dX4_reestimate_40 (by decide) (fun c_21 => absurd c_21 (by decide)) (fun _ => ?_)
        refine lv_iconst (v := nI 0) hx hcd dX4_reestimate_43 (by decide) ?_
        exact k_reti hQ G hret hlocks h (Or.inr (Or.inr (Or.inr ⟨k, q, hk, c9, rfl, rfl, by omega, rfl, rfl⟩))) (Nat.le_of_ble_eq_true rfl) (Nat.le_of_ble_eq_true rfl) dX4_reestimate_44
    · skip
      obtain rfl : r = nI 0 := (hr9.trans ((congrArg bz c9).trans (by decide)))
      refine lv_if_ne (tgt := 24) hx hcd dX4_reestimate_17 (by decide) (fun c_22 => absurd c_22 (by decide)) (fun _ => ?_)
      refine lv_iconst (v := nI 2) hx hcd dX4_reestimate_20 (by decide) ?_
      refine lv_goto (tgt := 37) hx hcd dX4_reestimate_21 (by decide) ?_
      refine k_Vi (As := [.int (nI 2)]) (rest := []) (b := eX V 500) G hC hB h (met_X4_fails l V M (nI 2)) mw_1545 kv_X4_fails ⟨rfl, rfl⟩ ⟨Nat.le_of_ble_eq_true rfl, Nat.le_of_ble_eq_true rfl⟩ (r_mV hC h) rfl rfl hl.1 (Nat.le_of_ble_eq_true rfl) dX4_reestimate_37 ⟨Nat.le_of_ble_eq_true rfl, Nat.le_of_ble_eq_true rfl⟩ (fun r u H locs hp h => ?_)
      obtain ⟨hr9, hu9⟩ := hp
      obtain rfl : r = nI 1 := (hr9.trans (by decide))
      rw [hu9] at h
      refine lv_if_eq (tgt := 45) hx hcd dX4_reestimate_40 (by decide) (fun c_23 => absurd c_23 (by decide)) (fun _ => ?_)
      refine lv_iconst (v := nI 0) hx hcd dX4_reestimate_43 (by decide) ?_
      exact k_reti hQ G hret hlocks h (Or.inr (Or.inr (Or.inl ⟨k, hk, rfl, c9, rfl, rfl⟩))) (Nat.le_of_ble_eq_true rfl) (Nat.le_of_ble_eq_true rfl) dX4_reestimate_44
  · skip
    obtain rfl : r = nI 0 := (hr9.trans ((congrArg bz c9).trans (by decide)))
    refine lv_if_ne (tgt := 13) hx hcd dX4_reestimate_6 (by decide) (fun c_24 => absurd c_24 (by decide)) (fun _ => ?_)
    refine lv_iconst (v := nI 1) hx hcd dX4_reestimate_9 (by decide) ?_
    refine lv_goto (tgt := 37) hx hcd dX4_reestimate_10 (by decide) ?_
    refine k_Vi (As := [.int (nI 1)]) (rest := []) (b := eX V 500) G hC hB h (met_X4_fails l V M (nI 1)) mw_1545 kv_X4_fails ⟨rfl, rfl⟩ ⟨Nat.le_of_ble_eq_true rfl, Nat.le_of_ble_eq_true rfl⟩ (r_mV hC h) rfl rfl hl.1 (Nat.le_of_ble_eq_true rfl) dX4_reestimate_37 ⟨Nat.le_of_ble_eq_true rfl, Nat.le_of_ble_eq_true rfl⟩ (fun r u H locs hp h => ?_)
    obtain ⟨hr9, hu9⟩ := hp
    obtain rfl : r = nI 1 := (hr9.trans (by decide))
    rw [hu9] at h
    refine lv_if_eq (tgt := 45) hx hcd dX4_reestimate_40 (by decide) (fun c_25 => absurd c_25 (by decide)) (fun _ => ?_)
    refine lv_iconst (v := nI 0) hx hcd dX4_reestimate_43 (by decide) ?_
    exact k_reti hQ G hret hlocks h (Or.inr (Or.inl ⟨c9, rfl, rfl⟩)) (Nat.le_of_ble_eq_true rfl) (Nat.le_of_ble_eq_true rfl) dX4_reestimate_44
