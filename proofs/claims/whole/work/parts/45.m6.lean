/-! THE REFERENCE: people freed, sprints begun. -/
/-- no two developers work on one story -/
def bU (B : kBd) : Prop := ∀ d d', d < 4 → d' < 4 → B.1 4 d ≠ 0 → B.1 4 d = B.1 4 d' → d = d'
theorem setG2_of {X : kMs} {B B' : kBd} {j j' : Nat} {v v' : Int32} (hX : X.2 0 = gOf B) (h : upd (upd (gOf B) j v) j' v' = gOf B') : gPut (gPut X 0 j v) 0 j' v' = setG X B' := by
  have e : (gPut X 0 j v).2 0 = upd (X.2 0) j v := rfl
  unfold gPut setG
  refine Prod.ext rfl (funext fun r => ?_)
  show va_up (va_up X.2 0 (upd (X.2 0) j v)) 0 (upd ((va_up X.2 0 (upd (X.2 0) j v)) 0) j' v') r = va_up X.2 0 (gOf B') r
  rw [show va_up X.2 0 (upd (X.2 0) j v) 0 = upd (X.2 0) j v from rfl, hX, h]
  simp only [va_up]
  by_cases h : r = 0
  · rw [if_pos h, if_pos h]
  · rw [if_neg h, if_neg h, if_neg h]
theorem asgOf_off {B : kBd} {d k : Nat} (hd : d < 4) (h : B.1 4 d ≠ k + 1) : asgOf (bSet B 4 d 0) k = asgOf B k := by
  have e : ∀ c, (bSet B 4 d 0).1 4 c = if c = d then 0 else B.1 4 c := by
    intro c
    rw [bS1]
    by_cases hc : c = d
    · rw [if_pos ⟨rfl, hc⟩, if_pos hc]
    · rw [if_neg (fun z => hc z.2), if_neg hc]
  unfold asgOf
  simp only [e]
  match d, hd with
  | 0, _ => simp [h]
  | 1, _ => simp [h]
  | 2, _ => simp [h]
  | 3, _ => simp [h]
theorem asgOf_gone {B : kBd} {d k : Nat} (hu : bU B) (hd : d < 4) (h : B.1 4 d = k + 1) : asgOf (bSet B 4 d 0) k = 0 := by
  have e : ∀ c, c < 4 → (bSet B 4 d 0).1 4 c ≠ k + 1 := by
    intro c hc z
    rw [bS1] at z
    by_cases hcd : c = d
    · rw [if_pos ⟨rfl, hcd⟩] at z; omega
    · rw [if_neg (fun z => hcd z.2)] at z
      exact hcd (hu d c hd hc (by omega) (by omega)).symm
  unfold asgOf
  rw [if_neg (e 0 (by decide)), if_neg (e 1 (by decide)), if_neg (e 2 (by decide)), if_neg (e 3 (by decide))]
theorem upd_free {B : kBd} {d : Nat} (hu : bU B) (hn : B.2 0 ≤ 16) (hm : B.2 1 ≤ 4) (hd : d < B.2 1) (ht : B.1 4 d ≠ 0) (ha : B.1 4 d ≤ B.2 0) : upd (upd (gOf B) (7 + 5 * (B.1 4 d - 1) + 3) (-1)) (87 + 2 * d + 1) (-1) = gOf (bSet B 4 d 0) := by
  have e0 : (-1 : Int32) = nI 0 - 1 := a0.symm
  funext j
  show (if j = 87 + 2 * d + 1 then (-1 : Int32) else if j = 7 + 5 * (B.1 4 d - 1) + 3 then (-1 : Int32) else gOf B j) = gOf (bSet B 4 d 0) j
  unfold gOf
  rw [bS2]
  by_cases c1 : j < 7
  · rw [if_neg (by omega), if_neg (by omega), if_pos c1, if_pos c1]
  · by_cases c2 : j < 87
    · rw [if_neg (by omega)]
      simp only [if_neg c1, if_pos c2]
      by_cases c3 : (j - 7) / 5 < B.2 0
      · simp only [if_pos c3]
        by_cases c4 : j = 7 + 5 * (B.1 4 d - 1) + 3
        · rw [if_pos c4, c4, show (7 + 5 * (B.1 4 d - 1) + 3 - 7) / 5 = B.1 4 d - 1 by omega, show (7 + 5 * (B.1 4 d - 1) + 3 - 7) % 5 = 3 by omega]
          show (-1 : Int32) = nI (asgOf (bSet B 4 d 0) (B.1 4 d - 1)) - 1
          rw [asgOf_gone hu (by omega) (by omega)]
          exact e0
        · rw [if_neg c4]
          have hw : (j - 7) % 5 < 5 := Nat.mod_lt _ (by decide)
          generalize hk : (j - 7) / 5 = k at c3 ⊢
          generalize hv : (j - 7) % 5 = w at hw ⊢
          match w, hw with
          | 0, _ => rfl
          | 1, _ => rfl
          | 2, _ => rfl
          | 3, _ =>
            show nI (asgOf B k) - 1 = nI (asgOf (bSet B 4 d 0) k) - 1
            rw [asgOf_off (by omega) (fun z => c4 (by omega))]
          | 4, _ => rfl
      · simp only [if_neg c3]
        rw [if_neg (fun z => c3 (by omega))]
    · simp only [if_neg c1, if_neg c2]
      rw [if_neg (show ¬ j = 7 + 5 * (B.1 4 d - 1) + 3 by omega)]
      by_cases c3 : j < 95
      · simp only [if_pos c3]
        by_cases c4 : (j - 87) / 2 < B.2 1
        · simp only [if_pos c4]
          by_cases c5 : j = 87 + 2 * d + 1
          · rw [if_pos c5, c5, show (87 + 2 * d + 1 - 87) / 2 = d by omega, show (87 + 2 * d + 1 - 87) % 2 = 1 by omega, if_neg (by decide), bS1, if_pos ⟨rfl, rfl⟩]
            exact e0
          · rw [if_neg c5]
            by_cases c6 : (j - 87) % 2 = 0
            · rw [if_pos c6, if_pos c6]; rfl
            · rw [if_neg c6, if_neg c6, bS1, if_neg (fun z => c5 (by omega))]
        · simp only [if_neg c4]
          rw [if_neg (fun z => c4 (by omega))]
      · simp only [if_neg c3]
        rw [if_neg (by omega)]
        rfl
/-- the sprint begun, as the reference sums -/
def begS (B : kBd) (q : Nat) : kBd := bSet (bPut (bPut (bPut (bPut B 3 1) 4 q) 5 0) 6 (plS (bPut (bPut (bPut B 3 1) 4 q) 5 0) 0)) 5 0 (plS (bPut (bPut (bPut (bPut B 3 1) 4 q) 5 0) 6 (plS (bPut (bPut (bPut B 3 1) 4 q) 5 0) 0)) 1)
theorem bI_beg1 {B : kBd} (h : bI B) {q : Nat} (hq : q ≤ 10) (h7 : B.2 7 < 9) : bI (bPut (bPut (bPut B 3 1) 4 q) 5 0) := by
  obtain ⟨hz, hbn, hn, hm, h3, g54, h4, g7, hr, he, ha, hact, h5⟩ := h
  exact ⟨kSm_put (kSm_put (kSm_put hz 3 (by decide)) 4 (by omega)) 5 (by decide), bN_put (bN_put (bN_put hbn (by decide) _) (by decide) _) (by decide) _, hn, hm, (by show 1 < 2; decide), Nat.zero_le _, hq, g7, hr, he, ha, (fun _ => h7), h5⟩
theorem bI_begun {B : kBd} (h : bI B) {v : Nat} (hv : v ≤ 208) : bI (bPut B 6 v) := by
  obtain ⟨hz, hbn, hn, hm, h3, g54, h4, g7, hr, he, ha, hact, h5⟩ := h
  exact ⟨kSm_put hz 6 (by omega), bN_put hbn (by decide) _, hn, hm, h3, g54, h4, g7, hr, he, ha, hact, h5⟩
theorem kv_X4_frees : kV yX4_frees cX4_frees 2 none 1 := ⟨mw_1581, mw_26, mw_64, mw_1582, by decide, by decide, by decide +kernel⟩
set_option maxHeartbeats 4000000 in
set_option maxRecDepth 100000 in
/-- frees(d) -/
theorem met_X4_frees (l : Launch) (V : kEnv) (M : kMs) (B : kBd) (hg : M.2 0 = gOf B) (hI : bI B) (hu : bU B) (d : Nat) (hd : d < B.2 1) (ht : B.1 4 d ≠ 0) : kU l yX4_frees cX4_frees 2 { frames := 1, cells := 0, slots := 0, locals := 23 } V (mWs V) [.ref (eX V 500), .int (nI (d))] (M) (fun u => u = setG M (bSet B 4 d 0)) 0 0 := by
  refine kU_of (by decide +kernel) (Nat.le_of_ble_eq_true rfl) ?_
  intro pg e s m args below meth c G hret hlocks hC hB h ls hl Q hQ
  have hl : lv_has ls 2 [(0, .ref (eX V 500)), (1, .int (nI (d)))] := hl
  have hx := G.1
  have hcd := G.2.1
  have hI0 := hI
  obtain ⟨hz, hbn, hn, hm, h3, h54, h4, h7, hr, he, ha, hact, h5⟩ := hI
  have had := ha d
  refine lv_aload_n hx hcd dX4_frees_0 rfl (lv_at hl 0 rfl) ?_
  refine lv_aload_n hx hcd dX4_frees_1 rfl (lv_at hl 0 rfl) ?_
  refine r_mA G hC h 0 (by decide) mw_1472 dX4_frees_2 ?_
  refine lv_bipush (v := nI 87) hx hcd dX4_frees_5 (by decide) ?_
  refine lv_iconst (v := nI 2) hx hcd dX4_frees_7 (by decide) ?_
  refine lv_iload_n hx hcd dX4_frees_8 rfl (lv_at hl 1 rfl) ?_
  refine w_imul (v := nI (2 * d)) hx hcd dX4_frees_9 (pk_mul _ _) ?_
  refine w_iadd (v := nI (87 + (2 * d))) hx hcd dX4_frees_10 (nI_add _ _) ?_
  refine lv_iconst (v := nI 1) hx hcd dX4_frees_11 (by decide) ?_
  refine w_iadd (v := nI ((87 + (2 * d)) + 1)) hx hcd dX4_frees_12 (nI_add _ _) ?_
  refine r_mL G hC h 0 ((87 + (2 * d)) + 1) (by decide) (by decide) rfl (show (87 + (2 * d)) + 1 < 115 by omega) (x := nI (B.1 4 d) - 1) (gOf_p1 hg hm (d := d) (by omega)) dX4_frees_13 ?_
  have q_4 := hz.1 4 d
  refine lv_topi (fun z_5 e_z_5 => ?_)
  obtain rfl : z_5 = nI ((B.1 4 d) - 1) := by rw [e_z_5]; exact pk_sub (b := 1) (by omega)
  refine lv_iconst (v := nI 3) hx hcd dX4_frees_14 (by decide) ?_
  refine lv_iconst (v := -1) hx hcd dX4_frees_15 (by decide) ?_
  refine k_Vv (As := [.int (nI ((B.1 4 d) - 1)), .int (nI 3), .int (-1)]) (rest := []) (b := eX V 500) G hC hB h (met_X4_lays l V M ((B.1 4 d) - 1) 3 (-1) (by omega) (by decide)) mw_1556 kv_X4_lays ⟨rfl, rfl⟩ ⟨Nat.le_of_ble_eq_true rfl, Nat.le_of_ble_eq_true rfl⟩ (r_mV hC h) rfl rfl hl.1 (Nat.le_of_ble_eq_true rfl) dX4_frees_16 ⟨Nat.le_of_ble_eq_true rfl, Nat.le_of_ble_eq_true rfl⟩ (fun u H locs hp h => ?_)
  have hu9 := hp
  rw [hu9] at h
  refine lv_aload_n hx hcd dX4_frees_19 rfl (lv_at hl 0 rfl) ?_
  refine r_mA G hC h 0 (by decide) mw_1472 dX4_frees_20 ?_
  refine lv_bipush (v := nI 87) hx hcd dX4_frees_23 (by decide) ?_
  refine lv_iconst (v := nI 2) hx hcd dX4_frees_25 (by decide) ?_
  refine lv_iload_n hx hcd dX4_frees_26 rfl (lv_at hl 1 rfl) ?_
  refine w_imul (v := nI (2 * d)) hx hcd dX4_frees_27 (pk_mul _ _) ?_
  refine w_iadd (v := nI (87 + (2 * d))) hx hcd dX4_frees_28 (nI_add _ _) ?_
  refine lv_iconst (v := nI 1) hx hcd dX4_frees_29 (by decide) ?_
  refine w_iadd (v := nI ((87 + (2 * d)) + 1)) hx hcd dX4_frees_30 (nI_add _ _) ?_
  refine lv_iconst (v := -1) hx hcd dX4_frees_31 (by decide) ?_
  refine r_mT G hC h 0 ((87 + (2 * d)) + 1) (by decide) (by decide) rfl (show (87 + (2 * d)) + 1 < 115 by omega) rfl dX4_frees_32 (fun H locs h => ?_)
  exact k_retv hQ G hret hlocks h (setG2_of hg (upd_free hu hn hm hd ht (ha d))) (Nat.le_of_ble_eq_true rfl) (Nat.le_of_ble_eq_true rfl) dX4_frees_33
set_option maxHeartbeats 4000000 in
set_option maxRecDepth 100000 in
/-- unassign(x) -/
theorem met_X4_unassign (l : Launch) (V : kEnv) (M : kMs) (B : kBd) (hg : M.2 0 = gOf B) (hI : bI B) (w c0 : Nat) (hw : M.1 2 = nI w) (hw2 : w < 2) (hc0 : M.1 1 = nI c0) (hc8 : c0 ≤ 8) (hu : bU B) (x : Int32) : kI l yX4_unassign cX4_unassign 3 (some .int) { frames := 2, cells := 0, slots := 0, locals := 46 } V (mWs V) [.ref (eX V 500), .int (x)] (M) (fun r u => (∃ d, d < B.2 1 ∧ x = nI d ∧ B.1 4 d ≠ 0 ∧ r = nI (B.1 4 d) - 1 ∧ u = setG (kpW (nPut M 3 (nI 0)) 0 w c0) (bSet B 4 d 0)) ∨ (inS (B.2 1) x = false ∧ r = nI 0 ∧ u = nPut M 3 (nI 1)) ∨ (∃ d, d < B.2 1 ∧ x = nI d ∧ B.1 4 d = 0 ∧ r = nI 0 ∧ u = nPut M 3 (nI 2))) 0 0 := by
  refine kI_of (by decide +kernel) (Nat.le_of_ble_eq_true rfl) ?_
  intro pg e s m args below meth c G hret hlocks hC hB h ls hl Q hQ
  have hl : lv_has ls 3 [(0, .ref (eX V 500)), (1, .int (x))] := hl
  have hx := G.1
  have hcd := G.2.1
  have hI0 := hI
  obtain ⟨hz, hbn, hn, hm, h3, h54, h4, h7, hr, he, ha, hact, h5⟩ := hI
  refine lv_aload_n hx hcd dX4_unassign_0 rfl (lv_at hl 0 rfl) ?_
  refine lv_aload_n hx hcd dX4_unassign_1 rfl (lv_at hl 0 rfl) ?_
  refine lv_iload_n hx hcd dX4_unassign_2 rfl (lv_at hl 1 rfl) ?_
  refine k_Vi (As := [.int (x)]) (rest := [.ref (eX V 500)]) (b := eX V 500) G hC hB h (met_X4_isPerson l V M B hg hI0 x) mw_1686 kv_X4_isPerson ⟨rfl, rfl⟩ ⟨Nat.le_of_ble_eq_true rfl, Nat.le_of_ble_eq_true rfl⟩ (r_mV hC h) rfl rfl hl.1 (Nat.le_of_ble_eq_true rfl) dX4_unassign_3 ⟨Nat.le_of_ble_eq_true rfl, Nat.le_of_ble_eq_true rfl⟩ (fun r u H locs hp h => ?_)
  obtain ⟨hr9, hu9⟩ := hp
  rw [hu9] at h
  rcases bsp (inS (B.2 1) x) with c9 | c9
  · skip
    obtain rfl : r = nI 1 := (hr9.trans ((congrArg bz c9).trans (by decide)))
    obtain ⟨d, hd, rfl⟩ := inS_ex (by omega) c9
    refine lv_if_ne (tgt := 13) hx hcd dX4_unassign_6 (by decide) (fun _ => ?_) (fun c_1 => absurd c_1 (by decide))
    refine lv_aload_n hx hcd dX4_unassign_13 rfl (lv_at hl 0 rfl) ?_
    refine lv_iload_n hx hcd dX4_unassign_14 rfl (lv_at hl 1 rfl) ?_
    refine lv_iconst (v := nI 1) hx hcd dX4_unassign_15 (by decide) ?_
    refine k_Vi (As := [.int (nI (d)), .int (nI 1)]) (rest := [.ref (eX V 500)]) (b := eX V 500) G hC hB h (met_X4_by l V M d 1 (by omega) (by decide)) mw_1690 kv_X4_by ⟨rfl, rfl⟩ ⟨Nat.le_of_ble_eq_true rfl, Nat.le_of_ble_eq_true rfl⟩ (r_mV hC h) rfl rfl hl.1 (Nat.le_of_ble_eq_true rfl) dX4_unassign_16 ⟨Nat.le_of_ble_eq_true rfl, Nat.le_of_ble_eq_true rfl⟩ (fun r u H locs hp h => ?_)
    obtain ⟨hr9, hu9⟩ := hp
    obtain rfl : r = nI (B.1 4 d) - 1 := (hr9.trans (gOf_p1 hg hm (d := d) (by omega)))
    rw [hu9] at h
    have q_2 := hz.1 4 d
    refine lv_if_ge (tgt := 26) hx hcd dX4_unassign_19 (by decide) (fun c_3 => ?_) (fun c_3 => ?_)
    · have c_3 := cLe t0 (tA (n := B.1 4 d) (by omega)) c_3
      refine lv_iconst (v := nI 0) hx hcd dX4_unassign_26 (by decide) ?_
      refine k_Vi (As := [.int (nI 0)]) (rest := []) (b := eX V 500) G hC hB h (met_X4_fails l V M (nI 0)) mw_1545 kv_X4_fails ⟨rfl, rfl⟩ ⟨Nat.le_of_ble_eq_true rfl, Nat.le_of_ble_eq_true rfl⟩ (r_mV hC h) rfl rfl hl.1 (Nat.le_of_ble_eq_true rfl) dX4_unassign_27 ⟨Nat.le_of_ble_eq_true rfl, Nat.le_of_ble_eq_true rfl⟩ (fun r u H locs hp h => ?_)
      obtain ⟨hr9, hu9⟩ := hp
      obtain rfl : r = nI 0 := (hr9.trans (by decide))
      rw [hu9] at h
      refine lv_if_eq (tgt := 35) hx hcd dX4_unassign_30 (by decide) (fun _ => ?_) (fun c_4 => absurd c_4 (by decide))
      refine lv_aload_n hx hcd dX4_unassign_35 rfl (lv_at hl 0 rfl) ?_
      refine lv_iload_n hx hcd dX4_unassign_36 rfl (lv_at hl 1 rfl) ?_
      refine lv_iconst (v := nI 1) hx hcd dX4_unassign_37 (by decide) ?_
      refine k_Vi (As := [.int (nI (d)), .int (nI 1)]) (rest := []) (b := eX V 500) G hC hB h (met_X4_by l V (nPut M 3 (nI 0)) d 1 (by omega) (by decide)) mw_1690 kv_X4_by ⟨rfl, rfl⟩ ⟨Nat.le_of_ble_eq_true rfl, Nat.le_of_ble_eq_true rfl⟩ (r_mV hC h) rfl rfl hl.1 (Nat.le_of_ble_eq_true rfl) dX4_unassign_38 ⟨Nat.le_of_ble_eq_true rfl, Nat.le_of_ble_eq_true rfl⟩ (fun r u H locs hp h => ?_)
      obtain ⟨hr9, hu9⟩ := hp
      obtain rfl : r = nI (B.1 4 d) - 1 := (hr9.trans (gOf_p1 hg hm (d := d) (by omega)))
      rw [hu9] at h
      have q_5 := hz.1 4 d
      refine lv_istore_n (lv' := [(2, .int (nI (B.1 4 d) - 1)), (0, .ref (eX V 500)), (1, .int (nI (d)))]) hx hcd dX4_unassign_41 rfl hl (by decide) rfl (fun ls hl => ?_)
      refine lv_aload_n hx hcd dX4_unassign_42 rfl (lv_at hl 1 rfl) ?_
      refine lv_aload_n hx hcd dX4_unassign_43 rfl (lv_at hl 1 rfl) ?_
      refine r_mA G hC h 0 (by decide) mw_1472 dX4_unassign_44 ?_
      refine k_Vv (As := [.ref (eX V (501 + 0))]) (rest := []) (b := eX V 500) G hC hB h (met_X4_keeps l V (nPut M 3 (nI 0)) 0 (Or.inl rfl) w hw hw2 c0 hc0 hc8) mw_1549 kv_X4_keeps ⟨rfl, rfl⟩ ⟨Nat.le_of_ble_eq_true rfl, Nat.le_of_ble_eq_true rfl⟩ (r_mV hC h) rfl rfl hl.1 (Nat.le_of_ble_eq_true rfl) dX4_unassign_47 ⟨Nat.le_of_ble_eq_true rfl, Nat.le_of_ble_eq_true rfl⟩ (fun u H locs hp h => ?_)
      have hu9 := hp
      rw [hu9] at h
      have hg9 : (kpW (nPut M 3 (nI 0)) 0 w c0).2 0 = gOf B := (kpW_g _ _ _ _).trans hg
      refine lv_aload_n hx hcd dX4_unassign_50 rfl (lv_at hl 1 rfl) ?_
      refine lv_iload_n hx hcd dX4_unassign_51 rfl (lv_at hl 2 rfl) ?_
      refine k_Vv (As := [.int (nI (d))]) (rest := []) (b := eX V 500) G hC hB h (met_X4_frees l V (kpW (nPut M 3 (nI 0)) 0 w c0) B hg9 hI0 hu d (by omega) (by omega)) mw_1579 kv_X4_frees ⟨rfl, rfl⟩ ⟨Nat.le_of_ble_eq_true rfl, Nat.le_of_ble_eq_true rfl⟩ (r_mV hC h) rfl rfl hl.1 (Nat.le_of_ble_eq_true rfl) dX4_unassign_52 ⟨Nat.le_of_ble_eq_true rfl, Nat.le_of_ble_eq_true rfl⟩ (fun u H locs hp h => ?_)
      have hu9 := hp
      rw [hu9] at h
      refine lv_iload_n hx hcd dX4_unassign_55 rfl (lv_at hl 0 rfl) ?_
      exact k_reti hQ G hret hlocks h (Or.inl ⟨_, hd, rfl, by omega, rfl, rfl⟩) (Nat.le_of_ble_eq_true rfl) (Nat.le_of_ble_eq_true rfl) dX4_unassign_56
    · have c_3 := cNle t0 (tA (n := B.1 4 d) (by omega)) c_3
      refine lv_iconst (v := nI 2) hx hcd dX4_unassign_22 (by decide) ?_
      refine lv_goto (tgt := 27) hx hcd dX4_unassign_23 (by decide) ?_
      refine k_Vi (As := [.int (nI 2)]) (rest := []) (b := eX V 500) G hC hB h (met_X4_fails l V M (nI 2)) mw_1545 kv_X4_fails ⟨rfl, rfl⟩ ⟨Nat.le_of_ble_eq_true rfl, Nat.le_of_ble_eq_true rfl⟩ (r_mV hC h) rfl rfl hl.1 (Nat.le_of_ble_eq_true rfl) dX4_unassign_27 ⟨Nat.le_of_ble_eq_true rfl, Nat.le_of_ble_eq_true rfl⟩ (fun r u H locs hp h => ?_)
      obtain ⟨hr9, hu9⟩ := hp
      obtain rfl : r = nI 1 := (hr9.trans (by decide))
      rw [hu9] at h
      refine lv_if_eq (tgt := 35) hx hcd dX4_unassign_30 (by decide) (fun c_6 => absurd c_6 (by decide)) (fun _ => ?_)
      refine lv_iconst (v := nI 0) hx hcd dX4_unassign_33 (by decide) ?_
      exact k_reti hQ G hret hlocks h (Or.inr (Or.inr ⟨_, hd, rfl, by omega, rfl, rfl⟩)) (Nat.le_of_ble_eq_true rfl) (Nat.le_of_ble_eq_true rfl) dX4_unassign_34
  · skip
    obtain rfl : r = nI 0 := (hr9.trans ((congrArg bz c9).trans (by decide)))
    refine lv_if_ne (tgt := 13) hx hcd dX4_unassign_6 (by decide) (fun c_7 => absurd c_7 (by decide)) (fun _ => ?_)
    refine lv_iconst (v := nI 1) hx hcd dX4_unassign_9 (by decide) ?_
    refine lv_goto (tgt := 27) hx hcd dX4_unassign_10 (by decide) ?_
    refine k_Vi (As := [.int (nI 1)]) (rest := []) (b := eX V 500) G hC hB h (met_X4_fails l V M (nI 1)) mw_1545 kv_X4_fails ⟨rfl, rfl⟩ ⟨Nat.le_of_ble_eq_true rfl, Nat.le_of_ble_eq_true rfl⟩ (r_mV hC h) rfl rfl hl.1 (Nat.le_of_ble_eq_true rfl) dX4_unassign_27 ⟨Nat.le_of_ble_eq_true rfl, Nat.le_of_ble_eq_true rfl⟩ (fun r u H locs hp h => ?_)
    obtain ⟨hr9, hu9⟩ := hp
    obtain rfl : r = nI 1 := (hr9.trans (by decide))
    rw [hu9] at h
    refine lv_if_eq (tgt := 35) hx hcd dX4_unassign_30 (by decide) (fun c_8 => absurd c_8 (by decide)) (fun _ => ?_)
    refine lv_iconst (v := nI 0) hx hcd dX4_unassign_33 (by decide) ?_
    exact k_reti hQ G hret hlocks h (Or.inr (Or.inl ⟨c9, rfl, rfl⟩)) (Nat.le_of_ble_eq_true rfl) (Nat.le_of_ble_eq_true rfl) dX4_unassign_34
set_option maxHeartbeats 4000000 in
set_option maxRecDepth 100000 in
/-- startSprint(x) -/
theorem met_X4_startSprint (l : Launch) (V : kEnv) (M : kMs) (B : kBd) (hg : M.2 0 = gOf B) (hI : bI B) (w c0 : Nat) (hw : M.1 2 = nI w) (hw2 : w < 2) (hc0 : M.1 1 = nI c0) (hc8 : c0 ≤ 8) (x : Int32) : kI l yX4_startSprint cX4_startSprint 2 (some .int) { frames := 2, cells := 0, slots := 0, locals := 46 } V (mWs V) [.ref (eX V 500), .int (x)] (M) (fun r u => (∃ q, 1 ≤ q ∧ q ≤ 10 ∧ x = nI q ∧ B.2 3 = 0 ∧ B.2 7 < 9 ∧ r = nI (B.2 7) ∧ u = setG (kpW (nPut M 3 (nI 0)) 0 w c0) (begS B q)) ∨ (¬ (1 ≤ x.toInt ∧ x.toInt ≤ 10) ∧ r = nI 0 ∧ u = nPut M 3 (nI 1)) ∨ (∃ q, 1 ≤ q ∧ q ≤ 10 ∧ x = nI q ∧ ¬ (B.2 3 = 0 ∧ B.2 7 < 9) ∧ r = nI 0 ∧ u = nPut M 3 (nI 2))) 0 0 := by
  refine kI_of (by decide +kernel) (Nat.le_of_ble_eq_true rfl) ?_
  intro pg e s m args below meth c G hret hlocks hC hB h ls hl Q hQ
  have hl : lv_has ls 2 [(0, .ref (eX V 500)), (1, .int (x))] := hl
  have hx := G.1
  have hcd := G.2.1
  have hI0 := hI
  obtain ⟨hz, hbn, hn, hm, h3, h54, h4, h7, hr, he, ha, hact, h5⟩ := hI
  refine lv_aload_n hx hcd dX4_startSprint_0 rfl (lv_at hl 0 rfl) ?_
  refine lv_iload_n hx hcd dX4_startSprint_1 rfl (lv_at hl 1 rfl) ?_
  refine lv_iconst (v := nI 1) hx hcd dX4_startSprint_2 (by decide) ?_
  refine lv_bipush (v := nI 10) hx hcd dX4_startSprint_3 (by decide) ?_
  refine k_Si (As := [.int (x), .int (nI 1), .int (nI 10)]) (rest := [.ref (eX V 500)]) G hC hB h (met_X4_in l V M x (nI 1) (nI 10) (1) (10) (tN (n := 1) (by decide)) (tN (n := 10) (by decide))) mw_1542 ks_X4_in ⟨rfl, rfl⟩ ⟨Nat.le_of_ble_eq_true rfl, Nat.le_of_ble_eq_true rfl⟩ rfl rfl hl.1 (Nat.le_of_ble_eq_true rfl) dX4_startSprint_5 ⟨Nat.le_of_ble_eq_true rfl, Nat.le_of_ble_eq_true rfl⟩ (fun r u H locs hp h => ?_)
  obtain ⟨hr9, hu9⟩ := hp
  rw [hu9] at h
  rcases bsp (decide (1 ≤ (x : Int32).toInt ∧ (x : Int32).toInt ≤ 10)) with c9 | c9
  · skip
    obtain rfl : r = nI 1 := (hr9.trans ((congrArg bz c9).trans (by decide)))
    obtain ⟨q, rfl, hq1, hq2⟩ := rng_ex (a := 1) (b := 10) (by decide) (of_decide_eq_true c9)
    refine lv_if_ne (tgt := 15) hx hcd dX4_startSprint_8 (by decide) (fun _ => ?_) (fun c_1 => absurd c_1 (by decide))
    refine lv_aload_n hx hcd dX4_startSprint_15 rfl (lv_at hl 0 rfl) ?_
    refine r_mA G hC h 0 (by decide) mw_1472 dX4_startSprint_16 ?_
    refine lv_iconst (v := nI 2) hx hcd dX4_startSprint_19 (by decide) ?_
    refine r_mL G hC h 0 (2) (by decide) (by decide) rfl (show 2 < 115 by omega) (x := nI (B.2 3)) (gOf_n hg (f := 2) (by decide)) dX4_startSprint_20 ?_
    have q_2 := hz.2 3
    refine lv_iconst (v := nI 1) hx hcd dX4_startSprint_21 (by decide) ?_
    refine lv_icmp_eq (tgt := 37) hx hcd dX4_startSprint_22 (by decide) (fun c_3 => ?_) (fun c_3 => ?_)
    · have c_3 := cEq (tN (n := B.2 3) (by omega)) (tN (n := 1) (by decide)) c_3
      refine lv_iconst (v := nI 2) hx hcd dX4_startSprint_37 (by decide) ?_
      refine lv_goto (tgt := 42) hx hcd dX4_startSprint_38 (by decide) ?_
      refine k_Vi (As := [.int (nI 2)]) (rest := []) (b := eX V 500) G hC hB h (met_X4_fails l V M (nI 2)) mw_1545 kv_X4_fails ⟨rfl, rfl⟩ ⟨Nat.le_of_ble_eq_true rfl, Nat.le_of_ble_eq_true rfl⟩ (r_mV hC h) rfl rfl hl.1 (Nat.le_of_ble_eq_true rfl) dX4_startSprint_42 ⟨Nat.le_of_ble_eq_true rfl, Nat.le_of_ble_eq_true rfl⟩ (fun r u H locs hp h => ?_)
      obtain ⟨hr9, hu9⟩ := hp
      obtain rfl : r = nI 1 := (hr9.trans (by decide))
      rw [hu9] at h
      refine lv_if_eq (tgt := 50) hx hcd dX4_startSprint_45 (by decide) (fun c_4 => absurd c_4 (by decide)) (fun _ => ?_)
      refine lv_iconst (v := nI 0) hx hcd dX4_startSprint_48 (by decide) ?_
      exact k_reti hQ G hret hlocks h (Or.inr (Or.inr ⟨q, hq1, hq2, rfl, by omega, rfl, rfl⟩)) (Nat.le_of_ble_eq_true rfl) (Nat.le_of_ble_eq_true rfl) dX4_startSprint_49
    · have c_3 := cNe (tN (n := B.2 3) (by omega)) (tN (n := 1) (by decide)) c_3
      refine lv_aload_n hx hcd dX4_startSprint_25 rfl (lv_at hl 0 rfl) ?_
      refine r_mA G hC h 0 (by decide) mw_1472 dX4_startSprint_26 ?_
      refine lv_bipush (v := nI 6) hx hcd dX4_startSprint_29 (by decide) ?_
      refine r_mL G hC h 0 (6) (by decide) (by decide) rfl (show 6 < 115 by omega) (x := nI (B.2 7)) (gOf_n hg (f := 6) (by decide)) dX4_startSprint_31 ?_
      have q_5 := hz.2 7
      refine lv_bipush (v := nI 9) hx hcd dX4_startSprint_32 (by decide) ?_
      refine lv_icmp_ne (tgt := 41) hx hcd dX4_startSprint_34 (by decide) (fun c_6 => ?_) (fun c_6 => ?_)
      · have c_6 := cNe (tN (n := B.2 7) (by omega)) (tN (n := 9) (by decide)) c_6
        refine lv_iconst (v := nI 0) hx hcd dX4_startSprint_41 (by decide) ?_
        refine k_Vi (As := [.int (nI 0)]) (rest := []) (b := eX V 500) G hC hB h (met_X4_fails l V M (nI 0)) mw_1545 kv_X4_fails ⟨rfl, rfl⟩ ⟨Nat.le_of_ble_eq_true rfl, Nat.le_of_ble_eq_true rfl⟩ (r_mV hC h) rfl rfl hl.1 (Nat.le_of_ble_eq_true rfl) dX4_startSprint_42 ⟨Nat.le_of_ble_eq_true rfl, Nat.le_of_ble_eq_true rfl⟩ (fun r u H locs hp h => ?_)
        obtain ⟨hr9, hu9⟩ := hp
        obtain rfl : r = nI 0 := (hr9.trans (by decide))
        rw [hu9] at h
        refine lv_if_eq (tgt := 50) hx hcd dX4_startSprint_45 (by decide) (fun _ => ?_) (fun c_7 => absurd c_7 (by decide))
        refine lv_aload_n hx hcd dX4_startSprint_50 rfl (lv_at hl 0 rfl) ?_
        refine lv_aload_n hx hcd dX4_startSprint_51 rfl (lv_at hl 0 rfl) ?_
        refine r_mA G hC h 0 (by decide) mw_1472 dX4_startSprint_52 ?_
        refine k_Vv (As := [.ref (eX V (501 + 0))]) (rest := []) (b := eX V 500) G hC hB h (met_X4_keeps l V (nPut M 3 (nI 0)) 0 (Or.inl rfl) w hw hw2 c0 hc0 hc8) mw_1549 kv_X4_keeps ⟨rfl, rfl⟩ ⟨Nat.le_of_ble_eq_true rfl, Nat.le_of_ble_eq_true rfl⟩ (r_mV hC h) rfl rfl hl.1 (Nat.le_of_ble_eq_true rfl) dX4_startSprint_55 ⟨Nat.le_of_ble_eq_true rfl, Nat.le_of_ble_eq_true rfl⟩ (fun u H locs hp h => ?_)
        have hu9 := hp
        rw [hu9] at h
        have hg9 : (kpW (nPut M 3 (nI 0)) 0 w c0).2 0 = gOf B := (kpW_g _ _ _ _).trans hg
        refine lv_aload_n hx hcd dX4_startSprint_58 rfl (lv_at hl 0 rfl) ?_
        refine r_mA G hC h 0 (by decide) mw_1472 dX4_startSprint_59 ?_
        refine lv_iconst (v := nI 2) hx hcd dX4_startSprint_62 (by decide) ?_
        refine lv_iconst (v := nI 1) hx hcd dX4_startSprint_63 (by decide) ?_
        refine r_mT G hC h 0 (2) (by decide) (by decide) rfl (show 2 < 115 by omega) rfl dX4_startSprint_64 (fun H locs h => ?_)
        refine lv_aload_n hx hcd dX4_startSprint_65 rfl (lv_at hl 0 rfl) ?_
        refine r_mA G hC h 0 (by decide) mw_1472 dX4_startSprint_66 ?_
        refine lv_iconst (v := nI 3) hx hcd dX4_startSprint_69 (by decide) ?_
        refine lv_iload_n hx hcd dX4_startSprint_70 rfl (lv_at hl 1 rfl) ?_
        refine r_mT G hC h 0 (3) (by decide) (by decide) rfl (show 3 < 115 by omega) rfl dX4_startSprint_71 (fun H locs h => ?_)
        refine lv_aload_n hx hcd dX4_startSprint_72 rfl (lv_at hl 0 rfl) ?_
        refine r_mA G hC h 0 (by decide) mw_1472 dX4_startSprint_73 ?_
        refine lv_iconst (v := nI 4) hx hcd dX4_startSprint_76 (by decide) ?_
        refine lv_iconst (v := nI 0) hx hcd dX4_startSprint_77 (by decide) ?_
        refine r_mT G hC h 0 (4) (by decide) (by decide) rfl (show 4 < 115 by omega) rfl dX4_startSprint_78 (fun H locs h => ?_)
        rw [setG_of hg9 (show upd (gOf B) 2 (nI 1) = gOf (bPut B 3 1) from upd_num (f := 2) 1 (by decide) (by decide)), setG_up (show upd (gOf (bPut B 3 1)) 3 (nI q) = gOf (bPut (bPut B 3 1) 4 q) from upd_num (f := 3) q (by decide) (by decide)), setG_up (show upd (gOf (bPut (bPut B 3 1) 4 q)) 4 (nI 0) = gOf (bPut (bPut (bPut B 3 1) 4 q) 5 0) from upd_num (f := 4) 0 (by decide) (by decide))] at h
        obtain ⟨B2, hB2⟩ : ∃ z, z = bPut (bPut (bPut B 3 1) 4 q) 5 0 := ⟨_, rfl⟩
        rw [← hB2] at h
        have hIB2 : bI B2 := by rw [hB2]; exact bI_beg1 hI0 hq2 (by omega)
        have hgB2 : (setG (kpW (nPut M 3 (nI 0)) 0 w c0) B2).2 0 = gOf B2 := setG_g _ _
        have hJB2 := hIB2
        obtain ⟨hz, hbn, hn, hm, h3, h54, h4, h7, hr, he, ha, hact, h5⟩ := hJB2
        refine lv_aload_n hx hcd dX4_startSprint_79 rfl (lv_at hl 0 rfl) ?_
        refine r_mA G hC h 0 (by decide) mw_1472 dX4_startSprint_80 ?_
        refine lv_iconst (v := nI 5) hx hcd dX4_startSprint_83 (by decide) ?_
        refine lv_aload_n hx hcd dX4_startSprint_84 rfl (lv_at hl 0 rfl) ?_
        refine lv_iconst (v := nI 0) hx hcd dX4_startSprint_85 (by decide) ?_
        refine k_Vi (As := [.int (nI 0)]) (rest := [.int (nI 5), .ref (eX V (501 + 0))]) (b := eX V 500) G hC hB h (met_X4_planned0 l V (setG (kpW (nPut M 3 (nI 0)) 0 w c0) B2) B2 hgB2 hIB2) mw_1718 kv_X4_planned ⟨rfl, rfl⟩ ⟨Nat.le_of_ble_eq_true rfl, Nat.le_of_ble_eq_true rfl⟩ (r_mV hC h) rfl rfl hl.1 (Nat.le_of_ble_eq_true rfl) dX4_startSprint_86 ⟨Nat.le_of_ble_eq_true rfl, Nat.le_of_ble_eq_true rfl⟩ (fun r u H locs hp h => ?_)
        obtain ⟨hr9, hu9⟩ := hp
        rw [hu9] at h
        · skip
          obtain rfl : r = nI (plS B2 0) := hr9
          have q_8 := plS_le hIB2 (c := 0) (by decide)
          refine r_mT G hC h 0 (5) (by decide) (by decide) rfl (show 5 < 115 by omega) rfl dX4_startSprint_89 (fun H locs h => ?_)
          rw [setG_up (show upd (gOf B2) 5 (nI (plS B2 0)) = gOf (bPut B2 6 (plS B2 0)) from upd_num (f := 5) _ (by decide) (by decide))] at h
          obtain ⟨B3, hB3⟩ : ∃ z, z = bPut B2 6 (plS B2 0) := ⟨_, rfl⟩
          rw [← hB3] at h
          have hIB3 : bI B3 := by rw [hB3]; exact bI_begun hIB2 (plS_le hIB2 (by decide))
          have hgB3 : (setG (kpW (nPut M 3 (nI 0)) 0 w c0) B3).2 0 = gOf B3 := setG_g _ _
          have hJB3 := hIB3
          obtain ⟨hz, hbn, hn, hm, h3, h54, h4, h7, hr, he, ha, hact, h5⟩ := hJB3
          refine lv_aload_n hx hcd dX4_startSprint_90 rfl (lv_at hl 0 rfl) ?_
          refine r_mA G hC h 0 (by decide) mw_1472 dX4_startSprint_91 ?_
          refine lv_bipush (v := nI 104) hx hcd dX4_startSprint_94 (by decide) ?_
          refine lv_aload_n hx hcd dX4_startSprint_96 rfl (lv_at hl 0 rfl) ?_
          refine lv_iconst (v := nI 1) hx hcd dX4_startSprint_97 (by decide) ?_
          refine k_Vi (As := [.int (nI 1)]) (rest := [.int (nI 104), .ref (eX V (501 + 0))]) (b := eX V 500) G hC hB h (met_X4_planned1 l V (setG (kpW (nPut M 3 (nI 0)) 0 w c0) B3) B3 hgB3 hIB3) mw_1718 kv_X4_planned ⟨rfl, rfl⟩ ⟨Nat.le_of_ble_eq_true rfl, Nat.le_of_ble_eq_true rfl⟩ (r_mV hC h) rfl rfl hl.1 (Nat.le_of_ble_eq_true rfl) dX4_startSprint_98 ⟨Nat.le_of_ble_eq_true rfl, Nat.le_of_ble_eq_true rfl⟩ (fun r u H locs hp h => ?_)
          obtain ⟨hr9, hu9⟩ := hp
          rw [hu9] at h
          · skip
            obtain rfl : r = nI (plS B3 1) := hr9
            have q_9 := plS_le hIB3 (c := 1) (by decide)
            refine r_mT G hC h 0 (104) (by decide) (by decide) rfl (show 104 < 115 by omega) rfl dX4_startSprint_101 (fun H locs h => ?_)
            rw [setG_up (show upd (gOf B3) 104 (nI (plS B3 1)) = gOf (bSet B3 5 0 (plS B3 1)) from upd_burn _ (k := 0) (by decide))] at h
            obtain ⟨B4, hB4⟩ : ∃ z, z = bSet B3 5 0 (plS B3 1) := ⟨_, rfl⟩
            rw [← hB4] at h
            have hIB4 : bI B4 := by rw [hB4]; exact bI_burn hIB3 (by decide) (plS_le hIB3 (by decide))
            have hgB4 : (setG (kpW (nPut M 3 (nI 0)) 0 w c0) B4).2 0 = gOf B4 := setG_g _ _
            have hJB4 := hIB4
            obtain ⟨hz, hbn, hn, hm, h3, h54, h4, h7, hr, he, ha, hact, h5⟩ := hJB4
            refine lv_aload_n hx hcd dX4_startSprint_102 rfl (lv_at hl 0 rfl) ?_
            refine r_mA G hC h 0 (by decide) mw_1472 dX4_startSprint_103 ?_
            refine lv_bipush (v := nI 6) hx hcd dX4_startSprint_106 (by decide) ?_
            refine r_mL G hC h 0 (6) (by decide) (by decide) rfl (show 6 < 115 by omega) (x := nI (B4.2 7)) (gOf_n hgB4 (f := 6) (by decide)) dX4_startSprint_108 ?_
            have q_10 := hz.2 7
            exact k_reti hQ G hret hlocks h (Or.inl ⟨q, hq1, hq2, rfl, by omega, by omega, by subst hB4; subst hB3; subst hB2; rfl, by subst hB4; subst hB3; subst hB2; rfl⟩) (Nat.le_of_ble_eq_true rfl) (Nat.le_of_ble_eq_true rfl) dX4_startSprint_109
      · have c_6 := cEq (tN (n := B.2 7) (by omega)) (tN (n := 9) (by decide)) c_6
        refine lv_iconst (v := nI 2) hx hcd dX4_startSprint_37 (by decide) ?_
        refine lv_goto (tgt := 42) hx hcd dX4_startSprint_38 (by decide) ?_
        refine k_Vi (As := [.int (nI 2)]) (rest := []) (b := eX V 500) G hC hB h (met_X4_fails l V M (nI 2)) mw_1545 kv_X4_fails ⟨rfl, rfl⟩ ⟨Nat.le_of_ble_eq_true rfl, Nat.le_of_ble_eq_true rfl⟩ (r_mV hC h) rfl rfl hl.1 (Nat.le_of_ble_eq_true rfl) dX4_startSprint_42 ⟨Nat.le_of_ble_eq_true rfl, Nat.le_of_ble_eq_true rfl⟩ (fun r u H locs hp h => ?_)
        obtain ⟨hr9, hu9⟩ := hp
        obtain rfl : r = nI 1 := (hr9.trans (by decide))
        rw [hu9] at h
        refine lv_if_eq (tgt := 50) hx hcd dX4_startSprint_45 (by decide) (fun c_11 => absurd c_11 (by decide)) (fun _ => ?_)
        refine lv_iconst (v := nI 0) hx hcd dX4_startSprint_48 (by decide) ?_
        exact k_reti hQ G hret hlocks h (Or.inr (Or.inr ⟨q, hq1, hq2, rfl, by omega, rfl, rfl⟩)) (Nat.le_of_ble_eq_true rfl) (Nat.le_of_ble_eq_true rfl) dX4_startSprint_49
  · skip
    obtain rfl : r = nI 0 := (hr9.trans ((congrArg bz c9).trans (by decide)))
    have c8 := of_decide_eq_false c9
    refine lv_if_ne (tgt := 15) hx hcd dX4_startSprint_8 (by decide) (fun c_12 => absurd c_12 (by decide)) (fun _ => ?_)
    refine lv_iconst (v := nI 1) hx hcd dX4_startSprint_11 (by decide) ?_
    refine lv_goto (tgt := 42) hx hcd dX4_startSprint_12 (by decide) ?_
    refine k_Vi (As := [.int (nI 1)]) (rest := []) (b := eX V 500) G hC hB h (met_X4_fails l V M (nI 1)) mw_1545 kv_X4_fails ⟨rfl, rfl⟩ ⟨Nat.le_of_ble_eq_true rfl, Nat.le_of_ble_eq_true rfl⟩ (r_mV hC h) rfl rfl hl.1 (Nat.le_of_ble_eq_true rfl) dX4_startSprint_42 ⟨Nat.le_of_ble_eq_true rfl, Nat.le_of_ble_eq_true rfl⟩ (fun r u H locs hp h => ?_)
    obtain ⟨hr9, hu9⟩ := hp
    obtain rfl : r = nI 1 := (hr9.trans (by decide))
    rw [hu9] at h
    refine lv_if_eq (tgt := 50) hx hcd dX4_startSprint_45 (by decide) (fun c_13 => absurd c_13 (by decide)) (fun _ => ?_)
    refine lv_iconst (v := nI 0) hx hcd dX4_startSprint_48 (by decide) ?_
    exact k_reti hQ G hret hlocks h (Or.inr (Or.inl ⟨c8, rfl, rfl⟩)) (Nat.le_of_ble_eq_true rfl) (Nat.le_of_ble_eq_true rfl) dX4_startSprint_49
