/-- the same but for the trial board and the closure row -/
def sEq (S S' : kCs) : Prop := (∀ b, b ≠ 0 → b ≠ 1 → S'.1 b = S.1 b) ∧ S'.2.1 = S.2.1 ∧ (∀ k, k ≠ 0 → S'.2.2.1 k = S.2.2.1 k) ∧ S'.2.2.2 = S.2.2.2
/-- days on trial: the day on which story j is done, one up (0: not within the fuel), and the trial board then -/
def dtN (j : Nat) : Nat → Nat → kBd → Nat × kBd
  | 0, _, T => (0, T)
  | f + 1, d, T => if j < T.2 0 ∧ T.1 1 j = 0 then (d + 1, T) else dtN j f (d + 1) (wkN (unf T) T 4).1
theorem bN_set {B : kBd} (h : bN B) {f j : Nat} (hf : f < 7) (hj : j < kLen f) (v : Nat) : bN (bSet B f j v) := by
  refine ⟨fun g k hk => ?_, h.2⟩
  show va_up B.1 f (va_up (B.1 f) j v) g k = 0
  simp only [va_up]
  by_cases e : g = f
  · subst e
    rw [if_pos rfl]
    show (if k = j then v else B.1 g k) = 0
    rw [if_neg (by rcases hk with hk | hk <;> omega)]
    exact h.1 g k hk
  · rw [if_neg e]
    exact h.1 g k hk
theorem bN_put {B : kBd} (h : bN B) {f : Nat} (hf : f < 8) (v : Nat) : bN (bPut B f v) := by
  refine ⟨h.1, fun g hg => ?_⟩
  show va_up B.2 f v g = 0
  simp only [va_up]
  rw [if_neg (by omega)]
  exact h.2 g hg
theorem bN_wst {U : Nat} {x : kBd × Nat} (h : bN x.1) (hn : x.1.2 0 ≤ 16) {d : Nat} (hd : d < 4) : bN (wst U x d).1 := by
  unfold wst
  by_cases c : 0 < x.1.1 4 d ∧ x.1.1 4 d - 1 < x.1.2 0 ∧ (x.1.1 2 (x.1.1 4 d - 1) &&& U) = 0
  · rw [if_pos c]
    have h1 := bN_set h (f := 1) (j := x.1.1 4 d - 1) (by decide) (by show x.1.1 4 d - 1 < 16; omega) (x.1.1 1 (x.1.1 4 d - 1) - x.1.1 3 d)
    split
    · exact bN_set h1 (f := 4) (by decide) (show d < kLen 4 from hd) 0
    · exact h1
  · rw [if_neg c]; exact h
theorem bN_wk {U : Nat} {B : kBd} (h : bN B) (hn : B.2 0 ≤ 16) : ∀ k, k ≤ 4 → bN (wkN U B k).1
  | 0, _ => h
  | k + 1, hk => bN_wst (bN_wk h hn k (by omega)) (by rw [wk_num]; exact hn) (by omega)
/-- days needed, one up (0: never), by recursion; g: of the blockers -/
def ndF (B : kBd) (j : Nat) (g : Nat → Nat) : Nat → Nat → Nat → Nat
  | 0, _, w => w + 1
  | n + 1, k, w => if k < B.2 0 then (if j < B.2 0 ∧ (B.1 2 j).testBit k = true then (if g k = 0 then 0 else ndF B j g n (k + 1) (max w (g k - 1))) else ndF B j g n (k + 1) w) else w + 1
def ndN (B : kBd) : Nat → Nat → Nat
  | 0, j => if j < B.2 0 ∧ B.1 1 j = 0 then 1 else 0
  | f + 1, j => if j < B.2 0 ∧ B.1 1 j = 0 then 1 else if ¬ j < B.2 0 ∨ spdOn B j = 0 then 0 else if ndF B j (ndN B f) 17 0 0 = 0 then 0 else ndF B j (ndN B f) 17 0 0 - 1 + (B.1 1 j + spdOn B j - 1) / spdOn B j + 1
set_option maxHeartbeats 4000000 in
set_option maxRecDepth 100000 in
/-- daysOnTrial(j) -/
theorem met_X3_daysOnTrial (l : Launch) (V : kEnv) (S : kCs) (B : kBd) (hI : bI B) (hbt : bN (S.1 1)) (j : Nat) (hj : j < 16) : kI l yX3_daysOnTrial cX3_daysOnTrial 3 (some .int) { frames := 3, cells := 0, slots := 0, locals := 66 } V (cWs V) [.ref (eX V 96), .int (nI (j))] (setB S 0 B) (fun r u => r = nI (dtN j 53 0 B).1 - 1 ∧ u = setB (setB S 0 B) 1 (dtN j 53 0 B).2 ∧ bN (dtN j 53 0 B).2) 0 0 := by
  refine kI_of (by decide +kernel) (Nat.le_of_ble_eq_true rfl) ?_
  intro pg e s m args below meth c G hret hlocks hC hB h ls hl Q hQ
  have hl : lv_has ls 3 [(0, .ref (eX V 96)), (1, .int (nI (j)))] := hl
  have hx := G.1
  have hcd := G.2.1
  obtain ⟨hz, hbn, hn, hm, h3, h54, h4, h7, hr, he, ha, hact, h5⟩ := hI
  refine lv_aload_n hx hcd dX3_daysOnTrial_0 rfl (lv_at hl 0 rfl) ?_
  refine va_get (D := eD V) (ci := 7) (v := .ref (eX V (8 * 1))) (C := RX3) (T := TX3) (N := 11) hx hcd G.2.2.2.2 iwX3 G.2.2.2.1 hC.1 h.1 (96 + 0) (cF_at V _ (i := 0) (by decide)) rfl 1 (by decide) (G.2.2.2.2 _ mw_243) (fun y h9 => h9) rfl dX3_daysOnTrial_1 ?_
  refine lv_aload_n hx hcd dX3_daysOnTrial_4 rfl (lv_at hl 0 rfl) ?_
  refine va_get (D := eD V) (ci := 7) (v := .ref (eX V (8 * 0))) (C := RX3) (T := TX3) (N := 11) hx hcd G.2.2.2.2 iwX3 G.2.2.2.1 hC.1 h.1 (96 + 0) (cF_at V _ (i := 0) (by decide)) rfl 0 (by decide) (G.2.2.2.2 _ mw_242) (fun y h9 => h9) rfl dX3_daysOnTrial_5 ?_
  have h := cH_b 1 h
  refine k_Vv (As := [.ref (eX V (8 * 0))]) (rest := []) (b := eX V (8 * 1)) G hC hB h (met_X0_copyFrom l V (setB S 0 B) 1 ((setB S 0 B).1 1) (by omega) 0 (by omega) (by omega) hz h3 hbn hbt) mw_737 kv_X0_copyFrom ⟨rfl, rfl⟩ ⟨Nat.le_of_ble_eq_true rfl, Nat.le_of_ble_eq_true rfl⟩ (r_bV hC h 1 (by omega)) rfl rfl hl.1 (Nat.le_of_ble_eq_true rfl) dX3_daysOnTrial_8 ⟨Nat.le_of_ble_eq_true rfl, Nat.le_of_ble_eq_true rfl⟩ (fun u H locs hp h => ?_)
  obtain rfl := hp
  have h : cH V s H locs (cWs V (setB (setB S 0 B) 1 B)) := h
  refine lv_iconst (v := nI 0) hx hcd dX3_daysOnTrial_11 (by decide) ?_
  refine lv_istore_n (lv' := [(2, .int (nI 0)), (0, .ref (eX V 96)), (1, .int (nI (j)))]) hx hcd dX3_daysOnTrial_12 rfl hl (by decide) rfl (fun ls hl => ?_)
  have L_1 : ∀ (fu_3 : Nat) (d : Nat) (T : kBd) (hd : d ≤ 53) (hzT : kSm T) (hnT : T.2 0 ≤ 16) (hbT : bN T) (hD : dtN j 53 0 B = dtN j (53 - d) d T), 54 - d < fu_3 → ∀ (H : Heap) (locs : List Loc), cH V s H locs (cWs V (setB (setB S 0 B) 1 T)) → ∀ ls : Array Slot, lv_has ls 3 [(2, .int (nI (d))), (0, .ref (eX V 96)), (1, .int (nI (j)))] → W pg l e { frames := 3, cells := 0, slots := 0, locals := 66 } s m args below meth c H locs 0 0 Q (F0 m 13 ls []) := by
    intro fu_3
    induction fu_3 with
    | zero => intro d T hd hzT hnT hbT hD hm; exact absurd hm (Nat.not_lt_zero _)
    | succ fu_3 ih_2 =>
      intro d T hd hzT hnT hbT hD hm H locs h ls hl
      refine lv_iload_n hx hcd dX3_daysOnTrial_13 rfl (lv_at hl 0 rfl) ?_
      refine lv_bipush (v := nI 52) hx hcd dX3_daysOnTrial_14 (by decide) ?_
      refine lv_icmp_gt (tgt := 46) hx hcd dX3_daysOnTrial_16 (by decide) (fun c_4 => ?_) (fun c_4 => ?_)
      · have c_4 := cLt (tN (n := 52) (by decide)) (tN (n := d) (by omega)) c_4
        refine lv_iconst (v := -1) hx hcd dX3_daysOnTrial_46 (by decide) ?_
        exact k_reti hQ G hret hlocks h (⟨by rw [hD, show 53 - d = 0 by omega]; exact a0.symm, by rw [hD, show 53 - d = 0 by omega]; rfl, by rw [hD, show 53 - d = 0 by omega]; exact hbT⟩) (Nat.le_of_ble_eq_true rfl) (Nat.le_of_ble_eq_true rfl) dX3_daysOnTrial_47
      · have c_4 := cNlt (tN (n := 52) (by decide)) (tN (n := d) (by omega)) c_4
        refine lv_aload_n hx hcd dX3_daysOnTrial_19 rfl (lv_at hl 1 rfl) ?_
        refine va_get (D := eD V) (ci := 7) (v := .ref (eX V (8 * 1))) (C := RX3) (T := TX3) (N := 11) hx hcd G.2.2.2.2 iwX3 G.2.2.2.1 hC.1 h.1 (96 + 0) (cF_at V _ (i := 0) (by decide)) rfl 1 (by decide) (G.2.2.2.2 _ mw_243) (fun y h9 => h9) rfl dX3_daysOnTrial_20 ?_
        refine lv_iload_n hx hcd dX3_daysOnTrial_23 rfl (lv_at hl 2 rfl) ?_
        refine k_Vi (As := [.int (nI (j))]) (rest := []) (b := eX V (8 * 1)) G hC hB h (met_X0_isFinished l V (setB S 0 B) 1 T (by omega) hzT hnT j (by omega)) mw_741 kv_X0_isFinished ⟨rfl, rfl⟩ ⟨Nat.le_of_ble_eq_true rfl, Nat.le_of_ble_eq_true rfl⟩ (r_bV hC h 1 (by omega)) rfl rfl hl.1 (Nat.le_of_ble_eq_true rfl) dX3_daysOnTrial_24 ⟨Nat.le_of_ble_eq_true rfl, Nat.le_of_ble_eq_true rfl⟩ (fun r u H locs hp h => ?_)
        obtain ⟨rfl, rfl⟩ := hp
        refine lv_if_eq (tgt := 32) hx hcd dX3_daysOnTrial_27 (by decide) (fun c_5 => ?_) (fun c_5 => ?_)
        · have c_5 := bz0 c_5
          have f_8 : ¬ ((j < T.2 0) ∧ (T.1 1 j = 0)) := fun z => Bool.noConfusion (c_5.symm.trans (band_t (decide_eq_true z.1) (decide_eq_true z.2)))
          refine lv_aload_n hx hcd dX3_daysOnTrial_32 rfl (lv_at hl 1 rfl) ?_
          refine va_get (D := eD V) (ci := 7) (v := .ref (eX V (8 * 1))) (C := RX3) (T := TX3) (N := 11) hx hcd G.2.2.2.2 iwX3 G.2.2.2.1 hC.1 h.1 (96 + 0) (cF_at V _ (i := 0) (by decide)) rfl 1 (by decide) (G.2.2.2.2 _ mw_243) (fun y h9 => h9) rfl dX3_daysOnTrial_33 ?_
          refine k_Vi (As := []) (rest := []) (b := eX V (8 * 1)) G hC hB h (met_X0_work l V (setB S 0 B) 1 T (by omega) hzT hnT) mw_746 kv_X0_work ⟨rfl, rfl⟩ ⟨Nat.le_of_ble_eq_true rfl, Nat.le_of_ble_eq_true rfl⟩ (r_bV hC h 1 (by omega)) rfl rfl hl.1 (Nat.le_of_ble_eq_true rfl) dX3_daysOnTrial_36 ⟨Nat.le_of_ble_eq_true rfl, Nat.le_of_ble_eq_true rfl⟩ (fun r u H locs hp h => ?_)
          obtain ⟨rfl, rfl⟩ := hp
          refine lv_pop hx hcd dX3_daysOnTrial_39 rfl ?_
          refine lv_iinc (v := nI (d + 1)) (lv' := [(2, .int (nI (d + 1))), (0, .ref (eX V 96)), (1, .int (nI (j)))]) hx hcd dX3_daysOnTrial_40 hl (k := 0) rfl (by exact nI_add (d) 1) (by decide) rfl (fun ls hl => ?_)
          refine lv_goto (tgt := 13) hx hcd dX3_daysOnTrial_43 (by decide) ?_
          exact ih_2 (d + 1) ((wkN (unf T) T 4).1) (by omega) (wk_sm hzT (unf T) 4) (by rw [wk_num]; exact hnT) (bN_wk hbT hnT 4 (by omega)) (by rw [hD, show 53 - d = (53 - (d + 1)) + 1 by omega, dtN, if_neg (by assumption)]) (by omega) _ _ h _ (lv_sub hl [0, 1, 2] rfl)
        · have c_5 := bz1 c_5
          have f_6 := of_decide_eq_true (band_l c_5)
          have f_7 := of_decide_eq_true (band_r c_5)
          refine lv_iload_n hx hcd dX3_daysOnTrial_30 rfl (lv_at hl 0 rfl) ?_
          exact k_reti hQ G hret hlocks h (⟨by rw [hD, show 53 - d = (52 - d) + 1 by omega, dtN, if_pos ⟨by assumption, by assumption⟩]; exact aOf.symm, by rw [hD, show 53 - d = (52 - d) + 1 by omega, dtN, if_pos ⟨by assumption, by assumption⟩], by rw [hD, show 53 - d = (52 - d) + 1 by omega, dtN, if_pos ⟨by assumption, by assumption⟩]; exact hbT⟩) (Nat.le_of_ble_eq_true rfl) (Nat.le_of_ble_eq_true rfl) dX3_daysOnTrial_31
  exact L_1 (54 + 1) 0 B (by omega) hz hn hbn rfl (by omega) _ _ h _ (lv_sub hl [0, 1, 2] rfl)
