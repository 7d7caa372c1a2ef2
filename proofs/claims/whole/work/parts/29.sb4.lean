theorem ndF_lt {B : kBd} {j b : Nat} {g : Nat → Nat} (hg : ∀ k, g k ≤ b + 1) : ∀ n k w, w ≤ b → ndF B j g n k w ≤ b + 1
  | 0, k, w, h => by show w + 1 ≤ b + 1; omega
  | n + 1, k, w, h => by
    have h1 := hg k
    unfold ndF
    split
    · split
      · split
        · omega
        · exact ndF_lt hg n (k + 1) _ (by omega)
      · exact ndF_lt hg n (k + 1) w h
    · omega
theorem cdiv_le {r s : Nat} (hs : 0 < s) : (r + s - 1) / s ≤ r := by
  refine Nat.le_of_lt_succ (Nat.div_lt_of_lt_mul ?_)
  have h1 : r ≤ s * r := Nat.le_mul_of_pos_left r hs
  rw [Nat.mul_succ]
  omega
theorem ndN_lt {B : kBd} (he : ∀ k, B.1 0 k ≤ 13) (hr : ∀ k, B.1 1 k ≤ B.1 0 k) : ∀ f j, ndN B f j ≤ 13 * f + 1
  | 0, j => by unfold ndN; split <;> omega
  | f + 1, j => by
    have h1 := ndF_lt (B := B) (j := j) (b := 13 * f) (g := ndN B f) (ndN_lt he hr f) 17 0 0 (Nat.zero_le _)
    have h2 := he j
    have h3 := hr j
    unfold ndN
    split
    · omega
    · split
      · omega
      · rename_i h4
        have h5 := cdiv_le (r := B.1 1 j) (s := spdOn B j) (by omega)
        split
        · omega
        · omega
theorem kv_X0_speedOn : kV yX0_speedOn cX0_speedOn 3 (some .int) 1 := ⟨mw_759, mw_760, mw_57, mw_761, by decide, by decide, by decide +kernel⟩
theorem ks_X3_daysNeeded : kSt yX3_daysNeeded cX3_daysNeeded 7 (some .int) 3 := ⟨mw_756, mw_56, mw_757, by decide, by decide, by decide +kernel⟩
set_option maxHeartbeats 4000000 in
set_option maxRecDepth 100000 in
/-- daysNeeded(board, j, d) -/
theorem met_dN_0 (l : Launch) (V : kEnv) (S : kCs) (B : kBd) (hI : bI B) (d j : Nat) (hdf : d = 16) (hj : j < 2147483647) : kI l yX3_daysNeeded cX3_daysNeeded 7 (some .int) { frames := 0 + 3, cells := 0, slots := 0, locals := 0 * 26 + 80 } V (cWs V) [.ref (eX V (8 * 0)), .int (nI (j)), .int (nI (d))] (setB S 0 B) (fun r u => r = nI (ndN B 0 j) - 1 ∧ u = setB S 0 B) 0 0 := by
  refine kI_of (by decide +kernel) (Nat.le_of_ble_eq_true rfl) ?_
  intro pg e s m args below meth c G hret hlocks hC hB h ls hl Q hQ
  have hl : lv_has ls 7 [(0, .ref (eX V (8 * 0))), (1, .int (nI (j))), (2, .int (nI (d)))] := hl
  have hx := G.1
  have hcd := G.2.1
  obtain ⟨hz, hbn, hn, hm, h3, h54, h4, h7, hr, he, ha, hact, h5⟩ := hI
  refine lv_aload_n hx hcd dX3_daysNeeded_0 rfl (lv_at hl 0 rfl) ?_
  refine lv_iload_n hx hcd dX3_daysNeeded_1 rfl (lv_at hl 1 rfl) ?_
  refine k_Vi (As := [.int (nI (j))]) (rest := []) (b := eX V (8 * 0)) G hC hB h (met_X0_isFinished l V S 0 B (by omega) hz hn j (by omega)) mw_741 kv_X0_isFinished ⟨rfl, rfl⟩ ⟨Nat.le_of_ble_eq_true rfl, Nat.le_of_ble_eq_true rfl⟩ (r_bV hC h 0 (by omega)) rfl rfl hl.1 (Nat.le_of_ble_eq_true rfl) dX3_daysNeeded_2 ⟨Nat.le_of_ble_eq_true rfl, Nat.le_of_ble_eq_true rfl⟩ (fun r u H locs hp h => ?_)
  obtain ⟨rfl, rfl⟩ := hp
  refine lv_if_eq (tgt := 10) hx hcd dX3_daysNeeded_5 (by decide) (fun c_1 => ?_) (fun c_1 => ?_)
  · have c_1 := bz0 c_1
    have f_4 : ¬ ((j < B.2 0) ∧ (B.1 1 j = 0)) := fun z => Bool.noConfusion (c_1.symm.trans (band_t (decide_eq_true z.1) (decide_eq_true z.2)))
    have hnf : ¬ (j < B.2 0 ∧ B.1 1 j = 0) := by assumption
    refine lv_aload_n hx hcd dX3_daysNeeded_10 rfl (lv_at hl 0 rfl) ?_
    refine lv_iload_n hx hcd dX3_daysNeeded_11 rfl (lv_at hl 1 rfl) ?_
    refine k_Vi (As := [.int (nI (j))]) (rest := []) (b := eX V (8 * 0)) G hC hB h (met_X0_speedOn l V S 0 B (by omega) hz hm j (by omega)) mw_758 kv_X0_speedOn ⟨rfl, rfl⟩ ⟨Nat.le_of_ble_eq_true rfl, Nat.le_of_ble_eq_true rfl⟩ (r_bV hC h 0 (by omega)) rfl rfl hl.1 (Nat.le_of_ble_eq_true rfl) dX3_daysNeeded_12 ⟨Nat.le_of_ble_eq_true rfl, Nat.le_of_ble_eq_true rfl⟩ (fun r u H locs hp h => ?_)
    obtain ⟨rfl, rfl⟩ := hp
    have q_5 := spdOn_lt hz j
    refine lv_istore_n (lv' := [(3, .int (nI (spdOn B j))), (0, .ref (eX V (8 * 0))), (1, .int (nI (j))), (2, .int (nI (d)))]) hx hcd dX3_daysNeeded_15 rfl hl (by decide) rfl (fun ls hl => ?_)
    refine lv_aload_n hx hcd dX3_daysNeeded_16 rfl (lv_at hl 1 rfl) ?_
    refine lv_iload_n hx hcd dX3_daysNeeded_17 rfl (lv_at hl 2 rfl) ?_
    refine k_Vi (As := [.int (nI (j))]) (rest := []) (b := eX V (8 * 0)) G hC hB h (met_X0_hasStoryN l V S 0 B (by omega) hn j (by omega)) mw_713 kv_X0_hasStory ⟨rfl, rfl⟩ ⟨Nat.le_of_ble_eq_true rfl, Nat.le_of_ble_eq_true rfl⟩ (r_bV hC h 0 (by omega)) rfl rfl hl.1 (Nat.le_of_ble_eq_true rfl) dX3_daysNeeded_18 ⟨Nat.le_of_ble_eq_true rfl, Nat.le_of_ble_eq_true rfl⟩ (fun r u H locs hp h => ?_)
    obtain ⟨rfl, rfl⟩ := hp
    refine lv_if_eq (tgt := 35) hx hcd dX3_daysNeeded_21 (by decide) (fun c_6 => ?_) (fun c_6 => ?_)
    · have c_6 := bz0 c_6
      have f_8 := of_decide_eq_false c_6
      refine lv_iconst (v := -1) hx hcd dX3_daysNeeded_35 (by decide) ?_
      exact k_reti hQ G hret hlocks h (⟨by rw [ndN, if_neg hnf]; decide, rfl⟩) (Nat.le_of_ble_eq_true rfl) (Nat.le_of_ble_eq_true rfl) dX3_daysNeeded_36
    · have c_6 := bz1 c_6
      have f_7 := of_decide_eq_true c_6
      have hjn : j < B.2 0 := by assumption
      refine lv_iload_n hx hcd dX3_daysNeeded_24 rfl (lv_at hl 0 rfl) ?_
      refine lv_iconst (v := nI 1) hx hcd dX3_daysNeeded_25 (by decide) ?_
      refine lv_icmp_lt (tgt := 35) hx hcd dX3_daysNeeded_26 (by decide) (fun c_9 => ?_) (fun c_9 => ?_)
      · have c_9 := cLt (tN (n := spdOn B j) (by omega)) (tN (n := 1) (by decide)) c_9
        refine lv_iconst (v := -1) hx hcd dX3_daysNeeded_35 (by decide) ?_
        exact k_reti hQ G hret hlocks h (⟨by rw [ndN, if_neg hnf]; decide, rfl⟩) (Nat.le_of_ble_eq_true rfl) (Nat.le_of_ble_eq_true rfl) dX3_daysNeeded_36
      · have c_9 := cNlt (tN (n := spdOn B j) (by omega)) (tN (n := 1) (by decide)) c_9
        refine lv_iload_n hx hcd dX3_daysNeeded_29 rfl (lv_at hl 3 rfl) ?_
        refine lv_bipush (v := nI 16) hx hcd dX3_daysNeeded_30 (by decide) ?_
        refine lv_icmp_lt (tgt := 37) hx hcd dX3_daysNeeded_32 (by decide) (fun c_10 => ?_) (fun c_10 => ?_)
        · have c_10 := cLt (tN (n := d) (by omega)) (tN (n := 16) (by decide)) c_10
          exact absurd c_10 (by omega)
        · have c_10 := cNlt (tN (n := d) (by omega)) (tN (n := 16) (by decide)) c_10
          refine lv_iconst (v := -1) hx hcd dX3_daysNeeded_35 (by decide) ?_
          exact k_reti hQ G hret hlocks h (⟨by rw [ndN, if_neg hnf]; decide, rfl⟩) (Nat.le_of_ble_eq_true rfl) (Nat.le_of_ble_eq_true rfl) dX3_daysNeeded_36
  · have c_1 := bz1 c_1
    have f_2 := of_decide_eq_true (band_l c_1)
    have f_3 := of_decide_eq_true (band_r c_1)
    refine lv_iconst (v := nI 0) hx hcd dX3_daysNeeded_8 (by decide) ?_
    exact k_reti hQ G hret hlocks h (⟨by rw [ndN, if_pos ⟨by assumption, by assumption⟩]; decide, rfl⟩) (Nat.le_of_ble_eq_true rfl) (Nat.le_of_ble_eq_true rfl) dX3_daysNeeded_9
set_option maxHeartbeats 4000000 in
set_option maxRecDepth 100000 in
/-- daysNeeded(board, j, d) -/
theorem met_dN_s (l : Launch) (V : kEnv) (S : kCs) (B : kBd) (hI : bI B) (f0 : Nat) (ih : ∀ (d j : Nat), d + f0 = 16 → j < 2147483647 → kI l yX3_daysNeeded cX3_daysNeeded 7 (some .int) { frames := f0 + 3, cells := 0, slots := 0, locals := f0 * 26 + 80 } V (cWs V) [.ref (eX V (8 * 0)), .int (nI j), .int (nI d)] (setB S 0 B) (fun r u => r = nI (ndN B f0 j) - 1 ∧ u = setB S 0 B) 0 0) (d j : Nat) (hdf : d + (f0 + 1) = 16) (hj : j < 2147483647) : kI l yX3_daysNeeded cX3_daysNeeded 7 (some .int) { frames := (f0 + 1) + 3, cells := 0, slots := 0, locals := (f0 + 1) * 26 + 80 } V (cWs V) [.ref (eX V (8 * 0)), .int (nI (j)), .int (nI (d))] (setB S 0 B) (fun r u => r = nI (ndN B (f0 + 1) j) - 1 ∧ u = setB S 0 B) 0 0 := by
  refine kI_of (by decide +kernel) ((by first | exact Nat.le_of_ble_eq_true rfl | (dsimp only; omega))) ?_
  intro pg e s m args below meth c G hret hlocks hC hB h ls hl Q hQ
  have hl : lv_has ls 7 [(0, .ref (eX V (8 * 0))), (1, .int (nI (j))), (2, .int (nI (d)))] := hl
  have hx := G.1
  have hcd := G.2.1
  obtain ⟨hz, hbn, hn, hm, h3, h54, h4, h7, hr, he, ha, hact, h5⟩ := hI
  refine lv_aload_n hx hcd dX3_daysNeeded_0 rfl (lv_at hl 0 rfl) ?_
  refine lv_iload_n hx hcd dX3_daysNeeded_1 rfl (lv_at hl 1 rfl) ?_
  refine k_Vi (As := [.int (nI (j))]) (rest := []) (b := eX V (8 * 0)) G hC hB h (met_X0_isFinished l V S 0 B (by omega) hz hn j (by omega)) mw_741 kv_X0_isFinished ⟨rfl, rfl⟩ ⟨(by first | exact Nat.le_of_ble_eq_true rfl | (dsimp only; omega)), (by first | exact Nat.le_of_ble_eq_true rfl | (dsimp only; omega))⟩ (r_bV hC h 0 (by omega)) rfl rfl hl.1 ((by first | exact Nat.le_of_ble_eq_true rfl | (dsimp only; omega))) dX3_daysNeeded_2 ⟨(by first | exact Nat.le_of_ble_eq_true rfl | (dsimp only; omega)), (by first | exact Nat.le_of_ble_eq_true rfl | (dsimp only; omega))⟩ (fun r u H locs hp h => ?_)
  obtain ⟨rfl, rfl⟩ := hp
  refine lv_if_eq (tgt := 10) hx hcd dX3_daysNeeded_5 (by decide) (fun c_1 => ?_) (fun c_1 => ?_)
  · have c_1 := bz0 c_1
    have f_4 : ¬ ((j < B.2 0) ∧ (B.1 1 j = 0)) := fun z => Bool.noConfusion (c_1.symm.trans (band_t (decide_eq_true z.1) (decide_eq_true z.2)))
    have hnf : ¬ (j < B.2 0 ∧ B.1 1 j = 0) := by assumption
    refine lv_aload_n hx hcd dX3_daysNeeded_10 rfl (lv_at hl 0 rfl) ?_
    refine lv_iload_n hx hcd dX3_daysNeeded_11 rfl (lv_at hl 1 rfl) ?_
    refine k_Vi (As := [.int (nI (j))]) (rest := []) (b := eX V (8 * 0)) G hC hB h (met_X0_speedOn l V S 0 B (by omega) hz hm j (by omega)) mw_758 kv_X0_speedOn ⟨rfl, rfl⟩ ⟨(by first | exact Nat.le_of_ble_eq_true rfl | (dsimp only; omega)), (by first | exact Nat.le_of_ble_eq_true rfl | (dsimp only; omega))⟩ (r_bV hC h 0 (by omega)) rfl rfl hl.1 ((by first | exact Nat.le_of_ble_eq_true rfl | (dsimp only; omega))) dX3_daysNeeded_12 ⟨(by first | exact Nat.le_of_ble_eq_true rfl | (dsimp only; omega)), (by first | exact Nat.le_of_ble_eq_true rfl | (dsimp only; omega))⟩ (fun r u H locs hp h => ?_)
    obtain ⟨rfl, rfl⟩ := hp
    have q_5 := spdOn_lt hz j
    refine lv_istore_n (lv' := [(3, .int (nI (spdOn B j))), (0, .ref (eX V (8 * 0))), (1, .int (nI (j))), (2, .int (nI (d)))]) hx hcd dX3_daysNeeded_15 rfl hl (by decide) rfl (fun ls hl => ?_)
    refine lv_aload_n hx hcd dX3_daysNeeded_16 rfl (lv_at hl 1 rfl) ?_
    refine lv_iload_n hx hcd dX3_daysNeeded_17 rfl (lv_at hl 2 rfl) ?_
    refine k_Vi (As := [.int (nI (j))]) (rest := []) (b := eX V (8 * 0)) G hC hB h (met_X0_hasStoryN l V S 0 B (by omega) hn j (by omega)) mw_713 kv_X0_hasStory ⟨rfl, rfl⟩ ⟨(by first | exact Nat.le_of_ble_eq_true rfl | (dsimp only; omega)), (by first | exact Nat.le_of_ble_eq_true rfl | (dsimp only; omega))⟩ (r_bV hC h 0 (by omega)) rfl rfl hl.1 ((by first | exact Nat.le_of_ble_eq_true rfl | (dsimp only; omega))) dX3_daysNeeded_18 ⟨(by first | exact Nat.le_of_ble_eq_true rfl | (dsimp only; omega)), (by first | exact Nat.le_of_ble_eq_true rfl | (dsimp only; omega))⟩ (fun r u H locs hp h => ?_)
    obtain ⟨rfl, rfl⟩ := hp
    refine lv_if_eq (tgt := 35) hx hcd dX3_daysNeeded_21 (by decide) (fun c_6 => ?_) (fun c_6 => ?_)
    · have c_6 := bz0 c_6
      have f_8 := of_decide_eq_false c_6
      refine lv_iconst (v := -1) hx hcd dX3_daysNeeded_35 (by decide) ?_
      exact k_reti hQ G hret hlocks h (⟨by rw [ndN, if_neg hnf, if_pos (by first | (exact Or.inl (by omega)) | (exact Or.inr (by omega)))]; decide, rfl⟩) ((by first | exact Nat.le_of_ble_eq_true rfl | (dsimp only; omega))) ((by first | exact Nat.le_of_ble_eq_true rfl | (dsimp only; omega))) dX3_daysNeeded_36
    · have c_6 := bz1 c_6
      have f_7 := of_decide_eq_true c_6
      have hjn : j < B.2 0 := by assumption
      refine lv_iload_n hx hcd dX3_daysNeeded_24 rfl (lv_at hl 0 rfl) ?_
      refine lv_iconst (v := nI 1) hx hcd dX3_daysNeeded_25 (by decide) ?_
      refine lv_icmp_lt (tgt := 35) hx hcd dX3_daysNeeded_26 (by decide) (fun c_9 => ?_) (fun c_9 => ?_)
      · have c_9 := cLt (tN (n := spdOn B j) (by omega)) (tN (n := 1) (by decide)) c_9
        refine lv_iconst (v := -1) hx hcd dX3_daysNeeded_35 (by decide) ?_
        exact k_reti hQ G hret hlocks h (⟨by rw [ndN, if_neg hnf, if_pos (by first | (exact Or.inl (by omega)) | (exact Or.inr (by omega)))]; decide, rfl⟩) ((by first | exact Nat.le_of_ble_eq_true rfl | (dsimp only; omega))) ((by first | exact Nat.le_of_ble_eq_true rfl | (dsimp only; omega))) dX3_daysNeeded_36
      · have c_9 := cNlt (tN (n := spdOn B j) (by omega)) (tN (n := 1) (by decide)) c_9
        refine lv_iload_n hx hcd dX3_daysNeeded_29 rfl (lv_at hl 3 rfl) ?_
        refine lv_bipush (v := nI 16) hx hcd dX3_daysNeeded_30 (by decide) ?_
        refine lv_icmp_lt (tgt := 37) hx hcd dX3_daysNeeded_32 (by decide) (fun c_10 => ?_) (fun c_10 => ?_)
        · have c_10 := cLt (tN (n := d) (by omega)) (tN (n := 16) (by decide)) c_10
          refine lv_iconst (v := nI 0) hx hcd dX3_daysNeeded_37 (by decide) ?_
          refine lv_istore (lv' := [(4, .int (nI 0)), (3, .int (nI (spdOn B j))), (0, .ref (eX V (8 * 0))), (1, .int (nI (j))), (2, .int (nI (d)))]) hx hcd dX3_daysNeeded_38 hl (by decide) rfl (fun ls hl => ?_)
          refine lv_iconst (v := nI 0) hx hcd dX3_daysNeeded_40 (by decide) ?_
          refine lv_istore (lv' := [(5, .int (nI 0)), (4, .int (nI 0)), (3, .int (nI (spdOn B j))), (0, .ref (eX V (8 * 0))), (1, .int (nI (j))), (2, .int (nI (d)))]) hx hcd dX3_daysNeeded_41 hl (by decide) rfl (fun ls hl => ?_)
          have L_11 : ∀ (fu_13 : Nat) (k : Nat) (w0 : Nat) (hk : k ≤ B.2 0) (hw : w0 ≤ 13 * f0) (hF : ndF B j (ndN B f0) 17 0 0 = ndF B j (ndN B f0) (17 - k) k w0), 17 - k < fu_13 → ∀ (H : Heap) (locs : List Loc), cH V s H locs (cWs V (setB S 0 B)) → ∀ ls : Array Slot, lv_has ls 7 [(5, .int (nI (k))), (4, .int (nI (w0))), (0, .ref (eX V (8 * 0))), (1, .int (nI (j))), (2, .int (nI (d))), (3, .int (nI (spdOn B j)))] → W pg l e { frames := (f0 + 1) + 3, cells := 0, slots := 0, locals := (f0 + 1) * 26 + 80 } s m args below meth c H locs 0 0 Q (F0 m 43 ls []) := by
            intro fu_13
            induction fu_13 with
            | zero => intro k w0 hk hw hF hm; exact absurd hm (Nat.not_lt_zero _)
            | succ fu_13 ih_12 =>
              intro k w0 hk hw hF hm H locs h ls hl
              refine lv_iload hx hcd dX3_daysNeeded_43 (lv_at hl 0 rfl) ?_
              refine lv_aload_n hx hcd dX3_daysNeeded_45 rfl (lv_at hl 2 rfl) ?_
              refine r_bS G hC h 0 0 (by omega) (by decide) (setB_at _ _ _) mw_112 (x := nI (B.2 0)) rfl dX3_daysNeeded_46 ?_
              have q_14 := hz.2 0
              refine lv_icmp_ge (tgt := 96) hx hcd dX3_daysNeeded_49 (by decide) (fun c_15 => ?_) (fun c_15 => ?_)
              · have c_15 := cLe (tN (n := B.2 0) (by omega)) (tN (n := k) (by omega)) c_15
                refine lv_iload hx hcd dX3_daysNeeded_96 (lv_at hl 1 rfl) ?_
                refine lv_aload_n hx hcd dX3_daysNeeded_98 rfl (lv_at hl 2 rfl) ?_
                refine r_bA G hC h 0 1 (by omega) (by decide) mw_101 dX3_daysNeeded_99 ?_
                refine lv_iload_n hx hcd dX3_daysNeeded_102 rfl (lv_at hl 3 rfl) ?_
                refine r_bL G hC h 0 1 j (by omega) (by decide) (setB_at _ _ _) rfl (show j < 16 by omega) (x := nI (B.1 1 (j))) rfl dX3_daysNeeded_103 ?_
                have q_16 := hz.1 1 (j)
                refine lv_iload_n hx hcd dX3_daysNeeded_104 rfl (lv_at hl 5 rfl) ?_
                refine w_iadd (v := nI ((B.1 1 (j)) + (spdOn B j))) hx hcd dX3_daysNeeded_105 (nI_add _ _) ?_
                refine lv_iconst (v := nI 1) hx hcd dX3_daysNeeded_106 (by decide) ?_
                refine w_isub (v := nI (((B.1 1 (j)) + (spdOn B j)) - 1)) hx hcd dX3_daysNeeded_107 (pk_sub (by omega)) ?_
                refine lv_iload_n hx hcd dX3_daysNeeded_108 rfl (lv_at hl 5 rfl) ?_
                refine w_idiv (v := nI ((((B.1 1 (j)) + (spdOn B j)) - 1) / (spdOn B j))) hx hcd dX3_daysNeeded_109 (nI_ne0 (by omega) (by omega)) (pk_div (by omega) (by omega) (by omega)) ?_
                refine w_iadd (v := nI (w0 + ((((B.1 1 (j)) + (spdOn B j)) - 1) / (spdOn B j)))) hx hcd dX3_daysNeeded_110 (nI_add _ _) ?_
                exact k_reti hQ G hret hlocks h (⟨by rw [ndN, if_neg hnf, if_neg (fun z => z.elim (fun z => z hjn) (fun z => by omega)), show ndF B j (ndN B f0) 17 0 0 = w0 + 1 from (by rw [hF, show 17 - k = (16 - k) + 1 by omega, ndF, if_neg (by omega)]), if_neg (Nat.succ_ne_zero _), Nat.add_sub_cancel]; exact aOf.symm, rfl⟩) ((by first | exact Nat.le_of_ble_eq_true rfl | (dsimp only; omega))) ((by first | exact Nat.le_of_ble_eq_true rfl | (dsimp only; omega))) dX3_daysNeeded_111
              · have c_15 := cNle (tN (n := B.2 0) (by omega)) (tN (n := k) (by omega)) c_15
                refine lv_aload_n hx hcd dX3_daysNeeded_52 rfl (lv_at hl 2 rfl) ?_
                refine lv_iload_n hx hcd dX3_daysNeeded_53 rfl (lv_at hl 3 rfl) ?_
                refine lv_iload hx hcd dX3_daysNeeded_54 (lv_at hl 0 rfl) ?_
                refine k_Vi (As := [.int (nI (j)), .int (nI (k))]) (rest := []) (b := eX V (8 * 0)) G hC hB h (met_X0_hasBlocker l V S 0 B (by omega) hz hn j (by omega) k (by omega)) mw_770 kv_X0_hasBlocker ⟨rfl, rfl⟩ ⟨(by first | exact Nat.le_of_ble_eq_true rfl | (dsimp only; omega)), (by first | exact Nat.le_of_ble_eq_true rfl | (dsimp only; omega))⟩ (r_bV hC h 0 (by omega)) rfl rfl hl.1 ((by first | exact Nat.le_of_ble_eq_true rfl | (dsimp only; omega))) dX3_daysNeeded_56 ⟨(by first | exact Nat.le_of_ble_eq_true rfl | (dsimp only; omega)), (by first | exact Nat.le_of_ble_eq_true rfl | (dsimp only; omega))⟩ (fun r u H locs hp h => ?_)
                obtain ⟨rfl, rfl⟩ := hp
                refine lv_if_eq (tgt := 90) hx hcd dX3_daysNeeded_59 (by decide) (fun c_21 => ?_) (fun c_21 => ?_)
                · have c_21 := bz0 c_21
                  have f_25 : ¬ (((j < B.2 0) ∧ (k < B.2 0)) ∧ ((B.1 2 j).testBit k = true)) := fun z => Bool.noConfusion (c_21.symm.trans (band_t (band_t (decide_eq_true z.1.1) (decide_eq_true z.1.2)) z.2))
                  have hnb9 : ¬ ((j < B.2 0 ∧ k < B.2 0) ∧ (B.1 2 j).testBit k = true) := by assumption
                  refine lv_iinc (v := nI (k + 1)) (lv' := [(5, .int (nI (k + 1))), (4, .int (nI (w0))), (0, .ref (eX V (8 * 0))), (1, .int (nI (j))), (2, .int (nI (d))), (3, .int (nI (spdOn B j)))]) hx hcd dX3_daysNeeded_90 hl (k := 0) rfl (by exact nI_add (k) 1) (by decide) rfl (fun ls hl => ?_)
                  refine lv_goto (tgt := 43) hx hcd dX3_daysNeeded_93 (by decide) ?_
                  exact ih_12 (k + 1) w0 (by omega) hw (by rw [hF, show 17 - k = (17 - (k + 1)) + 1 by omega, ndF, if_pos (by omega), if_neg (fun z => hnb9 ⟨⟨z.1, by omega⟩, z.2⟩)]) (by omega) _ _ h _ (lv_sub hl [0, 1, 2, 3, 4, 5] rfl)
                · have c_21 := bz1 c_21
                  have f_22 := of_decide_eq_true (band_l (band_l c_21))
                  have f_23 := of_decide_eq_true (band_r (band_l c_21))
                  have f_24 := (band_r c_21)
                  have hb1 : j < B.2 0 := by assumption
                  have hb2 : (B.1 2 j).testBit k = true := by assumption
                  refine lv_aload_n hx hcd dX3_daysNeeded_62 rfl (lv_at hl 2 rfl) ?_
                  refine lv_iload hx hcd dX3_daysNeeded_63 (lv_at hl 0 rfl) ?_
                  refine lv_iload_n hx hcd dX3_daysNeeded_65 rfl (lv_at hl 4 rfl) ?_
                  refine lv_iconst (v := nI 1) hx hcd dX3_daysNeeded_66 (by decide) ?_
                  refine w_iadd (v := nI (d + 1)) hx hcd dX3_daysNeeded_67 (nI_add _ _) ?_
                  refine k_Si (As := [.ref (eX V (8 * 0)), .int (nI (k)), .int (nI (d + 1))]) (rest := []) G hC hB h (ih (d + 1) k (by omega) (by omega)) mw_755 ks_X3_daysNeeded ⟨rfl, rfl⟩ ⟨(by first | exact Nat.le_of_ble_eq_true rfl | (dsimp only; omega)), (by first | exact Nat.le_of_ble_eq_true rfl | (dsimp only; omega))⟩ rfl rfl hl.1 ((by first | exact Nat.le_of_ble_eq_true rfl | (dsimp only; omega))) dX3_daysNeeded_68 ⟨(by first | exact Nat.le_of_ble_eq_true rfl | (dsimp only; omega)), (by first | exact Nat.le_of_ble_eq_true rfl | (dsimp only; omega))⟩ (fun r u H locs hp h => ?_)
                  obtain ⟨rfl, hu⟩ := hp; rw [hu] at h
                  have q_27 := ndN_lt (B := B) he hr f0 k
                  refine lv_istore (lv' := [(6, .int (nI (ndN B f0 k) - 1)), (5, .int (nI (k))), (4, .int (nI (w0))), (0, .ref (eX V (8 * 0))), (1, .int (nI (j))), (2, .int (nI (d))), (3, .int (nI (spdOn B j)))]) hx hcd dX3_daysNeeded_71 hl (by decide) rfl (fun ls hl => ?_)
                  refine lv_iload hx hcd dX3_daysNeeded_73 (lv_at hl 0 rfl) ?_
                  refine lv_iconst (v := -1) hx hcd dX3_daysNeeded_75 (by decide) ?_
                  refine lv_icmp_ne (tgt := 81) hx hcd dX3_daysNeeded_76 (by decide) (fun c_28 => ?_) (fun c_28 => ?_)
                  · have c_28 := cNe (tA (n := ndN B f0 k) (by omega)) tm1 c_28
                    have e6 : nI (ndN B f0 k) - 1 = nI (ndN B f0 k - 1) := pk_sub (b := 1) (by omega)
                    rw [e6] at hl
                    refine lv_iload hx hcd dX3_daysNeeded_81 (lv_at hl 2 rfl) ?_
                    refine lv_iload hx hcd dX3_daysNeeded_83 (lv_at hl 0 rfl) ?_
                    refine va_mmax hx hcd (by rw [G.2.2.1]; exact hl.1.symm) G.2.2.2.1 (G.2.2.2.2 _ mw_774) (G.2.2.2.2 _ mw_365) (G.2.2.2.2 _ mw_70) (G.2.2.2.2 _ mw_366) ((by first | exact Nat.le_of_ble_eq_true rfl | (dsimp only; omega))) ((by first | exact Nat.le_of_ble_eq_true rfl | (dsimp only; omega))) ((by first | exact Nat.le_of_ble_eq_true rfl | (dsimp only; omega))) ((by first | exact Nat.le_of_ble_eq_true rfl | (dsimp only; omega))) dX3_daysNeeded_85 ?_
                    refine lv_topi (fun z_29 e_z_29 => ?_)
                    obtain rfl : z_29 = nI (max w0 (ndN B f0 k - 1)) := by rw [e_z_29]; exact n_max (by omega) (by omega)
                    refine lv_istore (lv' := [(4, .int (nI (max w0 (ndN B f0 k - 1)))), (6, .int (nI (ndN B f0 k - 1))), (5, .int (nI (k))), (0, .ref (eX V (8 * 0))), (1, .int (nI (j))), (2, .int (nI (d))), (3, .int (nI (spdOn B j)))]) hx hcd dX3_daysNeeded_88 hl (by decide) rfl (fun ls hl => ?_)
                    refine lv_iinc (v := nI (k + 1)) (lv' := [(5, .int (nI (k + 1))), (4, .int (nI (max w0 (ndN B f0 k - 1)))), (6, .int (nI (ndN B f0 k - 1))), (0, .ref (eX V (8 * 0))), (1, .int (nI (j))), (2, .int (nI (d))), (3, .int (nI (spdOn B j)))]) hx hcd dX3_daysNeeded_90 hl (k := 2) rfl (by exact nI_add (k) 1) (by decide) rfl (fun ls hl => ?_)
                    refine lv_goto (tgt := 43) hx hcd dX3_daysNeeded_93 (by decide) ?_
                    exact ih_12 (k + 1) (max w0 (ndN B f0 k - 1)) (by omega) (by omega) (by rw [hF, show 17 - k = (17 - (k + 1)) + 1 by omega, ndF, if_pos (by omega), if_pos ⟨hb1, hb2⟩, if_neg (by omega)]) (by omega) _ _ h _ (lv_sub hl [0, 1, 3, 4, 5, 6] rfl)
                  · have c_28 := cEq (tA (n := ndN B f0 k) (by omega)) tm1 c_28
                    refine lv_iconst (v := -1) hx hcd dX3_daysNeeded_79 (by decide) ?_
                    exact k_reti hQ G hret hlocks h (⟨by rw [ndN, if_neg hnf, if_neg (fun z => z.elim (fun z => z hjn) (fun z => by omega)), show ndF B j (ndN B f0) 17 0 0 = 0 from (by rw [hF, show 17 - k = (16 - k) + 1 by omega, ndF, if_pos (by omega), if_pos ⟨hb1, hb2⟩, if_pos (by omega)]), if_pos rfl]; decide, rfl⟩) ((by first | exact Nat.le_of_ble_eq_true rfl | (dsimp only; omega))) ((by first | exact Nat.le_of_ble_eq_true rfl | (dsimp only; omega))) dX3_daysNeeded_80
          exact L_11 (17 + 1) 0 0 (by omega) (by omega) rfl (by omega) _ _ h _ (lv_sub hl [0, 1, 3, 4, 5, 2] rfl)
        · have c_10 := cNlt (tN (n := d) (by omega)) (tN (n := 16) (by decide)) c_10
          refine lv_iconst (v := -1) hx hcd dX3_daysNeeded_35 (by decide) ?_
          exact k_reti hQ G hret hlocks h (⟨by rw [ndN, if_neg hnf, if_pos (by first | (exact Or.inl (by omega)) | (exact Or.inr (by omega)))]; decide, rfl⟩) ((by first | exact Nat.le_of_ble_eq_true rfl | (dsimp only; omega))) ((by first | exact Nat.le_of_ble_eq_true rfl | (dsimp only; omega))) dX3_daysNeeded_36
  · have c_1 := bz1 c_1
    have f_2 := of_decide_eq_true (band_l c_1)
    have f_3 := of_decide_eq_true (band_r c_1)
    refine lv_iconst (v := nI 0) hx hcd dX3_daysNeeded_8 (by decide) ?_
    exact k_reti hQ G hret hlocks h (⟨by rw [ndN, if_pos ⟨by assumption, by assumption⟩]; decide, rfl⟩) ((by first | exact Nat.le_of_ble_eq_true rfl | (dsimp only; omega))) ((by first | exact Nat.le_of_ble_eq_true rfl | (dsimp only; omega))) dX3_daysNeeded_9
theorem met_dN (l : Launch) (V : kEnv) (S : kCs) (B : kBd) (hI : bI B) : ∀ (f d j : Nat), d + f = 16 → j < 2147483647 → kI l yX3_daysNeeded cX3_daysNeeded 7 (some .int) { frames := f + 3, cells := 0, slots := 0, locals := f * 26 + 80 } V (cWs V) [.ref (eX V (8 * 0)), .int (nI j), .int (nI d)] (setB S 0 B) (fun r u => r = nI (ndN B f j) - 1 ∧ u = setB S 0 B) 0 0 := by
  intro f
  induction f with
  | zero => intro d j h hj; exact met_dN_0 l V S B hI d j (by omega) hj
  | succ f ih => intro d j h hj; exact met_dN_s l V S B hI f ih d j h hj
