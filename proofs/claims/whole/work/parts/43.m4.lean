/-! THE REFERENCE WRITES ITS NUMBERS: what becomes of the board's value. -/
def setG (M : kMs) (B : kBd) : kMs := (M.1, va_up M.2 0 (gOf B))
theorem setG_g (M : kMs) (B : kBd) : (setG M B).2 0 = gOf B := rfl
theorem setG_of {X : kMs} {B B' : kBd} {j : Nat} {v : Int32} (hX : X.2 0 = gOf B) (h : upd (gOf B) j v = gOf B') : gPut X 0 j v = setG X B' := by
  unfold gPut setG
  rw [hX, h]
theorem setG_up {X : kMs} {B B' : kBd} {j : Nat} {v : Int32} (h : upd (gOf B) j v = gOf B') : gPut (setG X B) 0 j v = setG X B' := by
  rw [setG_of (setG_g X B) h]
  unfold setG
  refine Prod.ext rfl (funext fun r => ?_)
  show va_up (va_up X.2 0 (gOf B)) 0 (gOf B') r = va_up X.2 0 (gOf B') r
  simp only [va_up]
  by_cases h : r = 0
  · rw [if_pos h, if_pos h]
  · rw [if_neg h, if_neg h, if_neg h]
theorem kpG_g (M : kMs) (q c : Nat) : (kpG M q c).2 0 = M.2 0 := by
  unfold kpG
  split <;> rfl
theorem kpG_n (M : kMs) (q c f : Nat) (h1 : f ≠ 1) (h3 : f ≠ 3) : (kpG M q c).1 f = M.1 f := by
  unfold kpG
  split
  · show (if f = 1 then _ else if f = 1 then _ else if f = 3 then _ else M.1 f) = M.1 f
    rw [if_neg h1, if_neg h1, if_neg h3]
  · show (if f = 1 then _ else if f = 3 then _ else M.1 f) = M.1 f
    rw [if_neg h1, if_neg h3]
/-- one of a story's numbers -/
theorem gOf_row {B B' : kBd} {k w : Nat} {v : Int32} (hk : k < B.2 0) (hn : B.2 0 ≤ 16) (hw : w < 5) (eN : ∀ f, f ≠ 2 → B'.2 f = B.2 f) (e3 : B'.1 3 = B.1 3) (e4 : B'.1 4 = B.1 4) (e5 : B'.1 5 = B.1 5) (e6 : B'.1 6 = B.1 6)
    (h0 : gS B' k w = v) (h1 : ∀ k' w', k' < B.2 0 → w' < 5 → ¬ (k' = k ∧ w' = w) → gS B' k' w' = gS B k' w') : upd (gOf B) (7 + 5 * k + w) v = gOf B' := by
  funext j
  show (if j = 7 + 5 * k + w then v else gOf B j) = gOf B' j
  unfold gOf
  rw [eN 0 (by decide), eN 1 (by decide), e3, e4, e5, e6]
  by_cases c1 : j < 7
  · rw [if_neg (by omega), if_pos c1, if_pos c1, eN _ (by unfold gN; split <;> decide)]
  · rw [if_neg c1, if_neg c1]
    by_cases c2 : j < 87
    · rw [if_pos c2, if_pos c2]
      by_cases c3 : (j - 7) / 5 < B.2 0
      · rw [if_pos c3, if_pos c3]
        by_cases c4 : j = 7 + 5 * k + w
        · rw [if_pos c4, c4, show (7 + 5 * k + w - 7) / 5 = k by omega, show (7 + 5 * k + w - 7) % 5 = w by omega, h0]
        · rw [if_neg c4, h1 _ _ c3 (by omega) (fun z => c4 (by omega))]
      · rw [if_neg c3, if_neg c3, if_neg (by omega)]
    · rw [if_neg c2, if_neg c2, if_neg (by omega)]
theorem upd_pts {B : kBd} {k : Nat} (p : Nat) (hk : k < B.2 0) (hn : B.2 0 ≤ 16) : upd (gOf B) (7 + 5 * k + 0) (nI p) = gOf (bSet B 0 k p) := by
  refine gOf_row hk hn (by decide) (fun f _ => rfl) rfl rfl rfl rfl ?_ ?_
  · show nI ((bSet B 0 k p).1 0 k) = nI p
    rw [bS1, if_pos ⟨rfl, rfl⟩]
  · intro k' w' hk' hw' hne
    match w', hw' with
    | 0, _ => show nI ((bSet B 0 k p).1 0 k') = nI (B.1 0 k'); rw [bS1, if_neg (fun z => hne ⟨z.2, rfl⟩)]
    | 1, _ => rfl
    | 2, _ => rfl
    | 3, _ => rfl
    | 4, _ => rfl
theorem upd_left {B : kBd} {k : Nat} (p : Nat) (hk : k < B.2 0) (hn : B.2 0 ≤ 16) : upd (gOf B) (7 + 5 * k + 1) (nI p) = gOf (bSet B 1 k p) := by
  refine gOf_row hk hn (by decide) (fun f _ => rfl) rfl rfl rfl rfl ?_ ?_
  · show nI ((bSet B 1 k p).1 1 k) = nI p
    rw [bS1, if_pos ⟨rfl, rfl⟩]
  · intro k' w' hk' hw' hne
    match w', hw' with
    | 0, _ => rfl
    | 1, _ => show nI ((bSet B 1 k p).1 1 k') = nI (B.1 1 k'); rw [bS1, if_neg (fun z => hne ⟨z.2, rfl⟩)]
    | 2, _ => rfl
    | 3, _ => rfl
    | 4, _ => rfl
theorem upd_bars {B : kBd} {k : Nat} (p : Nat) (hk : k < B.2 0) (hn : B.2 0 ≤ 16) : upd (gOf B) (7 + 5 * k + 4) (nI p) = gOf (bSet B 2 k p) := by
  refine gOf_row hk hn (by decide) (fun f _ => rfl) rfl rfl rfl rfl ?_ ?_
  · show nI ((bSet B 2 k p).1 2 k) = nI p
    rw [bS1, if_pos ⟨rfl, rfl⟩]
  · intro k' w' hk' hw' hne
    match w', hw' with
    | 0, _ => rfl
    | 1, _ => rfl
    | 2, _ => rfl
    | 3, _ => rfl
    | 4, _ => show nI ((bSet B 2 k p).1 2 k') = nI (B.1 2 k'); rw [bS1, if_neg (fun z => hne ⟨z.2, rfl⟩)]
theorem upd_planned {B : kBd} {k x v : Nat} (hk : k < B.2 0) (hn : B.2 0 ≤ 16) (h0 : pln (bPut B 2 x) k = v) (h1 : ∀ k', k' < 16 → k' ≠ k → x.testBit k' = (B.2 2).testBit k') : upd (gOf B) (7 + 5 * k + 2) (nI v) = gOf (bPut B 2 x) := by
  refine gOf_row hk hn (by decide) (fun f hf => ?_) rfl rfl rfl rfl ?_ ?_
  · rw [bP2, if_neg hf]
  · show nI (pln (bPut B 2 x) k) = nI v
    rw [h0]
  · intro k' w' hk' hw' hne
    match w', hw' with
    | 0, _ => rfl
    | 1, _ => rfl
    | 2, _ =>
      show nI (if ((bPut B 2 x).2 2).testBit k' then 1 else 0) = nI (if (B.2 2).testBit k' then 1 else 0)
      rw [show (bPut B 2 x).2 2 = x from rfl, h1 k' (by omega) (fun z => hne ⟨z, rfl⟩)]
    | 3, _ => rfl
    | 4, _ => rfl
theorem upd_plan {B : kBd} {k : Nat} (hk : k < B.2 0) (hn : B.2 0 ≤ 16) : upd (gOf B) (7 + 5 * k + 2) (nI 1) = gOf (bPut B 2 (B.2 2 ||| 2 ^ k)) := by
  refine upd_planned hk hn ?_ (fun k' _ hne => ?_)
  · show (if (B.2 2 ||| 2 ^ k).testBit k then 1 else 0) = 1
    rw [Nat.testBit_or, Nat.testBit_two_pow_self, Bool.or_true, if_pos rfl]
  · rw [Nat.testBit_or, Nat.testBit_two_pow_of_ne (fun z => hne z.symm), Bool.or_false]
theorem upd_unpl {B : kBd} {k : Nat} (hk : k < B.2 0) (hn : B.2 0 ≤ 16) : upd (gOf B) (7 + 5 * k + 2) (nI 0) = gOf (bPut B 2 (andn (B.2 2) (2 ^ k))) := by
  have h16 : ∀ i, i < 16 → Nat.testBit 65535 i = true := by decide
  refine upd_planned hk hn ?_ (fun k' hk' hne => ?_)
  · show (if (andn (B.2 2) (2 ^ k)).testBit k then 1 else 0) = 0
    unfold andn
    rw [Nat.testBit_and, Nat.testBit_xor, Nat.testBit_two_pow_self, h16 k (by omega)]
    simp
  · unfold andn
    rw [Nat.testBit_and, Nat.testBit_xor, Nat.testBit_two_pow_of_ne (fun z => hne z.symm), h16 k' hk']
    simp
/-- active, days, passed, begun, sprints -/
theorem upd_num {B : kBd} {f : Nat} (v : Nat) (h2 : 2 ≤ f) (hf : f < 7) : upd (gOf B) f (nI v) = gOf (bPut B (gN f) v) := by
  have e : ∀ g, g < 3 → (bPut B (gN f) v).2 g = B.2 g := by
    intro g hg
    rw [bP2, if_neg]
    match f, h2, hf with
    | 2, _, _ => show g ≠ 3; omega
    | 3, _, _ => show g ≠ 4; omega
    | 4, _, _ => show g ≠ 5; omega
    | 5, _, _ => show g ≠ 6; omega
    | 6, _, _ => show g ≠ 7; omega
  have eS : ∀ k w, gS (bPut B (gN f) v) k w = gS B k w := by
    intro k w
    match w with
    | 0 => rfl
    | 1 => rfl
    | 2 => show nI (if ((bPut B (gN f) v).2 2).testBit k then 1 else 0) = _; rw [e 2 (by decide)]; rfl
    | 3 => rfl
    | w + 4 => rfl
  funext j
  show (if j = f then nI v else gOf B j) = gOf (bPut B (gN f) v) j
  unfold gOf
  rw [e 0 (by decide), e 1 (by decide)]
  by_cases c1 : j < 7
  · rw [if_pos c1, if_pos c1]
    by_cases c2 : j = f
    · rw [if_pos c2, c2, bP2, if_pos rfl]
    · rw [if_neg c2, bP2, if_neg]
      intro z
      apply c2
      have hj : ∀ a, a < 7 → ∀ b, b < 7 → gN a = gN b → a = b := by decide
      exact hj j c1 f hf z
  · rw [if_neg c1, if_neg c1, if_neg (by omega)]
    simp only [eS]
    rfl
theorem upd_vel {B : kBd} {k : Nat} (v : Nat) (hk : k < 9) : upd (gOf B) (95 + k) (nI v) = gOf (bSet B 6 k v) := by
  have eS : ∀ k' w, gS (bSet B 6 k v) k' w = gS B k' w := by
    intro k' w
    match w with
    | 0 => rfl
    | 1 => rfl
    | 2 => rfl
    | 3 => rfl
    | w + 4 => rfl
  funext j
  show (if j = 95 + k then nI v else gOf B j) = gOf (bSet B 6 k v) j
  unfold gOf
  simp only [eS, bS2]
  by_cases c1 : j < 95
  · rw [if_neg (by omega)]
    by_cases c2 : j < 7
    · rw [if_pos c2, if_pos c2]
    · rw [if_neg c2, if_neg c2]
      by_cases c3 : j < 87
      · rw [if_pos c3, if_pos c3]
      · rw [if_neg c3, if_neg c3, if_pos c1, if_pos c1]; rfl
  · have n1 : ¬ j < 7 := by omega
    have n2 : ¬ j < 87 := by omega
    simp only [if_neg n1, if_neg n2, if_neg c1]
    by_cases c2 : j < 104
    · simp only [if_pos c2]
      rw [bS1]
      by_cases c3 : j = 95 + k
      · rw [if_pos c3, if_pos ⟨rfl, by omega⟩]
      · rw [if_neg c3, if_neg (fun z => c3 (by omega))]
    · simp only [if_neg c2]
      rw [if_neg (by omega)]; rfl
theorem upd_burn {B : kBd} {k : Nat} (v : Nat) (hk : k < 11) : upd (gOf B) (104 + k) (nI v) = gOf (bSet B 5 k v) := by
  have eS : ∀ k' w, gS (bSet B 5 k v) k' w = gS B k' w := by
    intro k' w
    match w with
    | 0 => rfl
    | 1 => rfl
    | 2 => rfl
    | 3 => rfl
    | w + 4 => rfl
  funext j
  show (if j = 104 + k then nI v else gOf B j) = gOf (bSet B 5 k v) j
  unfold gOf
  simp only [eS, bS2]
  by_cases c1 : j < 104
  · rw [if_neg (by omega)]
    by_cases c2 : j < 7
    · rw [if_pos c2, if_pos c2]
    · rw [if_neg c2, if_neg c2]
      by_cases c3 : j < 87
      · rw [if_pos c3, if_pos c3]
      · rw [if_neg c3, if_neg c3]
        by_cases c4 : j < 95
        · rw [if_pos c4, if_pos c4]; rfl
        · rw [if_neg c4, if_neg c4, if_pos c1, if_pos c1]; rfl
  · have n1 : ¬ j < 7 := by omega
    have n2 : ¬ j < 87 := by omega
    have n3 : ¬ j < 95 := by omega
    simp only [if_neg n1, if_neg n2, if_neg n3, if_neg c1]
    by_cases c2 : j < 115
    · simp only [if_pos c2]
      rw [bS1]
      by_cases c3 : j = 104 + k
      · rw [if_pos c3, if_pos ⟨rfl, by omega⟩]
      · rw [if_neg c3, if_neg (fun z => c3 (by omega))]
    · simp only [if_neg c2]
      rw [if_neg (by omega)]
set_option maxHeartbeats 4000000 in
set_option maxRecDepth 100000 in
/-- save() -/
theorem met_X4_save (l : Launch) (V : kEnv) (M : kMs) (B : kBd) (hg : M.2 0 = gOf B) (hI : bI B) : kI l yX4_save cX4_save 1 (some .int) { frames := 1, cells := 0, slots := 0, locals := 24 } V (mWs V) [.ref (eX V 500)] (M) (fun r u => r = nI (B.2 0) ∧ u = cpG (nPut (nPut M 3 (nI 0)) 0 (nI 1)) 0 0 2 0 115) 0 0 := by
  refine kI_of (by decide +kernel) (Nat.le_of_ble_eq_true rfl) ?_
  intro pg e s m args below meth c G hret hlocks hC hB h ls hl Q hQ
  have hl : lv_has ls 1 [(0, .ref (eX V 500))] := hl
  have hx := G.1
  have hcd := G.2.1
  have hI0 := hI
  obtain ⟨hz, hbn, hn, hm, h3, h54, h4, h7, hr, he, ha, hact, h5⟩ := hI
  refine lv_aload_n hx hcd dX4_save_0 rfl (lv_at hl 0 rfl) ?_
  refine lv_iconst (v := nI 0) hx hcd dX4_save_1 (by decide) ?_
  refine r_mP G hC h 3 (by decide) mw_1479 (fun z => absurd z (by decide)) rfl dX4_save_2 (fun H locs h => ?_)
  refine lv_aload_n hx hcd dX4_save_5 rfl (lv_at hl 0 rfl) ?_
  refine lv_iconst (v := nI 1) hx hcd dX4_save_6 (by decide) ?_
  refine r_mP G hC h 0 (by decide) mw_1476 (fun _ => Or.inr rfl) rfl dX4_save_7 (fun H locs h => ?_)
  refine lv_aload_n hx hcd dX4_save_10 rfl (lv_at hl 0 rfl) ?_
  refine r_mA G hC h 0 (by decide) mw_1472 dX4_save_11 ?_
  refine lv_iconst (v := nI 0) hx hcd dX4_save_14 (by decide) ?_
  refine lv_aload_n hx hcd dX4_save_15 rfl (lv_at hl 0 rfl) ?_
  refine r_mA G hC h 2 (by decide) mw_1474 dX4_save_16 ?_
  refine lv_iconst (v := nI 0) hx hcd dX4_save_19 (by decide) ?_
  refine k_Sv (As := [.ref (eX V (501 + 0)), .int (nI 0), .ref (eX V (501 + 2)), .int (nI 0)]) (rest := []) G hC hB h (met_X4_copies l V (nPut (nPut M 3 (nI 0)) 0 (nI 1)) 0 0 2 0 (by decide) (by decide) (by decide) (by decide) (by decide) (by decide) (by decide)) mw_1553 ks_X4_copies ⟨rfl, rfl⟩ ⟨Nat.le_of_ble_eq_true rfl, Nat.le_of_ble_eq_true rfl⟩ rfl rfl hl.1 (Nat.le_of_ble_eq_true rfl) dX4_save_20 ⟨Nat.le_of_ble_eq_true rfl, Nat.le_of_ble_eq_true rfl⟩ (fun u H locs hp h => ?_)
  have hu9 := hp
  rw [hu9] at h
  refine lv_aload_n hx hcd dX4_save_23 rfl (lv_at hl 0 rfl) ?_
  refine r_mA G hC h 0 (by decide) mw_1472 dX4_save_24 ?_
  refine lv_iconst (v := nI 0) hx hcd dX4_save_27 (by decide) ?_
  refine r_mL G hC h 0 (0) (by decide) (by decide) rfl (show 0 < 115 by omega) (x := nI (B.2 0)) (gOf_n hg (f := 0) (by decide)) dX4_save_28 ?_
  have q_1 := hz.2 0
  exact k_reti hQ G hret hlocks h (⟨rfl, rfl⟩) (Nat.le_of_ble_eq_true rfl) (Nat.le_of_ble_eq_true rfl) dX4_save_29
set_option maxHeartbeats 4000000 in
set_option maxRecDepth 100000 in
/-- undo() -/
theorem met_X4_undo (l : Launch) (V : kEnv) (M : kMs) (c0 : Nat) (hc0 : M.1 1 = nI c0) (hc8 : c0 ≤ 8) : kI l yX4_undo cX4_undo 1 (some .int) { frames := 1, cells := 0, slots := 0, locals := 24 } V (mWs V) [.ref (eX V 500)] (M) (fun r u => (c0 ≠ 0 ∧ r = nI (c0 - 1) ∧ u = cpG (nPut (nPut M 3 (nI 0)) 1 (nI (c0 - 1))) 1 (115 * (c0 - 1)) 0 0 115) ∨ (c0 = 0 ∧ r = nI 0 ∧ u = nPut M 3 (nI 1))) 0 0 := by
  refine kI_of (by decide +kernel) (Nat.le_of_ble_eq_true rfl) ?_
  intro pg e s m args below meth c G hret hlocks hC hB h ls hl Q hQ
  have hl : lv_has ls 1 [(0, .ref (eX V 500))] := hl
  have hx := G.1
  have hcd := G.2.1
  refine lv_aload_n hx hcd dX4_undo_0 rfl (lv_at hl 0 rfl) ?_
  refine lv_aload_n hx hcd dX4_undo_1 rfl (lv_at hl 0 rfl) ?_
  refine r_mN G hC h 1 (by decide) mw_1477 (x := nI (c0)) hc0 dX4_undo_2 ?_
  refine lv_if_ne (tgt := 12) hx hcd dX4_undo_5 (by decide) (fun c_1 => ?_) (fun c_1 => ?_)
  · have c_1 := cNe (tN (n := c0) (by omega)) t0 c_1
    refine lv_iconst (v := nI 0) hx hcd dX4_undo_12 (by decide) ?_
    refine k_Vi (As := [.int (nI 0)]) (rest := []) (b := eX V 500) G hC hB h (met_X4_fails l V M (nI 0)) mw_1545 kv_X4_fails ⟨rfl, rfl⟩ ⟨Nat.le_of_ble_eq_true rfl, Nat.le_of_ble_eq_true rfl⟩ (r_mV hC h) rfl rfl hl.1 (Nat.le_of_ble_eq_true rfl) dX4_undo_13 ⟨Nat.le_of_ble_eq_true rfl, Nat.le_of_ble_eq_true rfl⟩ (fun r u H locs hp h => ?_)
    obtain ⟨hr9, hu9⟩ := hp
    obtain rfl : r = nI 0 := (hr9.trans (by decide))
    rw [hu9] at h
    refine lv_if_eq (tgt := 21) hx hcd dX4_undo_16 (by decide) (fun _ => ?_) (fun c_2 => absurd c_2 (by decide))
    refine lv_aload_n hx hcd dX4_undo_21 rfl (lv_at hl 0 rfl) ?_
    refine lv_dup hx hcd dX4_undo_22 rfl ?_
    refine r_mN G hC h 1 (by decide) mw_1477 (x := nI (c0)) hc0 dX4_undo_23 ?_
    refine lv_iconst (v := nI 1) hx hcd dX4_undo_26 (by decide) ?_
    refine w_isub (v := nI (c0 - 1)) hx hcd dX4_undo_27 (pk_sub (by omega)) ?_
    refine r_mP G hC h 1 (by decide) mw_1477 (fun z => absurd z (by decide)) rfl dX4_undo_28 (fun H locs h => ?_)
    refine lv_aload_n hx hcd dX4_undo_31 rfl (lv_at hl 0 rfl) ?_
    refine r_mA G hC h 1 (by decide) mw_1473 dX4_undo_32 ?_
    refine lv_bipush (v := nI 115) hx hcd dX4_undo_35 (by decide) ?_
    refine lv_aload_n hx hcd dX4_undo_37 rfl (lv_at hl 0 rfl) ?_
    refine r_mN G hC h 1 (by decide) mw_1477 (x := nI (c0 - 1)) rfl dX4_undo_38 ?_
    refine w_imul (v := nI (115 * (c0 - 1))) hx hcd dX4_undo_41 (pk_mul _ _) ?_
    refine lv_aload_n hx hcd dX4_undo_42 rfl (lv_at hl 0 rfl) ?_
    refine r_mA G hC h 0 (by decide) mw_1472 dX4_undo_43 ?_
    refine lv_iconst (v := nI 0) hx hcd dX4_undo_46 (by decide) ?_
    refine k_Sv (As := [.ref (eX V (501 + 1)), .int (nI (115 * (c0 - 1))), .ref (eX V (501 + 0)), .int (nI 0)]) (rest := []) G hC hB h (met_X4_copies l V (nPut (nPut M 3 (nI 0)) 1 (nI (c0 - 1))) 1 (115 * (c0 - 1)) 0 0 (by decide) (by decide) (by decide) (by decide) (by decide) (by show _ ≤ 920; omega) (by decide)) mw_1553 ks_X4_copies ⟨rfl, rfl⟩ ⟨Nat.le_of_ble_eq_true rfl, Nat.le_of_ble_eq_true rfl⟩ rfl rfl hl.1 (Nat.le_of_ble_eq_true rfl) dX4_undo_47 ⟨Nat.le_of_ble_eq_true rfl, Nat.le_of_ble_eq_true rfl⟩ (fun u H locs hp h => ?_)
    have hu9 := hp
    rw [hu9] at h
    refine lv_aload_n hx hcd dX4_undo_50 rfl (lv_at hl 0 rfl) ?_
    refine r_mN G hC h 1 (by decide) mw_1477 (x := nI (c0 - 1)) rfl dX4_undo_51 ?_
    exact k_reti hQ G hret hlocks h (Or.inl ⟨by omega, rfl, rfl⟩) (Nat.le_of_ble_eq_true rfl) (Nat.le_of_ble_eq_true rfl) dX4_undo_54
  · have c_1 := cEq (tN (n := c0) (by omega)) t0 c_1
    refine lv_iconst (v := nI 1) hx hcd dX4_undo_8 (by decide) ?_
    refine lv_goto (tgt := 13) hx hcd dX4_undo_9 (by decide) ?_
    refine k_Vi (As := [.int (nI 1)]) (rest := []) (b := eX V 500) G hC hB h (met_X4_fails l V M (nI 1)) mw_1545 kv_X4_fails ⟨rfl, rfl⟩ ⟨Nat.le_of_ble_eq_true rfl, Nat.le_of_ble_eq_true rfl⟩ (r_mV hC h) rfl rfl hl.1 (Nat.le_of_ble_eq_true rfl) dX4_undo_13 ⟨Nat.le_of_ble_eq_true rfl, Nat.le_of_ble_eq_true rfl⟩ (fun r u H locs hp h => ?_)
    obtain ⟨hr9, hu9⟩ := hp
    obtain rfl : r = nI 1 := (hr9.trans (by decide))
    rw [hu9] at h
    refine lv_if_eq (tgt := 21) hx hcd dX4_undo_16 (by decide) (fun c_5 => absurd c_5 (by decide)) (fun _ => ?_)
    refine lv_iconst (v := nI 0) hx hcd dX4_undo_19 (by decide) ?_
    exact k_reti hQ G hret hlocks h (Or.inr ⟨by omega, rfl, rfl⟩) (Nat.le_of_ble_eq_true rfl) (Nat.le_of_ble_eq_true rfl) dX4_undo_20
