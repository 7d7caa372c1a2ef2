/-! THE REFERENCE: what a story depends on. -/
def unI (B : kBd) (z i : Nat) : Nat := z ||| orUp (fun k => if z.testBit k then B.1 2 k else 0) i
def uF : Nat := 65537
def unN (B : kBd) : Nat → Nat → Nat → Nat
  | 0, z, _ => z
  | f + 1, z, w => if z = w then z else unN B f (unI B z (B.2 0)) z
def und (B : kBd) (k : Nat) : Nat := unN B uF (B.1 2 k) 0
theorem unI_0 (B : kBd) (z : Nat) : unI B z 0 = z := Nat.or_zero z
theorem unI_t {B : kBd} {z i a : Nat} (ha : a = unI B z i) (h : z.testBit i = true) : a ||| B.1 2 i = unI B z (i + 1) := by
  rw [ha]
  show (z ||| orUp _ i) ||| B.1 2 i = z ||| (orUp _ i ||| (if z.testBit i then B.1 2 i else 0))
  rw [if_pos h, Nat.or_assoc]
theorem unI_z {B : kBd} {z i a : Nat} (ha : a = unI B z i) (h : z.testBit i = false) : a ||| 0 = unI B z (i + 1) := by
  rw [ha]
  show (z ||| orUp _ i) ||| 0 = z ||| (orUp _ i ||| (if z.testBit i then B.1 2 i else 0))
  rw [if_neg (by rw [h]; decide), Nat.or_assoc]
theorem unI_lt {B : kBd} (hz : kSm B) {z : Nat} (h : z < 65536) (i : Nat) : unI B z i < 65536 := by
  refine or16 h (orUp_lt (fun k => ?_) i)
  split
  · exact hz.1 2 k
  · decide
theorem unN_lt {B : kBd} (hz : kSm B) : ∀ f z w, z < 65536 → unN B f z w < 65536
  | 0, z, w, h => h
  | f + 1, z, w, h => by
    unfold unN
    split
    · exact h
    · exact unN_lt hz f _ _ (unI_lt hz h _)
theorem und_lt {B : kBd} (hz : kSm B) (k : Nat) : und B k < 65536 := unN_lt hz _ _ _ (hz.1 2 k)
theorem unN_e {B : kBd} {f z w : Nat} (hf : 1 ≤ f) (h : z = w) : unN B f z w = z := by
  obtain ⟨g, rfl⟩ : ∃ g, f = g + 1 := ⟨f - 1, by omega⟩
  rw [unN, if_pos h]
theorem unN_s {B : kBd} {f z w : Nat} (h : z ≠ w) : unN B (f + 1) z w = unN B f (unI B z (B.2 0)) z := by
  rw [unN, if_neg h]
theorem kv_X4_depends : kV yX4_depends cX4_depends 3 (some .boolean) 2 := ⟨mw_1597, mw_29, mw_64, mw_1598, by decide, by decide, by decide +kernel⟩
theorem kv_X4_under : kV yX4_under cX4_under 5 (some .int) 1 := ⟨mw_1601, mw_30, mw_64, mw_1602, by decide, by decide, by decide +kernel⟩
set_option maxHeartbeats 4000000 in
set_option maxRecDepth 100000 in
/-- under(k) -/
theorem met_X4_under (l : Launch) (V : kEnv) (M : kMs) (B : kBd) (hg : M.2 0 = gOf B) (hI : bI B) (k : Nat) (hk : k < B.2 0) : kI l yX4_under cX4_under 5 (some .int) { frames := 1, cells := 0, slots := 0, locals := 22 } V (mWs V) [.ref (eX V 500), .int (nI (k))] (M) (fun r u => r = nI (und B k) ∧ u = M) 0 0 := by
  refine kI_of (by decide +kernel) (Nat.le_of_ble_eq_true rfl) ?_
  intro pg e s m args below meth c G hret hlocks hC hB h ls hl Q hQ
  have hl : lv_has ls 5 [(0, .ref (eX V 500)), (1, .int (nI (k)))] := hl
  have hx := G.1
  have hcd := G.2.1
  have hI0 := hI
  obtain ⟨hz, hbn, hn, hm, h3, h54, h4, h7, hr, he, ha, hact, h5⟩ := hI
  refine lv_aload_n hx hcd dX4_under_0 rfl (lv_at hl 0 rfl) ?_
  refine lv_iload_n hx hcd dX4_under_1 rfl (lv_at hl 1 rfl) ?_
  refine lv_iconst (v := nI 4) hx hcd dX4_under_2 (by decide) ?_
  refine k_Vi (As := [.int (nI (k)), .int (nI 4)]) (rest := []) (b := eX V 500) G hC hB h (met_X4_of l V M k 4 (by omega) (by decide)) mw_1572 kv_X4_of ⟨rfl, rfl⟩ ⟨Nat.le_of_ble_eq_true rfl, Nat.le_of_ble_eq_true rfl⟩ (r_mV hC h) rfl rfl hl.1 (Nat.le_of_ble_eq_true rfl) dX4_under_3 ⟨Nat.le_of_ble_eq_true rfl, Nat.le_of_ble_eq_true rfl⟩ (fun r u H locs hp h => ?_)
  obtain ⟨hr9, hu9⟩ := hp
  obtain rfl : r = nI (B.1 2 k) := (hr9.trans (gOf_s hg hn (k := k) (w := 4) (by omega) (by decide)))
  rw [hu9] at h
  have q_1 := hz.1 2 k
  refine lv_istore_n (lv' := [(2, .int (nI (B.1 2 k))), (0, .ref (eX V 500)), (1, .int (nI (k)))]) hx hcd dX4_under_6 rfl hl (by decide) rfl (fun ls hl => ?_)
  refine lv_iconst (v := nI 0) hx hcd dX4_under_7 (by decide) ?_
  refine lv_istore_n (lv' := [(3, .int (nI 0)), (2, .int (nI (B.1 2 k))), (0, .ref (eX V 500)), (1, .int (nI (k)))]) hx hcd dX4_under_8 rfl hl (by decide) rfl (fun ls hl => ?_)
  have L_2 : ∀ (fu_4 : Nat) (z9 : Nat) (w9 : Nat) (f9 : Nat) (hz9 : z9 < 65536) (hwz : w9 ≤ z9) (hf9 : 65537 - w9 ≤ f9) (hF : und B k = unN B f9 z9 w9), 65537 - w9 < fu_4 → ∀ (H : Heap) (locs : List Loc), cH V s H locs (mWs V M) → ∀ ls : Array Slot, lv_has ls 5 [(2, .int (nI (z9))), (3, .int (nI (w9))), (0, .ref (eX V 500)), (1, .int (nI (k)))] → W pg l e { frames := 1, cells := 0, slots := 0, locals := 22 } s m args below meth c H locs 0 0 Q (F0 m 9 ls []) := by
    intro fu_4
    induction fu_4 with
    | zero => intro z9 w9 f9 hz9 hwz hf9 hF hm; exact absurd hm (Nat.not_lt_zero _)
    | succ fu_4 ih_3 =>
      intro z9 w9 f9 hz9 hwz hf9 hF hm H locs h ls hl
      refine lv_iload_n hx hcd dX4_under_9 rfl (lv_at hl 0 rfl) ?_
      refine lv_iload_n hx hcd dX4_under_10 rfl (lv_at hl 1 rfl) ?_
      refine lv_icmp_eq (tgt := 63) hx hcd dX4_under_11 (by decide) (fun c_5 => ?_) (fun c_5 => ?_)
      · have c_5 := cEq (tN (n := z9) (by omega)) (tN (n := w9) (by omega)) c_5
        refine lv_iload_n hx hcd dX4_under_63 rfl (lv_at hl 0 rfl) ?_
        exact k_reti hQ G hret hlocks h (⟨by rw [hF, unN_e (by omega) (by omega)], rfl⟩) (Nat.le_of_ble_eq_true rfl) (Nat.le_of_ble_eq_true rfl) dX4_under_64
      · have c_5 := cNe (tN (n := z9) (by omega)) (tN (n := w9) (by omega)) c_5
        obtain ⟨f8, rfl⟩ : ∃ f8, f9 = f8 + 1 := ⟨f9 - 1, by omega⟩
        refine lv_iload_n hx hcd dX4_under_14 rfl (lv_at hl 0 rfl) ?_
        refine lv_istore_n (lv' := [(3, .int (nI (z9))), (2, .int (nI (z9))), (0, .ref (eX V 500)), (1, .int (nI (k)))]) hx hcd dX4_under_15 rfl hl (by decide) rfl (fun ls hl => ?_)
        refine lv_iconst (v := nI 0) hx hcd dX4_under_16 (by decide) ?_
        refine lv_istore (lv' := [(4, .int (nI 0)), (3, .int (nI (z9))), (2, .int (nI (z9))), (0, .ref (eX V 500)), (1, .int (nI (k)))]) hx hcd dX4_under_17 hl (by decide) rfl (fun ls hl => ?_)
        have L_6 : ∀ (fu_8 : Nat) (i : Nat) (acc : Nat) (hi : i ≤ B.2 0) (ha9 : acc = unI B z9 i) (hb2 : acc < 65536) (hge : z9 ≤ acc), B.2 0 - i < fu_8 → ∀ (H : Heap) (locs : List Loc), cH V s H locs (mWs V M) → ∀ ls : Array Slot, lv_has ls 5 [(4, .int (nI (i))), (2, .int (nI (acc))), (3, .int (nI (z9))), (0, .ref (eX V 500)), (1, .int (nI (k)))] → W pg l e { frames := 1, cells := 0, slots := 0, locals := 22 } s m args below meth c H locs 0 0 Q (F0 m 19 ls []) := by
          intro fu_8
          induction fu_8 with
          | zero => intro i acc hi ha9 hb2 hge hm; exact absurd hm (Nat.not_lt_zero _)
          | succ fu_8 ih_7 =>
            intro i acc hi ha9 hb2 hge hm H locs h ls hl
            refine lv_iload hx hcd dX4_under_19 (lv_at hl 0 rfl) ?_
            refine lv_aload_n hx hcd dX4_under_21 rfl (lv_at hl 3 rfl) ?_
            refine r_mA G hC h 0 (by decide) mw_1472 dX4_under_22 ?_
            refine lv_iconst (v := nI 0) hx hcd dX4_under_25 (by decide) ?_
            refine r_mL G hC h 0 (0) (by decide) (by decide) rfl (show 0 < 115 by omega) (x := nI (B.2 0)) (gOf_n hg (f := 0) (by decide)) dX4_under_26 ?_
            have q_9 := hz.2 0
            refine lv_icmp_ge (tgt := 60) hx hcd dX4_under_27 (by decide) (fun c_10 => ?_) (fun c_10 => ?_)
            · have c_10 := cLe (tN (n := B.2 0) (by omega)) (tN (n := i) (by omega)) c_10
              refine lv_goto (tgt := 9) hx hcd dX4_under_60 (by decide) ?_
              exact ih_3 acc z9 f8 hb2 hge (by omega) (by rw [hF, unN_s (by omega), ha9, show i = B.2 0 by omega]) (by omega) _ _ h _ (lv_sub hl [1, 2, 3, 4] rfl)
            · have c_10 := cNle (tN (n := B.2 0) (by omega)) (tN (n := i) (by omega)) c_10
              refine lv_iload_n hx hcd dX4_under_30 rfl (lv_at hl 1 rfl) ?_
              refine lv_iload_n hx hcd dX4_under_31 rfl (lv_at hl 2 rfl) ?_
              refine lv_iload hx hcd dX4_under_32 (lv_at hl 0 rfl) ?_
              refine w_ishr (v := nI (z9 / 2 ^ i)) hx hcd dX4_under_34 (n_shr (by omega) (by omega)) ?_
              refine lv_iconst (v := nI 1) hx hcd dX4_under_35 (by decide) ?_
              refine w_iand (v := nI ((z9 / 2 ^ i) % 2)) hx hcd dX4_under_36 (n_and1' _) ?_
              refine lv_iconst (v := nI 1) hx hcd dX4_under_37 (by decide) ?_
              refine lv_icmp_ne (tgt := 51) hx hcd dX4_under_38 (by decide) (fun c_13 => ?_) (fun c_13 => ?_)
              · have c_13 := cNe (tN (n := (z9 / 2 ^ i) % 2) (by omega)) (tN (n := 1) (by decide)) c_13
                refine lv_iconst (v := nI 0) hx hcd dX4_under_51 (by decide) ?_
                refine w_ior (v := nI (acc ||| 0)) hx hcd dX4_under_52 (n_or _ _) ?_
                have q_14 : acc ||| 0 < 65536 := or16 (by first | omega | exact p16 (by omega) | assumption) (by first | omega | exact p16 (by omega) | assumption)
                refine lv_istore_n (lv' := [(2, .int (nI (acc ||| 0))), (4, .int (nI (i))), (3, .int (nI (z9))), (0, .ref (eX V 500)), (1, .int (nI (k)))]) hx hcd dX4_under_53 rfl hl (by decide) rfl (fun ls hl => ?_)
                refine lv_iinc (v := nI (i + 1)) (lv' := [(4, .int (nI (i + 1))), (2, .int (nI (acc ||| 0))), (3, .int (nI (z9))), (0, .ref (eX V 500)), (1, .int (nI (k)))]) hx hcd dX4_under_54 hl (k := 1) rfl (by exact nI_add (i) 1) (by decide) rfl (fun ls hl => ?_)
                refine lv_goto (tgt := 19) hx hcd dX4_under_57 (by decide) ?_
                exact ih_7 (i + 1) (acc ||| 0) (by omega) (unI_z ha9 (tb_f (by omega))) (or16 hb2 (by decide)) (Nat.le_trans hge Nat.left_le_or) (by omega) _ _ h _ (lv_sub hl [0, 1, 2, 3, 4] rfl)
              · have c_13 := cEq (tN (n := (z9 / 2 ^ i) % 2) (by omega)) (tN (n := 1) (by decide)) c_13
                refine lv_aload_n hx hcd dX4_under_41 rfl (lv_at hl 3 rfl) ?_
                refine lv_iload hx hcd dX4_under_42 (lv_at hl 0 rfl) ?_
                refine lv_iconst (v := nI 4) hx hcd dX4_under_44 (by decide) ?_
                refine k_Vi (As := [.int (nI (i)), .int (nI 4)]) (rest := [.int (nI (acc))]) (b := eX V 500) G hC hB h (met_X4_of l V M i 4 (by omega) (by decide)) mw_1572 kv_X4_of ⟨rfl, rfl⟩ ⟨Nat.le_of_ble_eq_true rfl, Nat.le_of_ble_eq_true rfl⟩ (r_mV hC h) rfl rfl hl.1 (Nat.le_of_ble_eq_true rfl) dX4_under_45 ⟨Nat.le_of_ble_eq_true rfl, Nat.le_of_ble_eq_true rfl⟩ (fun r u H locs hp h => ?_)
                obtain ⟨hr9, hu9⟩ := hp
                obtain rfl : r = nI (B.1 2 i) := (hr9.trans (gOf_s hg hn (k := i) (w := 4) (by omega) (by decide)))
                rw [hu9] at h
                have q_15 := hz.1 2 i
                refine lv_goto (tgt := 52) hx hcd dX4_under_48 (by decide) ?_
                refine w_ior (v := nI (acc ||| (B.1 2 i))) hx hcd dX4_under_52 (n_or _ _) ?_
                have q_16 : acc ||| (B.1 2 i) < 65536 := or16 (by first | omega | exact p16 (by omega) | assumption) (by first | omega | exact p16 (by omega) | assumption)
                refine lv_istore_n (lv' := [(2, .int (nI (acc ||| (B.1 2 i)))), (4, .int (nI (i))), (3, .int (nI (z9))), (0, .ref (eX V 500)), (1, .int (nI (k)))]) hx hcd dX4_under_53 rfl hl (by decide) rfl (fun ls hl => ?_)
                refine lv_iinc (v := nI (i + 1)) (lv' := [(4, .int (nI (i + 1))), (2, .int (nI (acc ||| (B.1 2 i)))), (3, .int (nI (z9))), (0, .ref (eX V 500)), (1, .int (nI (k)))]) hx hcd dX4_under_54 hl (k := 1) rfl (by exact nI_add (i) 1) (by decide) rfl (fun ls hl => ?_)
                refine lv_goto (tgt := 19) hx hcd dX4_under_57 (by decide) ?_
                exact ih_7 (i + 1) (acc ||| (B.1 2 i)) (by omega) (unI_t ha9 (tb_t (by omega))) (or16 hb2 (hz.1 2 i)) (Nat.le_trans hge Nat.left_le_or) (by omega) _ _ h _ (lv_sub hl [0, 1, 2, 3, 4] rfl)
        exact L_6 (B.2 0 + 1) 0 z9 (Nat.zero_le _) (unI_0 _ _).symm hz9 (Nat.le_refl _) (by omega) _ _ h _ (lv_sub hl [0, 2, 1, 3, 4] rfl)
  exact L_2 (65537 + 1) (B.1 2 k) 0 uF (hz.1 2 k) (Nat.zero_le _) (by unfold uF; omega) rfl (by omega) _ _ h _ (lv_sub hl [1, 0, 2, 3] rfl)
set_option maxHeartbeats 4000000 in
set_option maxRecDepth 100000 in
/-- depends(k, j) -/
theorem met_X4_depends (l : Launch) (V : kEnv) (M : kMs) (B : kBd) (hg : M.2 0 = gOf B) (hI : bI B) (k : Nat) (hk : k < B.2 0) (j : Nat) (hj : j < 31) : kI l yX4_depends cX4_depends 3 (some .boolean) { frames := 2, cells := 0, slots := 0, locals := 46 } V (mWs V) [.ref (eX V 500), .int (nI (k)), .int (nI (j))] (M) (fun r u => r = bz ((und B k).testBit j) ∧ u = M) 0 0 := by
  refine kI_of (by decide +kernel) (Nat.le_of_ble_eq_true rfl) ?_
  intro pg e s m args below meth c G hret hlocks hC hB h ls hl Q hQ
  have hl : lv_has ls 3 [(0, .ref (eX V 500)), (1, .int (nI (k))), (2, .int (nI (j)))] := hl
  have hx := G.1
  have hcd := G.2.1
  have hI0 := hI
  obtain ⟨hz, hbn, hn, hm, h3, h54, h4, h7, hr, he, ha, hact, h5⟩ := hI
  refine lv_aload_n hx hcd dX4_depends_0 rfl (lv_at hl 0 rfl) ?_
  refine lv_iload_n hx hcd dX4_depends_1 rfl (lv_at hl 1 rfl) ?_
  refine k_Vi (As := [.int (nI (k))]) (rest := []) (b := eX V 500) G hC hB h (met_X4_under l V M B hg hI0 k (by omega)) mw_1599 kv_X4_under ⟨rfl, rfl⟩ ⟨Nat.le_of_ble_eq_true rfl, Nat.le_of_ble_eq_true rfl⟩ (r_mV hC h) rfl rfl hl.1 (Nat.le_of_ble_eq_true rfl) dX4_depends_2 ⟨Nat.le_of_ble_eq_true rfl, Nat.le_of_ble_eq_true rfl⟩ (fun r u H locs hp h => ?_)
  obtain ⟨hr9, hu9⟩ := hp
  obtain rfl : r = nI (und B k) := hr9
  rw [hu9] at h
  have q_1 := und_lt hz k
  refine lv_iload_n hx hcd dX4_depends_5 rfl (lv_at hl 2 rfl) ?_
  refine w_ishr (v := nI ((und B k) / 2 ^ j)) hx hcd dX4_depends_6 (n_shr (by omega) (by omega)) ?_
  refine lv_iconst (v := nI 1) hx hcd dX4_depends_7 (by decide) ?_
  refine w_iand (v := nI (((und B k) / 2 ^ j) % 2)) hx hcd dX4_depends_8 (n_and1' _) ?_
  refine lv_iconst (v := nI 1) hx hcd dX4_depends_9 (by decide) ?_
  refine lv_icmp_ne (tgt := 17) hx hcd dX4_depends_10 (by decide) (fun c_4 => ?_) (fun c_4 => ?_)
  · have c_4 := cNe (tN (n := ((und B k) / 2 ^ j) % 2) (by omega)) (tN (n := 1) (by decide)) c_4
    refine lv_iconst (v := nI 0) hx hcd dX4_depends_17 (by decide) ?_
    exact k_retz hQ G hret hlocks h (Or.inl rfl) (⟨(bz_f (tb_f (by omega))).symm, rfl⟩) (Nat.le_of_ble_eq_true rfl) (Nat.le_of_ble_eq_true rfl) dX4_depends_18
  · have c_4 := cEq (tN (n := ((und B k) / 2 ^ j) % 2) (by omega)) (tN (n := 1) (by decide)) c_4
    refine lv_iconst (v := nI 1) hx hcd dX4_depends_13 (by decide) ?_
    refine lv_goto (tgt := 18) hx hcd dX4_depends_14 (by decide) ?_
    exact k_retz hQ G hret hlocks h (Or.inr rfl) (⟨(bz_t (tb_t (by omega))).symm, rfl⟩) (Nat.le_of_ble_eq_true rfl) (Nat.le_of_ble_eq_true rfl) dX4_depends_18
set_option maxHeartbeats 4000000 in
set_option maxRecDepth 100000 in
/-- dependsOn(x, y) -/
theorem met_X4_dependsOn (l : Launch) (V : kEnv) (M : kMs) (B : kBd) (hg : M.2 0 = gOf B) (hI : bI B) (x y : Int32) : kI l yX4_dependsOn cX4_dependsOn 3 (some .boolean) { frames := 4, cells := 0, slots := 0, locals := 87 } V (mWs V) [.ref (eX V 500), .int (x), .int (y)] (M) (fun r u => (∃ j k, j < B.2 0 ∧ k < B.2 0 ∧ x = nI j ∧ y = nI k ∧ r = bz ((und B j).testBit k) ∧ u = nPut M 3 (nI 0)) ∨ ((inS (B.2 0) x && inS (B.2 0) y) = false ∧ r = nI 0 ∧ u = nPut M 3 (nI 1))) 0 0 := by
  refine kI_of (by decide +kernel) (Nat.le_of_ble_eq_true rfl) ?_
  intro pg e s m args below meth c G hret hlocks hC hB h ls hl Q hQ
  have hl : lv_has ls 3 [(0, .ref (eX V 500)), (1, .int (x)), (2, .int (y))] := hl
  have hx := G.1
  have hcd := G.2.1
  have hI0 := hI
  obtain ⟨hz, hbn, hn, hm, h3, h54, h4, h7, hr, he, ha, hact, h5⟩ := hI
  refine lv_aload_n hx hcd dX4_dependsOn_0 rfl (lv_at hl 0 rfl) ?_
  refine lv_iload_n hx hcd dX4_dependsOn_1 rfl (lv_at hl 1 rfl) ?_
  refine lv_iload_n hx hcd dX4_dependsOn_2 rfl (lv_at hl 2 rfl) ?_
  refine k_Vi (As := [.int (x), .int (y)]) (rest := []) (b := eX V 500) G hC hB h (met_X4_areNone l V M B hg hI0 x y) mw_1651 kv_X4_areNone ⟨rfl, rfl⟩ ⟨Nat.le_of_ble_eq_true rfl, Nat.le_of_ble_eq_true rfl⟩ (r_mV hC h) rfl rfl hl.1 (Nat.le_of_ble_eq_true rfl) dX4_dependsOn_3 ⟨Nat.le_of_ble_eq_true rfl, Nat.le_of_ble_eq_true rfl⟩ (fun r u H locs hp h => ?_)
  rcases hp with ⟨j, k, hj, hk, rfl, rfl, rfl, hu9⟩ | ⟨c9, rfl, hu9⟩
  · skip
    rw [hu9] at h
    refine lv_if_ne (tgt := 22) hx hcd dX4_dependsOn_6 (by decide) (fun c_1 => absurd c_1 (by decide)) (fun _ => ?_)
    refine lv_aload_n hx hcd dX4_dependsOn_9 rfl (lv_at hl 0 rfl) ?_
    refine lv_iload_n hx hcd dX4_dependsOn_10 rfl (lv_at hl 1 rfl) ?_
    refine lv_iload_n hx hcd dX4_dependsOn_11 rfl (lv_at hl 2 rfl) ?_
    refine k_Vi (As := [.int (nI (j)), .int (nI (k))]) (rest := []) (b := eX V 500) G hC hB h (met_X4_depends l V (nPut M 3 (nI 0)) B hg hI0 j (by omega) k (by omega)) mw_1595 kv_X4_depends ⟨rfl, rfl⟩ ⟨Nat.le_of_ble_eq_true rfl, Nat.le_of_ble_eq_true rfl⟩ (r_mV hC h) rfl rfl hl.1 (Nat.le_of_ble_eq_true rfl) dX4_dependsOn_12 ⟨Nat.le_of_ble_eq_true rfl, Nat.le_of_ble_eq_true rfl⟩ (fun r u H locs hp h => ?_)
    obtain ⟨hr9, hu9⟩ := hp
    obtain rfl : r = bz ((und B j).testBit k) := hr9
    rw [hu9] at h
    refine lv_if_eq (tgt := 22) hx hcd dX4_dependsOn_15 (by decide) (fun c_2 => ?_) (fun c_2 => ?_)
    · have c_2 := bz0 c_2
      refine lv_iconst (v := nI 0) hx hcd dX4_dependsOn_22 (by decide) ?_
      exact k_retz hQ G hret hlocks h (Or.inl rfl) (Or.inl ⟨j, k, hj, hk, rfl, rfl, (bz_f (by first | assumption | (rw [Bool.not_eq_true] at *; assumption))).symm, rfl⟩) (Nat.le_of_ble_eq_true rfl) (Nat.le_of_ble_eq_true rfl) dX4_dependsOn_23
    · have c_2 := bz1 c_2
      refine lv_iconst (v := nI 1) hx hcd dX4_dependsOn_18 (by decide) ?_
      refine lv_goto (tgt := 23) hx hcd dX4_dependsOn_19 (by decide) ?_
      exact k_retz hQ G hret hlocks h (Or.inr rfl) (Or.inl ⟨j, k, hj, hk, rfl, rfl, (bz_t (by first | assumption | (rw [Bool.not_eq_true] at *; assumption))).symm, rfl⟩) (Nat.le_of_ble_eq_true rfl) (Nat.le_of_ble_eq_true rfl) dX4_dependsOn_23
  · skip
    rw [hu9] at h
    refine lv_if_ne (tgt := 22) hx hcd dX4_dependsOn_6 (by decide) (fun _ => ?_) (fun c_3 => absurd c_3 (by decide))
    refine lv_iconst (v := nI 0) hx hcd dX4_dependsOn_22 (by decide) ?_
    exact k_retz hQ G hret hlocks h (Or.inl rfl) (Or.inr ⟨c9, rfl, rfl⟩) (Nat.le_of_ble_eq_true rfl) (Nat.le_of_ble_eq_true rfl) dX4_dependsOn_23
set_option maxHeartbeats 4000000 in
set_option maxRecDepth 100000 in
/-- dependsOnByClosure(x, y) -/
theorem met_X4_dependsOnByClosure (l : Launch) (V : kEnv) (M : kMs) (B : kBd) (hg : M.2 0 = gOf B) (hI : bI B) (x y : Int32) : kI l yX4_dependsOnByClosure cX4_dependsOnByClosure 3 (some .boolean) { frames := 4, cells := 0, slots := 0, locals := 87 } V (mWs V) [.ref (eX V 500), .int (x), .int (y)] (M) (fun r u => (∃ j k, j < B.2 0 ∧ k < B.2 0 ∧ x = nI j ∧ y = nI k ∧ r = bz ((und B j).testBit k) ∧ u = nPut M 3 (nI 0)) ∨ ((inS (B.2 0) x && inS (B.2 0) y) = false ∧ r = nI 0 ∧ u = nPut M 3 (nI 1))) 0 0 := by
  refine kI_of (by decide +kernel) (Nat.le_of_ble_eq_true rfl) ?_
  intro pg e s m args below meth c G hret hlocks hC hB h ls hl Q hQ
  have hl : lv_has ls 3 [(0, .ref (eX V 500)), (1, .int (x)), (2, .int (y))] := hl
  have hx := G.1
  have hcd := G.2.1
  have hI0 := hI
  obtain ⟨hz, hbn, hn, hm, h3, h54, h4, h7, hr, he, ha, hact, h5⟩ := hI
  refine lv_aload_n hx hcd dX4_dependsOnByClosure_0 rfl (lv_at hl 0 rfl) ?_
  refine lv_iload_n hx hcd dX4_dependsOnByClosure_1 rfl (lv_at hl 1 rfl) ?_
  refine lv_iload_n hx hcd dX4_dependsOnByClosure_2 rfl (lv_at hl 2 rfl) ?_
  refine k_Vi (As := [.int (x), .int (y)]) (rest := []) (b := eX V 500) G hC hB h (met_X4_areNone l V M B hg hI0 x y) mw_1651 kv_X4_areNone ⟨rfl, rfl⟩ ⟨Nat.le_of_ble_eq_true rfl, Nat.le_of_ble_eq_true rfl⟩ (r_mV hC h) rfl rfl hl.1 (Nat.le_of_ble_eq_true rfl) dX4_dependsOnByClosure_3 ⟨Nat.le_of_ble_eq_true rfl, Nat.le_of_ble_eq_true rfl⟩ (fun r u H locs hp h => ?_)
  rcases hp with ⟨j, k, hj, hk, rfl, rfl, rfl, hu9⟩ | ⟨c9, rfl, hu9⟩
  · skip
    rw [hu9] at h
    refine lv_if_ne (tgt := 22) hx hcd dX4_dependsOnByClosure_6 (by decide) (fun c_1 => absurd c_1 (by decide)) (fun _ => ?_)
    refine lv_aload_n hx hcd dX4_dependsOnByClosure_9 rfl (lv_at hl 0 rfl) ?_
    refine lv_iload_n hx hcd dX4_dependsOnByClosure_10 rfl (lv_at hl 1 rfl) ?_
    refine lv_iload_n hx hcd dX4_dependsOnByClosure_11 rfl (lv_at hl 2 rfl) ?_
    refine k_Vi (As := [.int (nI (j)), .int (nI (k))]) (rest := []) (b := eX V 500) G hC hB h (met_X4_depends l V (nPut M 3 (nI 0)) B hg hI0 j (by omega) k (by omega)) mw_1595 kv_X4_depends ⟨rfl, rfl⟩ ⟨Nat.le_of_ble_eq_true rfl, Nat.le_of_ble_eq_true rfl⟩ (r_mV hC h) rfl rfl hl.1 (Nat.le_of_ble_eq_true rfl) dX4_dependsOnByClosure_12 ⟨Nat.le_of_ble_eq_true rfl, Nat.le_of_ble_eq_true rfl⟩ (fun r u H locs hp h => ?_)
    obtain ⟨hr9, hu9⟩ := hp
    obtain rfl : r = bz ((und B j).testBit k) := hr9
    rw [hu9] at h
    refine lv_if_eq (tgt := 22) hx hcd dX4_dependsOnByClosure_15 (by decide) (fun c_2 => ?_) (fun c_2 => ?_)
    · have c_2 := bz0 c_2
      refine lv_iconst (v := nI 0) hx hcd dX4_dependsOnByClosure_22 (by decide) ?_
      exact k_retz hQ G hret hlocks h (Or.inl rfl) (Or.inl ⟨j, k, hj, hk, rfl, rfl, (bz_f (by first | assumption | (rw [Bool.not_eq_true] at *; assumption))).symm, rfl⟩) (Nat.le_of_ble_eq_true rfl) (Nat.le_of_ble_eq_true rfl) dX4_dependsOnByClosure_23
    · have c_2 := bz1 c_2
      refine lv_iconst (v := nI 1) hx hcd dX4_dependsOnByClosure_18 (by decide) ?_
      refine lv_goto (tgt := 23) hx hcd dX4_dependsOnByClosure_19 (by decide) ?_
      exact k_retz hQ G hret hlocks h (Or.inr rfl) (Or.inl ⟨j, k, hj, hk, rfl, rfl, (bz_t (by first | assumption | (rw [Bool.not_eq_true] at *; assumption))).symm, rfl⟩) (Nat.le_of_ble_eq_true rfl) (Nat.le_of_ble_eq_true rfl) dX4_dependsOnByClosure_23
  · skip
    rw [hu9] at h
    refine lv_if_ne (tgt := 22) hx hcd dX4_dependsOnByClosure_6 (by decide) (fun _ => ?_) (fun c_3 => absurd c_3 (by decide))
    refine lv_iconst (v := nI 0) hx hcd dX4_dependsOnByClosure_22 (by decide) ?_
    exact k_retz hQ G hret hlocks h (Or.inl rfl) (Or.inr ⟨c9, rfl, rfl⟩) (Nat.le_of_ble_eq_true rfl) (Nat.le_of_ble_eq_true rfl) dX4_dependsOnByClosure_23
set_option maxHeartbeats 4000000 in
set_option maxRecDepth 100000 in
/-- block(x, y) -/
theorem met_X4_block (l : Launch) (V : kEnv) (M : kMs) (B : kBd) (hg : M.2 0 = gOf B) (hI : bI B) (w c0 : Nat) (hw : M.1 2 = nI w) (hw2 : w < 2) (hc0 : M.1 1 = nI c0) (hc8 : c0 ≤ 8) (x y : Int32) : kI l yX4_block cX4_block 3 (some .int) { frames := 3, cells := 0, slots := 0, locals := 68 } V (mWs V) [.ref (eX V 500), .int (x), .int (y)] (M) (fun r u => (∃ j k, j < B.2 0 ∧ k < B.2 0 ∧ x = nI j ∧ y = nI k ∧ j ≠ k ∧ (B.1 2 j).testBit k = false ∧ B.1 1 j ≠ 0 ∧ (und B k).testBit j = false ∧ r = nI (brS (blkB B j k) j) ∧ u = setG (kpW (nPut M 3 (nI 0)) 0 w c0) (blkB B j k)) ∨ ((inS (B.2 0) x && inS (B.2 0) y) = false ∧ r = nI 0 ∧ u = nPut M 3 (nI 1)) ∨ (∃ j k, j < B.2 0 ∧ k < B.2 0 ∧ x = nI j ∧ y = nI k ∧ j = k ∧ r = nI 0 ∧ u = nPut M 3 (nI 2)) ∨ (∃ j k, j < B.2 0 ∧ k < B.2 0 ∧ x = nI j ∧ y = nI k ∧ j ≠ k ∧ ((B.1 2 j).testBit k = true ∨ B.1 1 j = 0) ∧ r = nI 0 ∧ u = nPut M 3 (nI 3)) ∨ (∃ j k, j < B.2 0 ∧ k < B.2 0 ∧ x = nI j ∧ y = nI k ∧ j ≠ k ∧ (B.1 2 j).testBit k = false ∧ B.1 1 j ≠ 0 ∧ (und B k).testBit j = true ∧ r = nI 0 ∧ u = nPut M 3 (nI 4))) 0 0 := by
  refine kI_of (by decide +kernel) (Nat.le_of_ble_eq_true rfl) ?_
  intro pg e s m args below meth c G hret hlocks hC hB h ls hl Q hQ
  have hl : lv_has ls 3 [(0, .ref (eX V 500)), (1, .int (x)), (2, .int (y))] := hl
  have hx := G.1
  have hcd := G.2.1
  have hI0 := hI
  obtain ⟨hz, hbn, hn, hm, h3, h54, h4, h7, hr, he, ha, hact, h5⟩ := hI
  refine lv_aload_n hx hcd dX4_block_0 rfl (lv_at hl 0 rfl) ?_
  refine lv_aload_n hx hcd dX4_block_1 rfl (lv_at hl 0 rfl) ?_
  refine lv_iload_n hx hcd dX4_block_2 rfl (lv_at hl 1 rfl) ?_
  refine lv_iload_n hx hcd dX4_block_3 rfl (lv_at hl 2 rfl) ?_
  refine k_Vi (As := [.int (x), .int (y)]) (rest := [.ref (eX V 500)]) (b := eX V 500) G hC hB h (met_X4_areStories l V M B hg hI0 x y) mw_1587 kv_X4_areStories ⟨rfl, rfl⟩ ⟨Nat.le_of_ble_eq_true rfl, Nat.le_of_ble_eq_true rfl⟩ (r_mV hC h) rfl rfl hl.1 (Nat.le_of_ble_eq_true rfl) dX4_block_4 ⟨Nat.le_of_ble_eq_true rfl, Nat.le_of_ble_eq_true rfl⟩ (fun r u H locs hp h => ?_)
  obtain ⟨hr9, hu9⟩ := hp
  rw [hu9] at h
  rcases bsp (inS (B.2 0) x && inS (B.2 0) y) with c9 | c9
  · skip
    obtain rfl : r = nI 1 := (hr9.trans ((congrArg bz c9).trans (by decide)))
    obtain ⟨j, hj, rfl⟩ := inS_ex (by omega) (band_l c9)
    obtain ⟨k, hk, rfl⟩ := inS_ex (by omega) (band_r c9)
    refine lv_if_ne (tgt := 14) hx hcd dX4_block_7 (by decide) (fun _ => ?_) (fun c_1 => absurd c_1 (by decide))
    refine lv_iload_n hx hcd dX4_block_14 rfl (lv_at hl 1 rfl) ?_
    refine lv_iload_n hx hcd dX4_block_15 rfl (lv_at hl 2 rfl) ?_
    refine lv_icmp_ne (tgt := 23) hx hcd dX4_block_16 (by decide) (fun c_2 => ?_) (fun c_2 => ?_)
    · have c_2 := cNe (tN (n := j) (by omega)) (tN (n := k) (by omega)) c_2
      refine lv_aload_n hx hcd dX4_block_23 rfl (lv_at hl 0 rfl) ?_
      refine lv_iload_n hx hcd dX4_block_24 rfl (lv_at hl 1 rfl) ?_
      refine lv_iload_n hx hcd dX4_block_25 rfl (lv_at hl 2 rfl) ?_
      refine k_Vi (As := [.int (nI (j)), .int (nI (k))]) (rest := [.ref (eX V 500)]) (b := eX V 500) G hC hB h (met_X4_bars l V M B hg hI0 j (by omega) k (by omega)) mw_1591 kv_X4_bars ⟨rfl, rfl⟩ ⟨Nat.le_of_ble_eq_true rfl, Nat.le_of_ble_eq_true rfl⟩ (r_mV hC h) rfl rfl hl.1 (Nat.le_of_ble_eq_true rfl) dX4_block_26 ⟨Nat.le_of_ble_eq_true rfl, Nat.le_of_ble_eq_true rfl⟩ (fun r u H locs hp h => ?_)
      obtain ⟨hr9, hu9⟩ := hp
      obtain rfl : r = bz ((B.1 2 j).testBit k) := hr9
      rw [hu9] at h
      refine lv_if_ne (tgt := 40) hx hcd dX4_block_29 (by decide) (fun c_3 => ?_) (fun c_3 => ?_)
      · have c_3 := bz1 c_3
        refine lv_iconst (v := nI 3) hx hcd dX4_block_40 (by decide) ?_
        refine lv_goto (tgt := 58) hx hcd dX4_block_41 (by decide) ?_
        refine k_Vi (As := [.int (nI 3)]) (rest := []) (b := eX V 500) G hC hB h (met_X4_fails l V M (nI 3)) mw_1545 kv_X4_fails ⟨rfl, rfl⟩ ⟨Nat.le_of_ble_eq_true rfl, Nat.le_of_ble_eq_true rfl⟩ (r_mV hC h) rfl rfl hl.1 (Nat.le_of_ble_eq_true rfl) dX4_block_58 ⟨Nat.le_of_ble_eq_true rfl, Nat.le_of_ble_eq_true rfl⟩ (fun r u H locs hp h => ?_)
        obtain ⟨hr9, hu9⟩ := hp
        obtain rfl : r = nI 1 := (hr9.trans (by decide))
        rw [hu9] at h
        refine lv_if_eq (tgt := 66) hx hcd dX4_block_61 (by decide) (fun c_4 => absurd c_4 (by decide)) (fun _ => ?_)
        refine lv_iconst (v := nI 0) hx hcd dX4_block_64 (by decide) ?_
        exact k_reti hQ G hret hlocks h (Or.inr (Or.inr (Or.inr (Or.inl ⟨j, k, hj, hk, rfl, rfl, by omega, by first | (exact Or.inl (by first | assumption | (rw [Bool.not_eq_true] at *; assumption))) | (exact Or.inr (by omega)), rfl, rfl⟩)))) (Nat.le_of_ble_eq_true rfl) (Nat.le_of_ble_eq_true rfl) dX4_block_65
      · have c_3 := bz0 c_3
        refine lv_aload_n hx hcd dX4_block_32 rfl (lv_at hl 0 rfl) ?_
        refine lv_iload_n hx hcd dX4_block_33 rfl (lv_at hl 1 rfl) ?_
        refine k_Vi (As := [.int (nI (j))]) (rest := [.ref (eX V 500)]) (b := eX V 500) G hC hB h (met_X4_isOver l V M B hg hI0 j (by omega)) mw_1568 kv_X4_isOver ⟨rfl, rfl⟩ ⟨Nat.le_of_ble_eq_true rfl, Nat.le_of_ble_eq_true rfl⟩ (r_mV hC h) rfl rfl hl.1 (Nat.le_of_ble_eq_true rfl) dX4_block_34 ⟨Nat.le_of_ble_eq_true rfl, Nat.le_of_ble_eq_true rfl⟩ (fun r u H locs hp h => ?_)
        obtain ⟨hr9, hu9⟩ := hp
        obtain rfl : r = bz (decide (B.1 1 j = 0)) := hr9
        rw [hu9] at h
        refine lv_if_eq (tgt := 44) hx hcd dX4_block_37 (by decide) (fun c_5 => ?_) (fun c_5 => ?_)
        · have c_5 := bz0 c_5
          have f_7 := of_decide_eq_false c_5
          refine lv_aload_n hx hcd dX4_block_44 rfl (lv_at hl 0 rfl) ?_
          refine lv_iload_n hx hcd dX4_block_45 rfl (lv_at hl 2 rfl) ?_
          refine lv_iload_n hx hcd dX4_block_46 rfl (lv_at hl 1 rfl) ?_
          refine k_Vi (As := [.int (nI (k)), .int (nI (j))]) (rest := [.ref (eX V 500)]) (b := eX V 500) G hC hB h (met_X4_depends l V M B hg hI0 k (by omega) j (by omega)) mw_1595 kv_X4_depends ⟨rfl, rfl⟩ ⟨Nat.le_of_ble_eq_true rfl, Nat.le_of_ble_eq_true rfl⟩ (r_mV hC h) rfl rfl hl.1 (Nat.le_of_ble_eq_true rfl) dX4_block_47 ⟨Nat.le_of_ble_eq_true rfl, Nat.le_of_ble_eq_true rfl⟩ (fun r u H locs hp h => ?_)
          obtain ⟨hr9, hu9⟩ := hp
          obtain rfl : r = bz ((und B k).testBit j) := hr9
          rw [hu9] at h
          refine lv_if_eq (tgt := 57) hx hcd dX4_block_50 (by decide) (fun c_8 => ?_) (fun c_8 => ?_)
          · have c_8 := bz0 c_8
            refine lv_iconst (v := nI 0) hx hcd dX4_block_57 (by decide) ?_
            refine k_Vi (As := [.int (nI 0)]) (rest := []) (b := eX V 500) G hC hB h (met_X4_fails l V M (nI 0)) mw_1545 kv_X4_fails ⟨rfl, rfl⟩ ⟨Nat.le_of_ble_eq_true rfl, Nat.le_of_ble_eq_true rfl⟩ (r_mV hC h) rfl rfl hl.1 (Nat.le_of_ble_eq_true rfl) dX4_block_58 ⟨Nat.le_of_ble_eq_true rfl, Nat.le_of_ble_eq_true rfl⟩ (fun r u H locs hp h => ?_)
            obtain ⟨hr9, hu9⟩ := hp
            obtain rfl : r = nI 0 := (hr9.trans (by decide))
            rw [hu9] at h
            refine lv_if_eq (tgt := 66) hx hcd dX4_block_61 (by decide) (fun _ => ?_) (fun c_9 => absurd c_9 (by decide))
            have hb1 : (B.1 2 j).testBit k = false := by first | assumption | (rw [Bool.not_eq_true] at *; assumption)
            have hb2 : (und B k).testBit j = false := by first | assumption | (rw [Bool.not_eq_true] at *; assumption)
            refine lv_aload_n hx hcd dX4_block_66 rfl (lv_at hl 0 rfl) ?_
            refine lv_aload_n hx hcd dX4_block_67 rfl (lv_at hl 0 rfl) ?_
            refine r_mA G hC h 0 (by decide) mw_1472 dX4_block_68 ?_
            refine k_Vv (As := [.ref (eX V (501 + 0))]) (rest := []) (b := eX V 500) G hC hB h (met_X4_keeps l V (nPut M 3 (nI 0)) 0 (Or.inl rfl) w hw hw2 c0 hc0 hc8) mw_1549 kv_X4_keeps ⟨rfl, rfl⟩ ⟨Nat.le_of_ble_eq_true rfl, Nat.le_of_ble_eq_true rfl⟩ (r_mV hC h) rfl rfl hl.1 (Nat.le_of_ble_eq_true rfl) dX4_block_71 ⟨Nat.le_of_ble_eq_true rfl, Nat.le_of_ble_eq_true rfl⟩ (fun u H locs hp h => ?_)
            have hu9 := hp
            rw [hu9] at h
            have hg9 : (kpW (nPut M 3 (nI 0)) 0 w c0).2 0 = gOf B := (kpW_g _ _ _ _).trans hg
            refine lv_aload_n hx hcd dX4_block_74 rfl (lv_at hl 0 rfl) ?_
            refine lv_iload_n hx hcd dX4_block_75 rfl (lv_at hl 1 rfl) ?_
            refine lv_iconst (v := nI 4) hx hcd dX4_block_76 (by decide) ?_
            refine lv_aload_n hx hcd dX4_block_77 rfl (lv_at hl 0 rfl) ?_
            refine lv_iload_n hx hcd dX4_block_78 rfl (lv_at hl 1 rfl) ?_
            refine lv_iconst (v := nI 4) hx hcd dX4_block_79 (by decide) ?_
            refine k_Vi (As := [.int (nI (j)), .int (nI 4)]) (rest := [.int (nI 4), .int (nI (j)), .ref (eX V 500)]) (b := eX V 500) G hC hB h (met_X4_of l V (kpW (nPut M 3 (nI 0)) 0 w c0) j 4 (by omega) (by decide)) mw_1572 kv_X4_of ⟨rfl, rfl⟩ ⟨Nat.le_of_ble_eq_true rfl, Nat.le_of_ble_eq_true rfl⟩ (r_mV hC h) rfl rfl hl.1 (Nat.le_of_ble_eq_true rfl) dX4_block_80 ⟨Nat.le_of_ble_eq_true rfl, Nat.le_of_ble_eq_true rfl⟩ (fun r u H locs hp h => ?_)
            obtain ⟨hr9, hu9⟩ := hp
            obtain rfl : r = nI (B.1 2 j) := (hr9.trans (gOf_s hg9 hn (k := j) (w := 4) (by omega) (by decide)))
            rw [hu9] at h
            have q_10 := hz.1 2 j
            refine lv_iconst (v := nI 1) hx hcd dX4_block_83 (by decide) ?_
            refine lv_iload_n hx hcd dX4_block_84 rfl (lv_at hl 2 rfl) ?_
            refine w_ishl (v := nI (2 ^ k)) hx hcd dX4_block_85 (n_shl1 (by omega)) ?_
            refine w_ior (v := nI ((B.1 2 j) ||| (2 ^ k))) hx hcd dX4_block_86 (n_or _ _) ?_
            have q_12 : (B.1 2 j) ||| (2 ^ k) < 65536 := or16 (by first | omega | exact p16 (by omega) | assumption) (by first | omega | exact p16 (by omega) | assumption)
            refine k_Vv (As := [.int (nI (j)), .int (nI 4), .int (nI ((B.1 2 j) ||| (2 ^ k)))]) (rest := []) (b := eX V 500) G hC hB h (met_X4_lays l V (kpW (nPut M 3 (nI 0)) 0 w c0) j 4 (nI ((B.1 2 j) ||| (2 ^ k))) (by omega) (by decide)) mw_1556 kv_X4_lays ⟨rfl, rfl⟩ ⟨Nat.le_of_ble_eq_true rfl, Nat.le_of_ble_eq_true rfl⟩ (r_mV hC h) rfl rfl hl.1 (Nat.le_of_ble_eq_true rfl) dX4_block_87 ⟨Nat.le_of_ble_eq_true rfl, Nat.le_of_ble_eq_true rfl⟩ (fun u H locs hp h => ?_)
            have hu9 := hp
            rw [hu9] at h
            rw [setG_of hg9 (upd_bars _ hj hn)] at h
            obtain ⟨B2, hB2⟩ : ∃ z, z = bSet B 2 j (B.1 2 j ||| 2 ^ k) := ⟨_, rfl⟩
            rw [← hB2] at h
            have hIB2 : bI B2 := by rw [hB2]; exact bI_bars hI0 (by omega) (or16 (hz.1 2 j) (p16 (by omega)))
            have hgB2 : (setG (kpW (nPut M 3 (nI 0)) 0 w c0) B2).2 0 = gOf B2 := setG_g _ _
            have hj2 : j < B2.2 0 := by rw [hB2]; exact hj
            have hJB2 := hIB2
            obtain ⟨hz, hbn, hn, hm, h3, h54, h4, h7, hr, he, ha, hact, h5⟩ := hJB2
            refine lv_aload_n hx hcd dX4_block_90 rfl (lv_at hl 0 rfl) ?_
            refine lv_iload_n hx hcd dX4_block_91 rfl (lv_at hl 1 rfl) ?_
            refine k_Vi (As := [.int (nI (j))]) (rest := []) (b := eX V 500) G hC hB h (met_X4_barsOf l V (setG (kpW (nPut M 3 (nI 0)) 0 w c0) B2) B2 hgB2 hIB2 j (by omega)) mw_1603 kv_X4_barsOf ⟨rfl, rfl⟩ ⟨Nat.le_of_ble_eq_true rfl, Nat.le_of_ble_eq_true rfl⟩ (r_mV hC h) rfl rfl hl.1 (Nat.le_of_ble_eq_true rfl) dX4_block_92 ⟨Nat.le_of_ble_eq_true rfl, Nat.le_of_ble_eq_true rfl⟩ (fun r u H locs hp h => ?_)
            obtain ⟨hr9, hu9⟩ := hp
            obtain rfl : r = nI (brS B2 j) := hr9
            rw [hu9] at h
            have q_13 := brS_le hn j
            exact k_reti hQ G hret hlocks h (Or.inl ⟨j, k, hj, hk, rfl, rfl, by omega, hb1, by omega, hb2, by rw [hB2]; rfl, by rw [hB2]; rfl⟩) (Nat.le_of_ble_eq_true rfl) (Nat.le_of_ble_eq_true rfl) dX4_block_95
          · have c_8 := bz1 c_8
            refine lv_iconst (v := nI 4) hx hcd dX4_block_53 (by decide) ?_
            refine lv_goto (tgt := 58) hx hcd dX4_block_54 (by decide) ?_
            refine k_Vi (As := [.int (nI 4)]) (rest := []) (b := eX V 500) G hC hB h (met_X4_fails l V M (nI 4)) mw_1545 kv_X4_fails ⟨rfl, rfl⟩ ⟨Nat.le_of_ble_eq_true rfl, Nat.le_of_ble_eq_true rfl⟩ (r_mV hC h) rfl rfl hl.1 (Nat.le_of_ble_eq_true rfl) dX4_block_58 ⟨Nat.le_of_ble_eq_true rfl, Nat.le_of_ble_eq_true rfl⟩ (fun r u H locs hp h => ?_)
            obtain ⟨hr9, hu9⟩ := hp
            obtain rfl : r = nI 1 := (hr9.trans (by decide))
            rw [hu9] at h
            refine lv_if_eq (tgt := 66) hx hcd dX4_block_61 (by decide) (fun c_14 => absurd c_14 (by decide)) (fun _ => ?_)
            refine lv_iconst (v := nI 0) hx hcd dX4_block_64 (by decide) ?_
            exact k_reti hQ G hret hlocks h (Or.inr (Or.inr (Or.inr (Or.inr ⟨j, k, hj, hk, rfl, rfl, by omega, (by first | assumption | (rw [Bool.not_eq_true] at *; assumption)), by omega, (by first | assumption | (rw [Bool.not_eq_true] at *; assumption)), rfl, rfl⟩)))) (Nat.le_of_ble_eq_true rfl) (Nat.le_of_ble_eq_true rfl) dX4_block_65
        · have c_5 := bz1 c_5
          have f_6 := of_decide_eq_true c_5
          refine lv_iconst (v := nI 3) hx hcd dX4_block_40 (by decide) ?_
          refine lv_goto (tgt := 58) hx hcd dX4_block_41 (by decide) ?_
          refine k_Vi (As := [.int (nI 3)]) (rest := []) (b := eX V 500) G hC hB h (met_X4_fails l V M (nI 3)) mw_1545 kv_X4_fails ⟨rfl, rfl⟩ ⟨Nat.le_of_ble_eq_true rfl, Nat.le_of_ble_eq_true rfl⟩ (r_mV hC h) rfl rfl hl.1 (Nat.le_of_ble_eq_true rfl) dX4_block_58 ⟨Nat.le_of_ble_eq_true rfl, Nat.le_of_ble_eq_true rfl⟩ (fun r u H locs hp h => ?_)
          obtain ⟨hr9, hu9⟩ := hp
          obtain rfl : r = nI 1 := (hr9.trans (by decide))
          rw [hu9] at h
          refine lv_if_eq (tgt := 66) hx hcd dX4_block_61 (by decide) (fun c_15 => absurd c_15 (by decide)) (fun _ => ?_)
          refine lv_iconst (v := nI 0) hx hcd dX4_block_64 (by decide) ?_
          exact k_reti hQ G hret hlocks h (Or.inr (Or.inr (Or.inr (Or.inl ⟨j, k, hj, hk, rfl, rfl, by omega, by first | (exact Or.inl (by first | assumption | (rw [Bool.not_eq_true] at *; assumption))) | (exact Or.inr (by omega)), rfl, rfl⟩)))) (Nat.le_of_ble_eq_true rfl) (Nat.le_of_ble_eq_true rfl) dX4_block_65
    · have c_2 := cEq (tN (n := j) (by omega)) (tN (n := k) (by omega)) c_2
      refine lv_iconst (v := nI 2) hx hcd dX4_block_19 (by decide) ?_
      refine lv_goto (tgt := 58) hx hcd dX4_block_20 (by decide) ?_
      refine k_Vi (As := [.int (nI 2)]) (rest := []) (b := eX V 500) G hC hB h (met_X4_fails l V M (nI 2)) mw_1545 kv_X4_fails ⟨rfl, rfl⟩ ⟨Nat.le_of_ble_eq_true rfl, Nat.le_of_ble_eq_true rfl⟩ (r_mV hC h) rfl rfl hl.1 (Nat.le_of_ble_eq_true rfl) dX4_block_58 ⟨Nat.le_of_ble_eq_true rfl, Nat.le_of_ble_eq_true rfl⟩ (fun r u H locs hp h => ?_)
      obtain ⟨hr9, hu9⟩ := hp
      obtain rfl : r = nI 1 := (hr9.trans (by decide))
      rw [hu9] at h
      refine lv_if_eq (tgt := 66) hx hcd dX4_block_61 (by decide) (fun c_16 => absurd c_16 (by decide)) (fun _ => ?_)
      refine lv_iconst (v := nI 0) hx hcd dX4_block_64 (by decide) ?_
      exact k_reti hQ G hret hlocks h (Or.inr (Or.inr (Or.inl ⟨j, k, hj, hk, rfl, rfl, by omega, rfl, rfl⟩))) (Nat.le_of_ble_eq_true rfl) (Nat.le_of_ble_eq_true rfl) dX4_block_65
  · skip
    obtain rfl : r = nI 0 := (hr9.trans ((congrArg bz c9).trans (by decide)))
    refine lv_if_ne (tgt := 14) hx hcd dX4_block_7 (by decide) (fun c_17 => absurd c_17 (by decide)) (fun _ => ?_)
    refine lv_iconst (v := nI 1) hx hcd dX4_block_10 (by decide) ?_
    refine lv_goto (tgt := 58) hx hcd dX4_block_11 (by decide) ?_
    refine k_Vi (As := [.int (nI 1)]) (rest := []) (b := eX V 500) G hC hB h (met_X4_fails l V M (nI 1)) mw_1545 kv_X4_fails ⟨rfl, rfl⟩ ⟨Nat.le_of_ble_eq_true rfl, Nat.le_of_ble_eq_true rfl⟩ (r_mV hC h) rfl rfl hl.1 (Nat.le_of_ble_eq_true rfl) dX4_block_58 ⟨Nat.le_of_ble_eq_true rfl, Nat.le_of_ble_eq_true rfl⟩ (fun r u H locs hp h => ?_)
    obtain ⟨hr9, hu9⟩ := hp
    obtain rfl : r = nI 1 := (hr9.trans (by decide))
    rw [hu9] at h
    refine lv_if_eq (tgt := 66) hx hcd dX4_block_61 (by decide) (fun c_18 => absurd c_18 (by decide)) (fun _ => ?_)
    refine lv_iconst (v := nI 0) hx hcd dX4_block_64 (by decide) ?_
    exact k_reti hQ G hret hlocks h (Or.inr (Or.inl ⟨c9, rfl, rfl⟩)) (Nat.le_of_ble_eq_true rfl) (Nat.le_of_ble_eq_true rfl) dX4_block_65
