/-! THE REFERENCE: a text carried out. -/
theorem gS1 (Y : kMs) (B B' : kBd) (c d : Int32) : setG (nPut (nPut (setG Y B) 3 c) 3 d) B' = nPut (setG Y B') 3 d := Prod.ext (upup _ _ _ _) (upup _ _ _ _)
theorem nP2 (X : kMs) (f : Nat) (a b : Int32) : nPut (nPut X f a) f b = nPut X f b := Prod.ext (upup _ _ _ _) rfl
theorem gS0 {Y : kMs} {B : kBd} (h : Y.2 0 = gOf B) (h3 : Y.1 3 = nI 0) : nPut (setG Y B) 3 (nI 0) = Y := by
  refine Prod.ext ?_ ?_
  · show va_up Y.1 3 (nI 0) = Y.1
    rw [← h3, upself]
  · show va_up Y.2 0 (gOf B) = Y.2
    rw [← h, upself]
theorem kpW_9 (M : kMs) (c0 : Nat) : (kpW M 3 0 c0).1 9 = M.1 9 := by
  unfold kpW
  rw [if_neg (by decide)]
  exact kpG_n M 3 c0 9 (by decide) (by decide)
/-- where the commands begin -/
def exY (M : kMs) (X : Bool × Nat × Nat × (Nat → Int32)) : kMs := nPut (cpG (nPut (nPut (pW M X.2.1 X.2.2.1 X.2.2.2) 4 (nI 0)) 3 (nI 0)) 0 0 3 0 115) 2 (nI 1)
theorem exY_g (M : kMs) (X : Bool × Nat × Nat × (Nat → Int32)) : (exY M X).2 0 = M.2 0 := rfl
theorem exY_8 (M : kMs) (X : Bool × Nat × Nat × (Nat → Int32)) : (exY M X).2 8 = X.2.2.2 := rfl
theorem rc_s {kd fa sb : Nat → Nat} {cm i : Nat} {B Bi : kBd} {R : Nat × kBd} (h : R = rcN kd fa sb (cm - i) i Bi) (hi : i < cm) (ha : alw Bi (kd i) (fa i) (sb i) = true) : R = rcN kd fa sb (cm - (i + 1)) (i + 1) (cry Bi (kd i) (fa i) (sb i)) := by
  rw [h, show cm - i = (cm - (i + 1)) + 1 by omega, rcN, if_pos ha]
theorem rc_f {kd fa sb : Nat → Nat} {cm i : Nat} {Bi : kBd} {R : Nat × kBd} (h : R = rcN kd fa sb (cm - i) i Bi) (hi : i < cm) (ha : alw Bi (kd i) (fa i) (sb i) = false) : R = (i + 1, Bi) := by
  rw [h, show cm - i = (cm - (i + 1)) + 1 by omega, rcN, if_neg (by rw [ha]; decide)]
theorem kv_X4_carries : kV yX4_carries cX4_carries 4 (some .int) 1 := ⟨mw_1893, mw_54, mw_64, mw_1894, by decide, by decide, by decide +kernel⟩
theorem kv_X4_isText : kV yX4_isText cX4_isText 1 (some .boolean) 0 := ⟨mw_1844, mw_45, mw_64, mw_1845, by decide, by decide, by decide +kernel⟩
set_option maxHeartbeats 4000000 in
set_option maxRecDepth 100000 in
/-- execute() -/
theorem met_X4_execute (l : Launch) (V : kEnv) (M : kMs) (L : List Nat) (hn4 : M.1 4 = nI L.length) (hL60 : L.length ≤ 60) (hL : ∀ j, j < L.length → M.2 4 j = nI (L.getD j 0) ∧ L.getD j 0 < 128) (B : kBd) (hg : M.2 0 = gOf B) (hA : bA B) (hw : M.1 2 = nI 0) (c0 : Nat) (hc0 : M.1 1 = nI c0) (hc8 : c0 ≤ 8) (kd fa sb : Nat → Nat) (hrel : (txM L 61 0 0 (M.2 8)).1 = true → (txM L 61 0 0 (M.2 8)).2.2.1 ≤ 30 ∧ ∀ i, i < (txM L 61 0 0 (M.2 8)).2.2.1 → kd i < 12 ∧ (txM L 61 0 0 (M.2 8)).2.2.2 (4 * i) = nI (kd i) ∧ (1 ≤ arK (kd i) → fa i < 100 ∧ (txM L 61 0 0 (M.2 8)).2.2.2 (4 * i + 1) = nI (fa i)) ∧ (2 ≤ arK (kd i) → sb i < 100 ∧ (txM L 61 0 0 (M.2 8)).2.2.2 (4 * i + 2) = nI (sb i))) : kI l yX4_execute cX4_execute 4 (some .int) { frames := 8, cells := 0, slots := 0, locals := 170 } V (mWs V) [.ref (eX V 500)] (M) (fun r u => ((txM L 61 0 0 (M.2 8)).1 = false ∧ r = nI 0 ∧ u = nPut (nPut (nPut (pW M (txM L 61 0 0 (M.2 8)).2.1 (txM L 61 0 0 (M.2 8)).2.2.1 (txM L 61 0 0 (M.2 8)).2.2.2) 5 (nI (txM L 61 0 0 (M.2 8)).2.1)) 4 (nI 0)) 3 (nI 1)) ∨ ((txM L 61 0 0 (M.2 8)).1 = true ∧ (rcN kd fa sb (txM L 61 0 0 (M.2 8)).2.2.1 0 B).1 = 0 ∧ bA (rcN kd fa sb (txM L 61 0 0 (M.2 8)).2.2.1 0 B).2 ∧ r = nI (txM L 61 0 0 (M.2 8)).2.2.1 ∧ u = kpW (nPut (nPut (setG (exY M (txM L 61 0 0 (M.2 8))) (rcN kd fa sb (txM L 61 0 0 (M.2 8)).2.2.1 0 B).2) 3 (nI 0)) 2 (nI 0)) 3 0 c0) ∨ ((txM L 61 0 0 (M.2 8)).1 = true ∧ (rcN kd fa sb (txM L 61 0 0 (M.2 8)).2.2.1 0 B).1 ≠ 0 ∧ (rcN kd fa sb (txM L 61 0 0 (M.2 8)).2.2.1 0 B).1 ≤ 31 ∧ ∃ cd : Nat, u = nPut (nPut (cpG (nPut (nPut (setG (exY M (txM L 61 0 0 (M.2 8))) (rcN kd fa sb (txM L 61 0 0 (M.2 8)).2.2.1 0 B).2) 3 (nI cd)) 2 (nI 0)) 3 0 0 0 115) 6 (nI ((rcN kd fa sb (txM L 61 0 0 (M.2 8)).2.2.1 0 B).1 - 1))) 3 (nI 2))) 0 0 := by
  refine kI_of (by decide +kernel) (Nat.le_of_ble_eq_true rfl) ?_
  intro pg e s m args below meth c G hret hlocks hC hB h ls hl Q hQ
  have hl : lv_has ls 4 [(0, .ref (eX V 500))] := hl
  have hx := G.1
  have hcd := G.2.1
  refine lv_aload_n hx hcd dX4_execute_0 rfl (lv_at hl 0 rfl) ?_
  refine k_Vi (As := []) (rest := []) (b := eX V 500) G hC hB h (met_X4_isText l V M L hn4 hL60 hL) mw_1842 kv_X4_isText ⟨rfl, rfl⟩ ⟨Nat.le_of_ble_eq_true rfl, Nat.le_of_ble_eq_true rfl⟩ (r_mV hC h) rfl rfl hl.1 (Nat.le_of_ble_eq_true rfl) dX4_execute_1 ⟨Nat.le_of_ble_eq_true rfl, Nat.le_of_ble_eq_true rfl⟩ (fun r u H locs hp h => ?_)
  obtain ⟨hr9, hu9⟩ := hp
  rw [hu9] at h
  rcases bsp (txM L 61 0 0 (M.2 8)).1 with c9 | c9
  · skip
    obtain rfl : r = nI 1 := hr9.trans (bz_t c9)
    obtain ⟨hcm, hrl⟩ := hrel c9
    refine lv_istore_n (lv' := [(1, .int (nI 1)), (0, .ref (eX V 500))]) hx hcd dX4_execute_4 rfl hl (by decide) rfl (fun ls hl => ?_)
    refine lv_iload_n hx hcd dX4_execute_5 rfl (lv_at hl 0 rfl) ?_
    refine lv_if_ne (tgt := 17) hx hcd dX4_execute_6 (by decide) (fun _ => ?_) (fun c_1 => absurd c_1 (by decide))
    refine lv_aload_n hx hcd dX4_execute_17 rfl (lv_at hl 1 rfl) ?_
    refine lv_iconst (v := nI 0) hx hcd dX4_execute_18 (by decide) ?_
    refine r_mP G hC h 4 (by decide) mw_1481 (fun z => absurd z (by decide)) rfl dX4_execute_19 (fun H locs h => ?_)
    refine lv_aload_n hx hcd dX4_execute_22 rfl (lv_at hl 1 rfl) ?_
    refine lv_iload_n hx hcd dX4_execute_23 rfl (lv_at hl 0 rfl) ?_
    refine lv_if_eq (tgt := 31) hx hcd dX4_execute_24 (by decide) (fun c_2 => absurd c_2 (by decide)) (fun _ => ?_)
    refine lv_iconst (v := nI 0) hx hcd dX4_execute_27 (by decide) ?_
    refine lv_goto (tgt := 32) hx hcd dX4_execute_28 (by decide) ?_
    refine k_Vi (As := [.int (nI 0)]) (rest := []) (b := eX V 500) G hC hB h (met_X4_fails l V (nPut (pW M (txM L 61 0 0 (M.2 8)).2.1 (txM L 61 0 0 (M.2 8)).2.2.1 (txM L 61 0 0 (M.2 8)).2.2.2) 4 (nI 0)) (nI 0)) mw_1545 kv_X4_fails ⟨rfl, rfl⟩ ⟨Nat.le_of_ble_eq_true rfl, Nat.le_of_ble_eq_true rfl⟩ (r_mV hC h) rfl rfl hl.1 (Nat.le_of_ble_eq_true rfl) dX4_execute_32 ⟨Nat.le_of_ble_eq_true rfl, Nat.le_of_ble_eq_true rfl⟩ (fun r u H locs hp h => ?_)
    obtain ⟨hr9, hu9⟩ := hp
    obtain rfl : r = nI 0 := (hr9.trans (by decide))
    rw [hu9] at h
    refine lv_if_eq (tgt := 40) hx hcd dX4_execute_35 (by decide) (fun _ => ?_) (fun c_3 => absurd c_3 (by decide))
    refine lv_aload_n hx hcd dX4_execute_40 rfl (lv_at hl 1 rfl) ?_
    refine r_mA G hC h 0 (by decide) mw_1472 dX4_execute_41 ?_
    refine lv_iconst (v := nI 0) hx hcd dX4_execute_44 (by decide) ?_
    refine lv_aload_n hx hcd dX4_execute_45 rfl (lv_at hl 1 rfl) ?_
    refine r_mA G hC h 3 (by decide) mw_1475 dX4_execute_46 ?_
    refine lv_iconst (v := nI 0) hx hcd dX4_execute_49 (by decide) ?_
    refine k_Sv (As := [.ref (eX V (501 + 0)), .int (nI 0), .ref (eX V (501 + 3)), .int (nI 0)]) (rest := []) G hC hB h (met_X4_copies l V (nPut (nPut (pW M (txM L 61 0 0 (M.2 8)).2.1 (txM L 61 0 0 (M.2 8)).2.2.1 (txM L 61 0 0 (M.2 8)).2.2.2) 4 (nI 0)) 3 (nI 0)) 0 0 3 0 (by decide) (by decide) (by decide) (by decide) (by decide) (by decide) (by decide)) mw_1553 ks_X4_copies ⟨rfl, rfl⟩ ⟨Nat.le_of_ble_eq_true rfl, Nat.le_of_ble_eq_true rfl⟩ rfl rfl hl.1 (Nat.le_of_ble_eq_true rfl) dX4_execute_50 ⟨Nat.le_of_ble_eq_true rfl, Nat.le_of_ble_eq_true rfl⟩ (fun u H locs hp h => ?_)
    have hu9 := hp
    rw [hu9] at h
    refine lv_aload_n hx hcd dX4_execute_53 rfl (lv_at hl 1 rfl) ?_
    refine lv_iconst (v := nI 1) hx hcd dX4_execute_54 (by decide) ?_
    refine r_mP G hC h 2 (by decide) mw_1478 (fun _ => Or.inr rfl) rfl dX4_execute_55 (fun H locs h => ?_)
    refine lv_iconst (v := nI 0) hx hcd dX4_execute_58 (by decide) ?_
    refine lv_istore_n (lv' := [(2, .int (nI 0)), (1, .int (nI 1)), (0, .ref (eX V 500))]) hx hcd dX4_execute_59 rfl hl (by decide) rfl (fun ls hl => ?_)
    refine lv_iconst (v := nI 0) hx hcd dX4_execute_60 (by decide) ?_
    refine lv_istore_n (lv' := [(3, .int (nI 0)), (2, .int (nI 0)), (1, .int (nI 1)), (0, .ref (eX V 500))]) hx hcd dX4_execute_61 rfl hl (by decide) rfl (fun ls hl => ?_)
    have L_4 : ∀ (fu_6 : Nat) (i : Nat) (Bi : kBd) (cd : Nat) (gt9 : Int32) (hi : i ≤ (txM L 61 0 0 (M.2 8)).2.2.1) (hAi : bA Bi) (hc49 : cd ≤ 4) (hrc : (cd = 0 ∧ rcN kd fa sb (txM L 61 0 0 (M.2 8)).2.2.1 0 B = rcN kd fa sb ((txM L 61 0 0 (M.2 8)).2.2.1 - i) i Bi) ∨ (cd ≠ 0 ∧ i < (txM L 61 0 0 (M.2 8)).2.2.1 ∧ rcN kd fa sb (txM L 61 0 0 (M.2 8)).2.2.1 0 B = (i + 1, Bi))), 2 * ((txM L 61 0 0 (M.2 8)).2.2.1 - i) + (1 - cd) < fu_6 → ∀ (H : Heap) (locs : List Loc), cH V s H locs (mWs V (nPut (setG (exY M (txM L 61 0 0 (M.2 8))) Bi) 3 (nI cd))) → ∀ ls : Array Slot, lv_has ls 4 [(2, .int (nI (i))), (3, .int (gt9)), (1, .int (nI 1)), (0, .ref (eX V 500))] → W pg l e { frames := 8, cells := 0, slots := 0, locals := 170 } s m args below meth c H locs 0 0 Q (F0 m 62 ls []) := by
      intro fu_6
      induction fu_6 with
      | zero => intro i Bi cd gt9 hi hAi hc49 hrc hmz; exact absurd hmz (Nat.not_lt_zero _)
      | succ fu_6 ih_5 =>
        intro i Bi cd gt9 hi hAi hc49 hrc hmz H locs h ls hl
        refine lv_iload_n hx hcd dX4_execute_62 rfl (lv_at hl 0 rfl) ?_
        refine lv_aload_n hx hcd dX4_execute_63 rfl (lv_at hl 3 rfl) ?_
        refine r_mN G hC h 9 (by decide) mw_1490 (x := nI ((txM L 61 0 0 (M.2 8)).2.2.1)) rfl dX4_execute_64 ?_
        refine lv_icmp_ge (tgt := 98) hx hcd dX4_execute_67 (by decide) (fun c_7 => ?_) (fun c_7 => ?_)
        · have c_7 := cLe (tN (n := (txM L 61 0 0 (M.2 8)).2.2.1) (by omega)) (tN (n := i) (by omega)) c_7
          have hrz : rcN kd fa sb (txM L 61 0 0 (M.2 8)).2.2.1 0 B = (if cd = 0 then 0 else i + 1, Bi) := by rcases hrc with ⟨z1, z2⟩ | ⟨z1, z2, z3⟩; (rw [if_pos z1, z2, show (txM L 61 0 0 (M.2 8)).2.2.1 - i = 0 by omega]; rfl); (rw [if_neg z1, z3])
          refine lv_aload_n hx hcd dX4_execute_98 rfl (lv_at hl 3 rfl) ?_
          refine lv_iconst (v := nI 0) hx hcd dX4_execute_99 (by decide) ?_
          refine r_mP G hC h 2 (by decide) mw_1478 (fun _ => Or.inl rfl) rfl dX4_execute_100 (fun H locs h => ?_)
          refine lv_aload_n hx hcd dX4_execute_103 rfl (lv_at hl 3 rfl) ?_
          refine r_mN G hC h 3 (by decide) mw_1479 (x := nI (cd)) rfl dX4_execute_104 ?_
          refine lv_if_le (tgt := 143) hx hcd dX4_execute_107 (by decide) (fun c_8 => ?_) (fun c_8 => ?_)
          · have c_8 := cLe (tN (n := cd) (by omega)) t0 c_8
            refine lv_aload_n hx hcd dX4_execute_143 rfl (lv_at hl 3 rfl) ?_
            refine lv_aload_n hx hcd dX4_execute_144 rfl (lv_at hl 3 rfl) ?_
            refine r_mA G hC h 3 (by decide) mw_1475 dX4_execute_145 ?_
            refine k_Vv (As := [.ref (eX V (501 + 3))]) (rest := []) (b := eX V 500) G hC hB h (met_X4_keeps l V (nPut (nPut (setG (exY M (txM L 61 0 0 (M.2 8))) Bi) 3 (nI cd)) 2 (nI 0)) 3 (Or.inr rfl) 0 rfl (by decide) c0 hc0 hc8) mw_1549 kv_X4_keeps ⟨rfl, rfl⟩ ⟨Nat.le_of_ble_eq_true rfl, Nat.le_of_ble_eq_true rfl⟩ (r_mV hC h) rfl rfl hl.1 (Nat.le_of_ble_eq_true rfl) dX4_execute_148 ⟨Nat.le_of_ble_eq_true rfl, Nat.le_of_ble_eq_true rfl⟩ (fun u H locs hp h => ?_)
            have hu9 := hp
            rw [hu9] at h
            refine lv_aload_n hx hcd dX4_execute_151 rfl (lv_at hl 3 rfl) ?_
            refine r_mN G hC h 9 (by decide) mw_1490 (x := nI ((txM L 61 0 0 (M.2 8)).2.2.1)) (kpW_9 _ _) dX4_execute_152 ?_
            exact k_reti hQ G hret hlocks h (Or.inr (Or.inl ⟨c9, by rw [show rcN kd fa sb (txM L 61 0 0 (M.2 8)).2.2.1 0 B = (0, Bi) from by rw [hrz, if_pos (by omega)]], by rw [show rcN kd fa sb (txM L 61 0 0 (M.2 8)).2.2.1 0 B = (0, Bi) from by rw [hrz, if_pos (by omega)]]; exact hAi, rfl, by rw [show rcN kd fa sb (txM L 61 0 0 (M.2 8)).2.2.1 0 B = (0, Bi) from by rw [hrz, if_pos (by omega)]]; rw [show cd = 0 by omega]⟩)) (Nat.le_of_ble_eq_true rfl) (Nat.le_of_ble_eq_true rfl) dX4_execute_155
          · have c_8 := cNle (tN (n := cd) (by omega)) t0 c_8
            refine lv_aload_n hx hcd dX4_execute_110 rfl (lv_at hl 3 rfl) ?_
            refine r_mA G hC h 3 (by decide) mw_1475 dX4_execute_111 ?_
            refine lv_iconst (v := nI 0) hx hcd dX4_execute_114 (by decide) ?_
            refine lv_aload_n hx hcd dX4_execute_115 rfl (lv_at hl 3 rfl) ?_
            refine r_mA G hC h 0 (by decide) mw_1472 dX4_execute_116 ?_
            refine lv_iconst (v := nI 0) hx hcd dX4_execute_119 (by decide) ?_
            refine k_Sv (As := [.ref (eX V (501 + 3)), .int (nI 0), .ref (eX V (501 + 0)), .int (nI 0)]) (rest := []) G hC hB h (met_X4_copies l V (nPut (nPut (setG (exY M (txM L 61 0 0 (M.2 8))) Bi) 3 (nI cd)) 2 (nI 0)) 3 0 0 0 (by decide) (by decide) (by decide) (by decide) (by decide) (by decide) (by decide)) mw_1553 ks_X4_copies ⟨rfl, rfl⟩ ⟨Nat.le_of_ble_eq_true rfl, Nat.le_of_ble_eq_true rfl⟩ rfl rfl hl.1 (Nat.le_of_ble_eq_true rfl) dX4_execute_120 ⟨Nat.le_of_ble_eq_true rfl, Nat.le_of_ble_eq_true rfl⟩ (fun u H locs hp h => ?_)
            have hu9 := hp
            rw [hu9] at h
            refine lv_aload_n hx hcd dX4_execute_123 rfl (lv_at hl 3 rfl) ?_
            refine lv_iload_n hx hcd dX4_execute_124 rfl (lv_at hl 0 rfl) ?_
            refine r_mP G hC h 6 (by decide) mw_1483 (fun z => absurd z (by decide)) rfl dX4_execute_125 (fun H locs h => ?_)
            refine lv_aload_n hx hcd dX4_execute_128 rfl (lv_at hl 3 rfl) ?_
            refine lv_iconst (v := nI 2) hx hcd dX4_execute_129 (by decide) ?_
            refine r_mP G hC h 3 (by decide) mw_1479 (fun z => absurd z (by decide)) rfl dX4_execute_130 (fun H locs h => ?_)
            refine lv_iload_n hx hcd dX4_execute_133 rfl (lv_at hl 1 rfl) ?_
            refine lv_if_le (tgt := 141) hx hcd dX4_execute_134 (by decide) (fun c_9 => ?_) (fun c_9 => ?_)
            · have c_9 := cLe (rfl : (gt9 : Int32).toInt = (gt9 : Int32).toInt) t0 c_9
              refine lv_iload_n hx hcd dX4_execute_141 rfl (lv_at hl 1 rfl) ?_
              exact k_reti hQ G hret hlocks h (Or.inr (Or.inr ⟨c9, by rw [show rcN kd fa sb (txM L 61 0 0 (M.2 8)).2.2.1 0 B = (i + 1, Bi) from by rw [hrz, if_neg (by omega)]]; exact Nat.succ_ne_zero _, by rw [show rcN kd fa sb (txM L 61 0 0 (M.2 8)).2.2.1 0 B = (i + 1, Bi) from by rw [hrz, if_neg (by omega)]]; show i + 1 ≤ 31; omega, cd, by rw [show rcN kd fa sb (txM L 61 0 0 (M.2 8)).2.2.1 0 B = (i + 1, Bi) from by rw [hrz, if_neg (by omega)]]; rfl⟩)) (Nat.le_of_ble_eq_true rfl) (Nat.le_of_ble_eq_true rfl) dX4_execute_142
            · have c_9 := cNle (rfl : (gt9 : Int32).toInt = (gt9 : Int32).toInt) t0 c_9
              refine lv_iconst (v := nI 0) hx hcd dX4_execute_137 (by decide) ?_
              refine lv_goto (tgt := 142) hx hcd dX4_execute_138 (by decide) ?_
              exact k_reti hQ G hret hlocks h (Or.inr (Or.inr ⟨c9, by rw [show rcN kd fa sb (txM L 61 0 0 (M.2 8)).2.2.1 0 B = (i + 1, Bi) from by rw [hrz, if_neg (by omega)]]; exact Nat.succ_ne_zero _, by rw [show rcN kd fa sb (txM L 61 0 0 (M.2 8)).2.2.1 0 B = (i + 1, Bi) from by rw [hrz, if_neg (by omega)]]; show i + 1 ≤ 31; omega, cd, by rw [show rcN kd fa sb (txM L 61 0 0 (M.2 8)).2.2.1 0 B = (i + 1, Bi) from by rw [hrz, if_neg (by omega)]]; rfl⟩)) (Nat.le_of_ble_eq_true rfl) (Nat.le_of_ble_eq_true rfl) dX4_execute_142
        · have c_7 := cNle (tN (n := (txM L 61 0 0 (M.2 8)).2.2.1) (by omega)) (tN (n := i) (by omega)) c_7
          have hrc0 : cd = 0 → rcN kd fa sb (txM L 61 0 0 (M.2 8)).2.2.1 0 B = rcN kd fa sb ((txM L 61 0 0 (M.2 8)).2.2.1 - i) i Bi := fun z => by rcases hrc with ⟨_, z2⟩ | ⟨z1, _⟩; exact z2; exact absurd z z1
          refine lv_aload_n hx hcd dX4_execute_70 rfl (lv_at hl 3 rfl) ?_
          refine r_mN G hC h 3 (by decide) mw_1479 (x := nI (cd)) rfl dX4_execute_71 ?_
          refine lv_if_ne (tgt := 98) hx hcd dX4_execute_74 (by decide) (fun c_10 => ?_) (fun c_10 => ?_)
          · have c_10 := cNe (tN (n := cd) (by omega)) t0 c_10
            have hrz : rcN kd fa sb (txM L 61 0 0 (M.2 8)).2.2.1 0 B = (if cd = 0 then 0 else i + 1, Bi) := by rcases hrc with ⟨z1, z2⟩ | ⟨z1, z2, z3⟩; (rw [if_pos z1, z2, show (txM L 61 0 0 (M.2 8)).2.2.1 - i = 0 by omega]; rfl); (rw [if_neg z1, z3])
            refine lv_aload_n hx hcd dX4_execute_98 rfl (lv_at hl 3 rfl) ?_
            refine lv_iconst (v := nI 0) hx hcd dX4_execute_99 (by decide) ?_
            refine r_mP G hC h 2 (by decide) mw_1478 (fun _ => Or.inl rfl) rfl dX4_execute_100 (fun H locs h => ?_)
            refine lv_aload_n hx hcd dX4_execute_103 rfl (lv_at hl 3 rfl) ?_
            refine r_mN G hC h 3 (by decide) mw_1479 (x := nI (cd)) rfl dX4_execute_104 ?_
            refine lv_if_le (tgt := 143) hx hcd dX4_execute_107 (by decide) (fun c_11 => ?_) (fun c_11 => ?_)
            · have c_11 := cLe (tN (n := cd) (by omega)) t0 c_11
              refine lv_aload_n hx hcd dX4_execute_143 rfl (lv_at hl 3 rfl) ?_
              refine lv_aload_n hx hcd dX4_execute_144 rfl (lv_at hl 3 rfl) ?_
              refine r_mA G hC h 3 (by decide) mw_1475 dX4_execute_145 ?_
              refine k_Vv (As := [.ref (eX V (501 + 3))]) (rest := []) (b := eX V 500) G hC hB h (met_X4_keeps l V (nPut (nPut (setG (exY M (txM L 61 0 0 (M.2 8))) Bi) 3 (nI cd)) 2 (nI 0)) 3 (Or.inr rfl) 0 rfl (by decide) c0 hc0 hc8) mw_1549 kv_X4_keeps ⟨rfl, rfl⟩ ⟨Nat.le_of_ble_eq_true rfl, Nat.le_of_ble_eq_true rfl⟩ (r_mV hC h) rfl rfl hl.1 (Nat.le_of_ble_eq_true rfl) dX4_execute_148 ⟨Nat.le_of_ble_eq_true rfl, Nat.le_of_ble_eq_true rfl⟩ (fun u H locs hp h => ?_)
              have hu9 := hp
              rw [hu9] at h
              refine lv_aload_n hx hcd dX4_execute_151 rfl (lv_at hl 3 rfl) ?_
              refine r_mN G hC h 9 (by decide) mw_1490 (x := nI ((txM L 61 0 0 (M.2 8)).2.2.1)) (kpW_9 _ _) dX4_execute_152 ?_
              exact k_reti hQ G hret hlocks h (Or.inr (Or.inl ⟨c9, by rw [show rcN kd fa sb (txM L 61 0 0 (M.2 8)).2.2.1 0 B = (0, Bi) from by rw [hrz, if_pos (by omega)]], by rw [show rcN kd fa sb (txM L 61 0 0 (M.2 8)).2.2.1 0 B = (0, Bi) from by rw [hrz, if_pos (by omega)]]; exact hAi, rfl, by rw [show rcN kd fa sb (txM L 61 0 0 (M.2 8)).2.2.1 0 B = (0, Bi) from by rw [hrz, if_pos (by omega)]]; rw [show cd = 0 by omega]⟩)) (Nat.le_of_ble_eq_true rfl) (Nat.le_of_ble_eq_true rfl) dX4_execute_155
            · have c_11 := cNle (tN (n := cd) (by omega)) t0 c_11
              refine lv_aload_n hx hcd dX4_execute_110 rfl (lv_at hl 3 rfl) ?_
              refine r_mA G hC h 3 (by decide) mw_1475 dX4_execute_111 ?_
              refine lv_iconst (v := nI 0) hx hcd dX4_execute_114 (by decide) ?_
              refine lv_aload_n hx hcd dX4_execute_115 rfl (lv_at hl 3 rfl) ?_
              refine r_mA G hC h 0 (by decide) mw_1472 dX4_execute_116 ?_
              refine lv_iconst (v := nI 0) hx hcd dX4_execute_119 (by decide) ?_
              refine k_Sv (As := [.ref (eX V (501 + 3)), .int (nI 0), .ref (eX V (501 + 0)), .int (nI 0)]) (rest := []) G hC hB h (met_X4_copies l V (nPut (nPut (setG (exY M (txM L 61 0 0 (M.2 8))) Bi) 3 (nI cd)) 2 (nI 0)) 3 0 0 0 (by decide) (by decide) (by decide) (by decide) (by decide) (by decide) (by decide)) mw_1553 ks_X4_copies ⟨rfl, rfl⟩ ⟨Nat.le_of_ble_eq_true rfl, Nat.le_of_ble_eq_true rfl⟩ rfl rfl hl.1 (Nat.le_of_ble_eq_true rfl) dX4_execute_120 ⟨Nat.le_of_ble_eq_true rfl, Nat.le_of_ble_eq_true rfl⟩ (fun u H locs hp h => ?_)
              have hu9 := hp
              rw [hu9] at h
              refine lv_aload_n hx hcd dX4_execute_123 rfl (lv_at hl 3 rfl) ?_
              refine lv_iload_n hx hcd dX4_execute_124 rfl (lv_at hl 0 rfl) ?_
              refine r_mP G hC h 6 (by decide) mw_1483 (fun z => absurd z (by decide)) rfl dX4_execute_125 (fun H locs h => ?_)
              refine lv_aload_n hx hcd dX4_execute_128 rfl (lv_at hl 3 rfl) ?_
              refine lv_iconst (v := nI 2) hx hcd dX4_execute_129 (by decide) ?_
              refine r_mP G hC h 3 (by decide) mw_1479 (fun z => absurd z (by decide)) rfl dX4_execute_130 (fun H locs h => ?_)
              refine lv_iload_n hx hcd dX4_execute_133 rfl (lv_at hl 1 rfl) ?_
              refine lv_if_le (tgt := 141) hx hcd dX4_execute_134 (by decide) (fun c_12 => ?_) (fun c_12 => ?_)
              · have c_12 := cLe (rfl : (gt9 : Int32).toInt = (gt9 : Int32).toInt) t0 c_12
                refine lv_iload_n hx hcd dX4_execute_141 rfl (lv_at hl 1 rfl) ?_
                exact k_reti hQ G hret hlocks h (Or.inr (Or.inr ⟨c9, by rw [show rcN kd fa sb (txM L 61 0 0 (M.2 8)).2.2.1 0 B = (i + 1, Bi) from by rw [hrz, if_neg (by omega)]]; exact Nat.succ_ne_zero _, by rw [show rcN kd fa sb (txM L 61 0 0 (M.2 8)).2.2.1 0 B = (i + 1, Bi) from by rw [hrz, if_neg (by omega)]]; show i + 1 ≤ 31; omega, cd, by rw [show rcN kd fa sb (txM L 61 0 0 (M.2 8)).2.2.1 0 B = (i + 1, Bi) from by rw [hrz, if_neg (by omega)]]; rfl⟩)) (Nat.le_of_ble_eq_true rfl) (Nat.le_of_ble_eq_true rfl) dX4_execute_142
              · have c_12 := cNle (rfl : (gt9 : Int32).toInt = (gt9 : Int32).toInt) t0 c_12
                refine lv_iconst (v := nI 0) hx hcd dX4_execute_137 (by decide) ?_
                refine lv_goto (tgt := 142) hx hcd dX4_execute_138 (by decide) ?_
                exact k_reti hQ G hret hlocks h (Or.inr (Or.inr ⟨c9, by rw [show rcN kd fa sb (txM L 61 0 0 (M.2 8)).2.2.1 0 B = (i + 1, Bi) from by rw [hrz, if_neg (by omega)]]; exact Nat.succ_ne_zero _, by rw [show rcN kd fa sb (txM L 61 0 0 (M.2 8)).2.2.1 0 B = (i + 1, Bi) from by rw [hrz, if_neg (by omega)]]; show i + 1 ≤ 31; omega, cd, by rw [show rcN kd fa sb (txM L 61 0 0 (M.2 8)).2.2.1 0 B = (i + 1, Bi) from by rw [hrz, if_neg (by omega)]]; rfl⟩)) (Nat.le_of_ble_eq_true rfl) (Nat.le_of_ble_eq_true rfl) dX4_execute_142
          · have c_10 := cEq (tN (n := cd) (by omega)) t0 c_10
            refine lv_aload_n hx hcd dX4_execute_77 rfl (lv_at hl 3 rfl) ?_
            refine lv_iconst (v := nI 4) hx hcd dX4_execute_78 (by decide) ?_
            refine lv_iload_n hx hcd dX4_execute_79 rfl (lv_at hl 0 rfl) ?_
            refine w_imul (v := nI (4 * i)) hx hcd dX4_execute_80 (pk_mul _ _) ?_
            refine k_Vi (As := [.int (nI (4 * i))]) (rest := []) (b := eX V 500) G hC hB h (met_X4_carries l V (nPut (setG (exY M (txM L 61 0 0 (M.2 8))) Bi) 3 (nI cd)) Bi rfl hAi rfl c0 hc0 hc8 (4 * i) (by omega) (fa i) (sb i) (kd i) (hrl i (by omega)).1 (hrl i (by omega)).2.1 (hrl i (by omega)).2.2.1 (hrl i (by omega)).2.2.2) mw_1891 kv_X4_carries ⟨rfl, rfl⟩ ⟨Nat.le_of_ble_eq_true rfl, Nat.le_of_ble_eq_true rfl⟩ (r_mV hC h) rfl rfl hl.1 (Nat.le_of_ble_eq_true rfl) dX4_execute_81 ⟨Nat.le_of_ble_eq_true rfl, Nat.le_of_ble_eq_true rfl⟩ (fun r u H locs hp h => ?_)
            rcases hp with ⟨ha9, hA9, hu9⟩ | ⟨ha9, ce, hc1, hc4, hu9⟩
            · skip
              rw [hu9, gS1] at h
              refine lv_istore_n (lv' := [(3, .int (r)), (2, .int (nI (i))), (1, .int (nI 1)), (0, .ref (eX V 500))]) hx hcd dX4_execute_84 rfl hl (by decide) rfl (fun ls hl => ?_)
              refine lv_aload_n hx hcd dX4_execute_85 rfl (lv_at hl 3 rfl) ?_
              refine r_mN G hC h 3 (by decide) mw_1479 (x := nI 0) rfl dX4_execute_86 ?_
              refine lv_if_ne (tgt := 62) hx hcd dX4_execute_89 (by decide) (fun c_14 => absurd c_14 (by decide)) (fun _ => ?_)
              refine lv_iinc (v := nI (i + 1)) (lv' := [(2, .int (nI (i + 1))), (3, .int (r)), (1, .int (nI 1)), (0, .ref (eX V 500))]) hx hcd dX4_execute_92 hl (k := 1) rfl (by exact nI_add (i) 1) (by decide) rfl (fun ls hl => ?_)
              refine lv_goto (tgt := 62) hx hcd dX4_execute_95 (by decide) ?_
              exact ih_5 (i + 1) (cry Bi (kd i) (fa i) (sb i)) 0 r (by omega) hA9 (by omega) (Or.inl ⟨rfl, rc_s (B := B) (hrc0 (by omega)) (by omega) ha9⟩) (by omega) _ _ h _ (lv_sub hl [0, 1, 2, 3] rfl)
            · skip
              rw [hu9, nP2] at h
              refine lv_istore_n (lv' := [(3, .int (r)), (2, .int (nI (i))), (1, .int (nI 1)), (0, .ref (eX V 500))]) hx hcd dX4_execute_84 rfl hl (by decide) rfl (fun ls hl => ?_)
              refine lv_aload_n hx hcd dX4_execute_85 rfl (lv_at hl 3 rfl) ?_
              refine r_mN G hC h 3 (by decide) mw_1479 (x := nI (ce)) rfl dX4_execute_86 ?_
              refine lv_if_ne (tgt := 62) hx hcd dX4_execute_89 (by decide) (fun c_15 => ?_) (fun c_15 => ?_)
              · have c_15 := cNe (tN (n := ce) (by omega)) t0 c_15
                exact ih_5 i Bi ce r hi hAi (by omega) (Or.inr ⟨by omega, by omega, rc_f (hrc0 (by omega)) (by omega) ha9⟩) (by omega) _ _ h _ (lv_sub hl [1, 0, 2, 3] rfl)
              · have c_15 := cEq (tN (n := ce) (by omega)) t0 c_15
                exact absurd c_15 (by omega)
    exact L_4 (2 * (txM L 61 0 0 (M.2 8)).2.2.1 + 1 + 1) 0 B 0 (nI 0) (Nat.zero_le _) hA (by decide) (Or.inl ⟨rfl, rfl⟩) (by omega) _ _ (by rw [gS0 (Y := exY M (txM L 61 0 0 (M.2 8))) (B := B) hg rfl]; exact h) _ (lv_sub hl [1, 0, 2, 3] rfl)
  · skip
    obtain rfl : r = nI 0 := hr9.trans (bz_f c9)
    refine lv_istore_n (lv' := [(1, .int (nI 0)), (0, .ref (eX V 500))]) hx hcd dX4_execute_4 rfl hl (by decide) rfl (fun ls hl => ?_)
    refine lv_iload_n hx hcd dX4_execute_5 rfl (lv_at hl 0 rfl) ?_
    refine lv_if_ne (tgt := 17) hx hcd dX4_execute_6 (by decide) (fun c_16 => absurd c_16 (by decide)) (fun _ => ?_)
    refine lv_aload_n hx hcd dX4_execute_9 rfl (lv_at hl 1 rfl) ?_
    refine lv_aload_n hx hcd dX4_execute_10 rfl (lv_at hl 1 rfl) ?_
    refine r_mN G hC h 8 (by decide) mw_1488 (x := nI ((txM L 61 0 0 (M.2 8)).2.1)) rfl dX4_execute_11 ?_
    refine r_mP G hC h 5 (by decide) mw_1482 (fun z => absurd z (by decide)) rfl dX4_execute_14 (fun H locs h => ?_)
    refine lv_aload_n hx hcd dX4_execute_17 rfl (lv_at hl 1 rfl) ?_
    refine lv_iconst (v := nI 0) hx hcd dX4_execute_18 (by decide) ?_
    refine r_mP G hC h 4 (by decide) mw_1481 (fun z => absurd z (by decide)) rfl dX4_execute_19 (fun H locs h => ?_)
    refine lv_aload_n hx hcd dX4_execute_22 rfl (lv_at hl 1 rfl) ?_
    refine lv_iload_n hx hcd dX4_execute_23 rfl (lv_at hl 0 rfl) ?_
    refine lv_if_eq (tgt := 31) hx hcd dX4_execute_24 (by decide) (fun _ => ?_) (fun c_17 => absurd c_17 (by decide))
    refine lv_iconst (v := nI 1) hx hcd dX4_execute_31 (by decide) ?_
    refine k_Vi (As := [.int (nI 1)]) (rest := []) (b := eX V 500) G hC hB h (met_X4_fails l V (nPut (nPut (pW M (txM L 61 0 0 (M.2 8)).2.1 (txM L 61 0 0 (M.2 8)).2.2.1 (txM L 61 0 0 (M.2 8)).2.2.2) 5 (nI ((txM L 61 0 0 (M.2 8)).2.1))) 4 (nI 0)) (nI 1)) mw_1545 kv_X4_fails ⟨rfl, rfl⟩ ⟨Nat.le_of_ble_eq_true rfl, Nat.le_of_ble_eq_true rfl⟩ (r_mV hC h) rfl rfl hl.1 (Nat.le_of_ble_eq_true rfl) dX4_execute_32 ⟨Nat.le_of_ble_eq_true rfl, Nat.le_of_ble_eq_true rfl⟩ (fun r u H locs hp h => ?_)
    obtain ⟨hr9, hu9⟩ := hp
    obtain rfl : r = nI 1 := (hr9.trans (by decide))
    rw [hu9] at h
    refine lv_if_eq (tgt := 40) hx hcd dX4_execute_35 (by decide) (fun c_18 => absurd c_18 (by decide)) (fun _ => ?_)
    refine lv_iconst (v := nI 0) hx hcd dX4_execute_38 (by decide) ?_
    exact k_reti hQ G hret hlocks h (Or.inl ⟨c9, rfl, rfl⟩) (Nat.le_of_ble_eq_true rfl) (Nat.le_of_ble_eq_true rfl) dX4_execute_39
