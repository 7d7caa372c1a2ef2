/-! THE REFERENCE: a sprint ended. -/
def clP (B : kBd) : Nat → Nat
  | 0 => B.2 2
  | i + 1 => andn (clP B i) (2 ^ i)
theorem clP_bit (B : kBd) (k : Nat) (hk : k < 16) : ∀ i, i ≤ k → (clP B i).testBit k = (B.2 2).testBit k
  | 0, _ => rfl
  | i + 1, h => by
    have h16 : ∀ i, i < 16 → Nat.testBit 65535 i = true := by decide
    show (andn (clP B i) (2 ^ i)).testBit k = _
    unfold andn
    rw [Nat.testBit_and, Nat.testBit_xor, Nat.testBit_two_pow_of_ne (by omega), h16 k hk, clP_bit B k hk i (by omega)]
    simp
theorem bPut_2 (B : kBd) (f a b : Nat) : bPut (bPut B f a) f b = bPut B f b := by
  refine Prod.ext rfl (funext fun g => ?_)
  show (if g = f then b else if g = f then a else B.2 g) = (if g = f then b else B.2 g)
  by_cases h : g = f
  · rw [if_pos h, if_pos h]
  · rw [if_neg h, if_neg h, if_neg h]
def pfS (B : kBd) (i : Nat) : Nat := sumUp (fun k => if (B.2 2).testBit k ∧ B.1 1 k = 0 then B.1 0 k else 0) i
theorem pfS_t {B : kBd} {i a : Nat} (ha : a = pfS B i) (h : (B.2 2).testBit i = true ∧ B.1 1 i = 0) : a + B.1 0 i = pfS B (i + 1) := by
  rw [ha]
  show pfS B i + B.1 0 i = pfS B i + (if (B.2 2).testBit i = true ∧ B.1 1 i = 0 then B.1 0 i else 0)
  rw [if_pos h]
theorem pfS_z {B : kBd} {i a : Nat} (ha : a = pfS B i) (h : ¬ ((B.2 2).testBit i = true ∧ B.1 1 i = 0)) : a + 0 = pfS B (i + 1) := by
  rw [ha]
  show pfS B i + 0 = pfS B i + (if (B.2 2).testBit i = true ∧ B.1 1 i = 0 then B.1 0 i else 0)
  rw [if_neg h]
theorem pfS_le {B : kBd} (h : bI B) : pfS B (B.2 0) ≤ 208 := by
  have he := h.2.2.2.2.2.2.2.2.2.1
  have hn := h.2.2.1
  have h1 : ∀ k, (if (B.2 2).testBit k ∧ B.1 1 k = 0 then B.1 0 k else 0) ≤ 13 := by
    intro k
    have := he k
    split <;> omega
  have h2 := sumUp_le h1 (B.2 0)
  have : B.2 0 * 13 ≤ 16 * 13 := Nat.mul_le_mul_right _ hn
  unfold pfS
  omega
def frP (C : kBd) : Nat → kBd
  | 0 => C
  | d + 1 => if (frP C d).1 4 d = 0 then frP C d else bSet (frP C d) 4 d 0
theorem frP_z {C E : kBd} {d : Nat} (h : E = frP C d) (h0 : E.1 4 d = 0) : E = frP C (d + 1) := by
  show E = (if (frP C d).1 4 d = 0 then frP C d else bSet (frP C d) 4 d 0)
  rw [← h, if_pos h0]
theorem frP_s {C E : kBd} {d : Nat} (h : E = frP C d) (h0 : E.1 4 d ≠ 0) : bSet E 4 d 0 = frP C (d + 1) := by
  show bSet E 4 d 0 = (if (frP C d).1 4 d = 0 then frP C d else bSet (frP C d) 4 d 0)
  rw [← h, if_neg h0]
theorem bI_vel {B : kBd} (h : bI B) {k v : Nat} (hk : k < 9) (hv : v < 65536) : bI (bSet B 6 k v) := by
  obtain ⟨hz, hbn, hn, hm, h3, h54, h4, h7, hr, he, ha, hact, h5⟩ := h
  refine ⟨kSm_set hz 6 k hv, bN_set hbn (by decide) (show k < kLen 6 from hk) v, hn, hm, h3, h54, h4, h7, fun k => ?_, fun k => ?_, fun k => ?_, hact, fun k => ?_⟩
  · rw [bS1, bS1, if_neg (by omega), if_neg (by omega)]; exact hr k
  · rw [bS1, if_neg (by omega)]; exact he k
  · rw [bS1, if_neg (by omega)]; exact ha k
  · rw [bS1, if_neg (by omega)]; exact h5 k
/-- the sprint ended, as the reference goes -/
def endC (B : kBd) : kBd := frP (bPut B 2 (clP B (B.2 0))) (B.2 1)
def endS (B : kBd) : kBd := bPut (bPut (bSet (endC B) 6 ((endC B).2 7) (pfS B (B.2 0))) 7 ((bSet (endC B) 6 ((endC B).2 7) (pfS B (B.2 0))).2 7 + 1)) 3 0
set_option maxHeartbeats 4000000 in
set_option maxRecDepth 100000 in
/-- endSprint() -/
theorem met_X4_endSprint (l : Launch) (V : kEnv) (M : kMs) (B : kBd) (hg : M.2 0 = gOf B) (hI : bI B) (w c0 : Nat) (hw : M.1 2 = nI w) (hw2 : w < 2) (hc0 : M.1 1 = nI c0) (hc8 : c0 ≤ 8) (hu : bU B) : kI l yX4_endSprint cX4_endSprint 3 (some .int) { frames := 2, cells := 0, slots := 0, locals := 46 } V (mWs V) [.ref (eX V 500)] (M) (fun r u => (B.2 3 ≠ 0 ∧ r = nI (pfS B (B.2 0)) ∧ u = setG (kpW (nPut M 3 (nI 0)) 0 w c0) (endS B)) ∨ (B.2 3 = 0 ∧ r = nI 0 ∧ u = nPut M 3 (nI 1))) 0 0 := by
  refine kI_of (by decide +kernel) (Nat.le_of_ble_eq_true rfl) ?_
  intro pg e s m args below meth c G hret hlocks hC hB h ls hl Q hQ
  have hl : lv_has ls 3 [(0, .ref (eX V 500))] := hl
  have hx := G.1
  have hcd := G.2.1
  have hI0 := hI
  obtain ⟨hz, hbn, hn, hm, h3, h54, h4, h7, hr, he, ha, hact, h5⟩ := hI
  refine lv_aload_n hx hcd dX4_endSprint_0 rfl (lv_at hl 0 rfl) ?_
  refine lv_aload_n hx hcd dX4_endSprint_1 rfl (lv_at hl 0 rfl) ?_
  refine r_mA G hC h 0 (by decide) mw_1472 dX4_endSprint_2 ?_
  refine lv_iconst (v := nI 2) hx hcd dX4_endSprint_5 (by decide) ?_
  refine r_mL G hC h 0 (2) (by decide) (by decide) rfl (show 2 < 115 by omega) (x := nI (B.2 3)) (gOf_n hg (f := 2) (by decide)) dX4_endSprint_6 ?_
  have q_1 := hz.2 3
  refine lv_if_ne (tgt := 14) hx hcd dX4_endSprint_7 (by decide) (fun c_2 => ?_) (fun c_2 => ?_)
  · have c_2 := cNe (tN (n := B.2 3) (by omega)) t0 c_2
    refine lv_iconst (v := nI 0) hx hcd dX4_endSprint_14 (by decide) ?_
    refine k_Vi (As := [.int (nI 0)]) (rest := []) (b := eX V 500) G hC hB h (met_X4_fails l V M (nI 0)) mw_1545 kv_X4_fails ⟨rfl, rfl⟩ ⟨Nat.le_of_ble_eq_true rfl, Nat.le_of_ble_eq_true rfl⟩ (r_mV hC h) rfl rfl hl.1 (Nat.le_of_ble_eq_true rfl) dX4_endSprint_15 ⟨Nat.le_of_ble_eq_true rfl, Nat.le_of_ble_eq_true rfl⟩ (fun r u H locs hp h => ?_)
    obtain ⟨hr9, hu9⟩ := hp
    obtain rfl : r = nI 0 := (hr9.trans (by decide))
    rw [hu9] at h
    refine lv_if_eq (tgt := 23) hx hcd dX4_endSprint_18 (by decide) (fun _ => ?_) (fun c_3 => absurd c_3 (by decide))
    refine lv_aload_n hx hcd dX4_endSprint_23 rfl (lv_at hl 0 rfl) ?_
    refine lv_aload_n hx hcd dX4_endSprint_24 rfl (lv_at hl 0 rfl) ?_
    refine r_mA G hC h 0 (by decide) mw_1472 dX4_endSprint_25 ?_
    refine k_Vv (As := [.ref (eX V (501 + 0))]) (rest := []) (b := eX V 500) G hC hB h (met_X4_keeps l V (nPut M 3 (nI 0)) 0 (Or.inl rfl) w hw hw2 c0 hc0 hc8) mw_1549 kv_X4_keeps ⟨rfl, rfl⟩ ⟨Nat.le_of_ble_eq_true rfl, Nat.le_of_ble_eq_true rfl⟩ (r_mV hC h) rfl rfl hl.1 (Nat.le_of_ble_eq_true rfl) dX4_endSprint_28 ⟨Nat.le_of_ble_eq_true rfl, Nat.le_of_ble_eq_true rfl⟩ (fun u H locs hp h => ?_)
    have hu9 := hp
    rw [hu9] at h
    have hg9 : (kpW (nPut M 3 (nI 0)) 0 w c0).2 0 = gOf B := (kpW_g _ _ _ _).trans hg
    have hne3 : B.2 3 ≠ 0 := by omega
    have h79 := hact hne3
    refine lv_iconst (v := nI 0) hx hcd dX4_endSprint_31 (by decide) ?_
    refine lv_istore_n (lv' := [(1, .int (nI 0)), (0, .ref (eX V 500))]) hx hcd dX4_endSprint_32 rfl hl (by decide) rfl (fun ls hl => ?_)
    refine lv_iconst (v := nI 0) hx hcd dX4_endSprint_33 (by decide) ?_
    refine lv_istore_n (lv' := [(2, .int (nI 0)), (1, .int (nI 0)), (0, .ref (eX V 500))]) hx hcd dX4_endSprint_34 rfl hl (by decide) rfl (fun ls hl => ?_)
    have L_4 : ∀ (fu_6 : Nat) (i : Nat) (Bi : kBd) (acc : Nat) (hi : i ≤ B.2 0) (hBi : Bi = bPut B 2 (clP B i)) (hIi : bI Bi) (ha9 : acc = pfS B i) (hb2 : acc ≤ i * 65536), B.2 0 - i < fu_6 → ∀ (H : Heap) (locs : List Loc), cH V s H locs (mWs V (setG (kpW (nPut M 3 (nI 0)) 0 w c0) Bi)) → ∀ ls : Array Slot, lv_has ls 3 [(2, .int (nI (i))), (1, .int (nI (acc))), (0, .ref (eX V 500))] → W pg l e { frames := 2, cells := 0, slots := 0, locals := 46 } s m args below meth c H locs 0 0 Q (F0 m 35 ls []) := by
      intro fu_6
      induction fu_6 with
      | zero => intro i Bi acc hi hBi hIi ha9 hb2 hm; exact absurd hm (Nat.not_lt_zero _)
      | succ fu_6 ih_5 =>
        intro i Bi acc hi hBi hIi ha9 hb2 hm H locs h ls hl
        have hgi : (setG (kpW (nPut M 3 (nI 0)) 0 w c0) Bi).2 0 = gOf Bi := setG_g _ _
        have hJi := hIi
        obtain ⟨hz, hbn, hn, hm, h3, h54, h4, h7, hr, he, ha, hact, h5⟩ := hJi
        have hn0 : Bi.2 0 = B.2 0 := by rw [hBi]; rfl
        have hb1 : Bi.1 1 = B.1 1 := by rw [hBi]; rfl
        have hb0 : Bi.1 0 = B.1 0 := by rw [hBi]; rfl
        refine lv_iload_n hx hcd dX4_endSprint_35 rfl (lv_at hl 0 rfl) ?_
        refine lv_aload_n hx hcd dX4_endSprint_36 rfl (lv_at hl 2 rfl) ?_
        refine r_mA G hC h 0 (by decide) mw_1472 dX4_endSprint_37 ?_
        refine lv_iconst (v := nI 0) hx hcd dX4_endSprint_40 (by decide) ?_
        refine r_mL G hC h 0 (0) (by decide) (by decide) rfl (show 0 < 115 by omega) (x := nI (Bi.2 0)) (gOf_n hgi (f := 0) (by decide)) dX4_endSprint_41 ?_
        have q_7 := hz.2 0
        refine lv_icmp_ge (tgt := 89) hx hcd dX4_endSprint_42 (by decide) (fun c_8 => ?_) (fun c_8 => ?_)
        · have c_8 := cLe (tN (n := Bi.2 0) (by omega)) (tN (n := i) (by omega)) c_8
          have hui : bU Bi := by rw [hBi]; exact hu
          refine lv_iconst (v := nI 0) hx hcd dX4_endSprint_89 (by decide) ?_
          refine lv_istore_n (lv' := [(2, .int (nI 0)), (1, .int (nI (acc))), (0, .ref (eX V 500))]) hx hcd dX4_endSprint_90 rfl hl (by decide) rfl (fun ls hl => ?_)
          have L_9 : ∀ (fu_11 : Nat) (d9 : Nat) (Ci : kBd) (hd9 : d9 ≤ B.2 1) (hCi : Ci = frP Bi d9) (hIc : bI Ci) (huc : bU Ci) (hNc : Ci.2 = Bi.2), B.2 1 - d9 < fu_11 → ∀ (H : Heap) (locs : List Loc), cH V s H locs (mWs V (setG (kpW (nPut M 3 (nI 0)) 0 w c0) Ci)) → ∀ ls : Array Slot, lv_has ls 3 [(2, .int (nI (d9))), (1, .int (nI (acc))), (0, .ref (eX V 500))] → W pg l e { frames := 2, cells := 0, slots := 0, locals := 46 } s m args below meth c H locs 0 0 Q (F0 m 91 ls []) := by
            intro fu_11
            induction fu_11 with
            | zero => intro d9 Ci hd9 hCi hIc huc hNc hm; exact absurd hm (Nat.not_lt_zero _)
            | succ fu_11 ih_10 =>
              intro d9 Ci hd9 hCi hIc huc hNc hm H locs h ls hl
              have hgc : (setG (kpW (nPut M 3 (nI 0)) 0 w c0) Ci).2 0 = gOf Ci := setG_g _ _
              have hJc := hIc
              obtain ⟨hz, hbn, hn, hm, h3, h54, h4, h7, hr, he, ha, hact, h5⟩ := hJc
              have hc1 : Ci.2 1 = B.2 1 := by rw [hNc, hBi]; rfl
              have hc7 : Ci.2 7 = B.2 7 := by rw [hNc, hBi]; rfl
              refine lv_iload_n hx hcd dX4_endSprint_91 rfl (lv_at hl 0 rfl) ?_
              refine lv_aload_n hx hcd dX4_endSprint_92 rfl (lv_at hl 2 rfl) ?_
              refine r_mA G hC h 0 (by decide) mw_1472 dX4_endSprint_93 ?_
              refine lv_iconst (v := nI 1) hx hcd dX4_endSprint_96 (by decide) ?_
              refine r_mL G hC h 0 (1) (by decide) (by decide) rfl (show 1 < 115 by omega) (x := nI (Ci.2 1)) (gOf_n hgc (f := 1) (by decide)) dX4_endSprint_97 ?_
              have q_12 := hz.2 1
              refine lv_icmp_ge (tgt := 121) hx hcd dX4_endSprint_98 (by decide) (fun c_13 => ?_) (fun c_13 => ?_)
              · have c_13 := cLe (tN (n := Ci.2 1) (by omega)) (tN (n := d9) (by omega)) c_13
                have hacc : acc = pfS B (B.2 0) := by rw [ha9, show i = B.2 0 by omega]
                have hs8 := pfS_le hI0
                have hCf : Ci = endC B := by rw [hCi, hBi, show i = B.2 0 by omega, show d9 = B.2 1 by omega]; rfl
                refine lv_aload_n hx hcd dX4_endSprint_121 rfl (lv_at hl 2 rfl) ?_
                refine r_mA G hC h 0 (by decide) mw_1472 dX4_endSprint_122 ?_
                refine lv_bipush (v := nI 95) hx hcd dX4_endSprint_125 (by decide) ?_
                refine lv_aload_n hx hcd dX4_endSprint_127 rfl (lv_at hl 2 rfl) ?_
                refine r_mA G hC h 0 (by decide) mw_1472 dX4_endSprint_128 ?_
                refine lv_bipush (v := nI 6) hx hcd dX4_endSprint_131 (by decide) ?_
                refine r_mL G hC h 0 (6) (by decide) (by decide) rfl (show 6 < 115 by omega) (x := nI (Ci.2 7)) (gOf_n hgc (f := 6) (by decide)) dX4_endSprint_133 ?_
                have q_14 := hz.2 7
                refine w_iadd (v := nI (95 + (Ci.2 7))) hx hcd dX4_endSprint_134 (nI_add _ _) ?_
                refine lv_iload_n hx hcd dX4_endSprint_135 rfl (lv_at hl 1 rfl) ?_
                refine r_mT G hC h 0 (95 + (Ci.2 7)) (by decide) (by decide) rfl (show 95 + (Ci.2 7) < 115 by omega) rfl dX4_endSprint_136 (fun H locs h => ?_)
                rw [setG_up (upd_vel _ (by omega))] at h
                obtain ⟨E1, hE1⟩ : ∃ z, z = bSet Ci 6 (Ci.2 7) acc := ⟨_, rfl⟩
                rw [← hE1] at h
                have hIE1 : bI E1 := by rw [hE1]; exact bI_vel hIc (by omega) (by omega)
                have hgE1 : (setG (kpW (nPut M 3 (nI 0)) 0 w c0) E1).2 0 = gOf E1 := setG_g _ _
                have hJE1 := hIE1
                obtain ⟨hz, hbn, hn, hm, h3, h54, h4, h7, hr, he, ha, hact, h5⟩ := hJE1
                refine lv_aload_n hx hcd dX4_endSprint_137 rfl (lv_at hl 2 rfl) ?_
                refine r_mA G hC h 0 (by decide) mw_1472 dX4_endSprint_138 ?_
                refine lv_bipush (v := nI 6) hx hcd dX4_endSprint_141 (by decide) ?_
                refine lv_dup2_11 hx hcd dX4_endSprint_143 rfl rfl ?_
                refine r_mL G hC h 0 (6) (by decide) (by decide) rfl (show 6 < 115 by omega) (x := nI (E1.2 7)) (gOf_n hgE1 (f := 6) (by decide)) dX4_endSprint_144 ?_
                have q_16 := hz.2 7
                refine lv_iconst (v := nI 1) hx hcd dX4_endSprint_145 (by decide) ?_
                refine w_iadd (v := nI ((E1.2 7) + 1)) hx hcd dX4_endSprint_146 (nI_add _ _) ?_
                refine r_mT G hC h 0 (6) (by decide) (by decide) rfl (show 6 < 115 by omega) rfl dX4_endSprint_147 (fun H locs h => ?_)
                refine lv_aload_n hx hcd dX4_endSprint_148 rfl (lv_at hl 2 rfl) ?_
                refine r_mA G hC h 0 (by decide) mw_1472 dX4_endSprint_149 ?_
                refine lv_iconst (v := nI 2) hx hcd dX4_endSprint_152 (by decide) ?_
                refine lv_iconst (v := nI 0) hx hcd dX4_endSprint_153 (by decide) ?_
                refine r_mT G hC h 0 (2) (by decide) (by decide) rfl (show 2 < 115 by omega) rfl dX4_endSprint_154 (fun H locs h => ?_)
                rw [setG_up (show upd (gOf E1) 6 (nI (E1.2 7 + 1)) = gOf (bPut E1 7 (E1.2 7 + 1)) from upd_num (f := 6) _ (by decide) (by decide)), setG_up (show upd (gOf (bPut E1 7 (E1.2 7 + 1))) 2 (nI 0) = gOf (bPut (bPut E1 7 (E1.2 7 + 1)) 3 0) from upd_num (f := 2) 0 (by decide) (by decide))] at h
                refine lv_iload_n hx hcd dX4_endSprint_155 rfl (lv_at hl 1 rfl) ?_
                exact k_reti hQ G hret hlocks h (Or.inl ⟨hne3, by rw [hacc], by unfold endS; rw [hE1, hCf, hacc]⟩) (Nat.le_of_ble_eq_true rfl) (Nat.le_of_ble_eq_true rfl) dX4_endSprint_156
              · have c_13 := cNle (tN (n := Ci.2 1) (by omega)) (tN (n := d9) (by omega)) c_13
                refine lv_aload_n hx hcd dX4_endSprint_101 rfl (lv_at hl 2 rfl) ?_
                refine lv_iload_n hx hcd dX4_endSprint_102 rfl (lv_at hl 0 rfl) ?_
                refine lv_iconst (v := nI 1) hx hcd dX4_endSprint_103 (by decide) ?_
                refine k_Vi (As := [.int (nI (d9)), .int (nI 1)]) (rest := []) (b := eX V 500) G hC hB h (met_X4_by l V (setG (kpW (nPut M 3 (nI 0)) 0 w c0) Ci) d9 1 (by omega) (by decide)) mw_1690 kv_X4_by ⟨rfl, rfl⟩ ⟨Nat.le_of_ble_eq_true rfl, Nat.le_of_ble_eq_true rfl⟩ (r_mV hC h) rfl rfl hl.1 (Nat.le_of_ble_eq_true rfl) dX4_endSprint_104 ⟨Nat.le_of_ble_eq_true rfl, Nat.le_of_ble_eq_true rfl⟩ (fun r u H locs hp h => ?_)
                obtain ⟨hr9, hu9⟩ := hp
                obtain rfl : r = nI (Ci.1 4 d9) - 1 := (hr9.trans (gOf_p1 hgc hm (d := d9) (by omega)))
                rw [hu9] at h
                have q_18 := hz.1 4 d9
                refine lv_if_lt (tgt := 115) hx hcd dX4_endSprint_107 (by decide) (fun c_19 => ?_) (fun c_19 => ?_)
                · have c_19 := cLt (tA (n := Ci.1 4 d9) (by omega)) t0 c_19
                  refine lv_iinc (v := nI (d9 + 1)) (lv' := [(2, .int (nI (d9 + 1))), (1, .int (nI (acc))), (0, .ref (eX V 500))]) hx hcd dX4_endSprint_115 hl (k := 0) rfl (by exact nI_add (d9) 1) (by decide) rfl (fun ls hl => ?_)
                  refine lv_goto (tgt := 91) hx hcd dX4_endSprint_118 (by decide) ?_
                  exact ih_10 (d9 + 1) Ci (by omega) (frP_z hCi (by omega)) hIc huc hNc (by omega) _ _ h _ (lv_sub hl [0, 1, 2] rfl)
                · have c_19 := cNlt (tA (n := Ci.1 4 d9) (by omega)) t0 c_19
                  refine lv_aload_n hx hcd dX4_endSprint_110 rfl (lv_at hl 2 rfl) ?_
                  refine lv_iload_n hx hcd dX4_endSprint_111 rfl (lv_at hl 0 rfl) ?_
                  refine k_Vv (As := [.int (nI (d9))]) (rest := []) (b := eX V 500) G hC hB h (met_X4_frees l V (setG (kpW (nPut M 3 (nI 0)) 0 w c0) Ci) Ci hgc hIc huc d9 (by omega) (by omega)) mw_1579 kv_X4_frees ⟨rfl, rfl⟩ ⟨Nat.le_of_ble_eq_true rfl, Nat.le_of_ble_eq_true rfl⟩ (r_mV hC h) rfl rfl hl.1 (Nat.le_of_ble_eq_true rfl) dX4_endSprint_112 ⟨Nat.le_of_ble_eq_true rfl, Nat.le_of_ble_eq_true rfl⟩ (fun u H locs hp h => ?_)
                  have hu9 := hp
                  rw [hu9] at h
                  rw [setG_setG] at h
                  obtain ⟨C2, hC2⟩ : ∃ z, z = bSet Ci 4 d9 0 := ⟨_, rfl⟩
                  rw [← hC2] at h
                  have hIC2 : bI C2 := by rw [hC2]; exact bI_asg hIc (by omega) (Nat.zero_le _)
                  refine lv_iinc (v := nI (d9 + 1)) (lv' := [(2, .int (nI (d9 + 1))), (1, .int (nI (acc))), (0, .ref (eX V 500))]) hx hcd dX4_endSprint_115 hl (k := 0) rfl (by exact nI_add (d9) 1) (by decide) rfl (fun ls hl => ?_)
                  refine lv_goto (tgt := 91) hx hcd dX4_endSprint_118 (by decide) ?_
                  exact ih_10 (d9 + 1) C2 (by omega) (by rw [hC2]; exact frP_s hCi (by omega)) hIC2 (by rw [hC2]; exact bU_free huc d9) (by rw [hC2]; exact hNc) (by omega) _ _ h _ (lv_sub hl [0, 1, 2] rfl)
          exact L_9 (B.2 1 + 1) 0 Bi (Nat.zero_le _) rfl hIi hui rfl (by omega) _ _ h _ (lv_sub hl [0, 1, 2] rfl)
        · have c_8 := cNle (tN (n := Bi.2 0) (by omega)) (tN (n := i) (by omega)) c_8
          have hbt : (Bi.2 2).testBit i = (B.2 2).testBit i := by rw [hBi]; exact clP_bit B i (by omega) i (Nat.le_refl _)
          refine lv_iload_n hx hcd dX4_endSprint_45 rfl (lv_at hl 1 rfl) ?_
          refine lv_aload_n hx hcd dX4_endSprint_46 rfl (lv_at hl 2 rfl) ?_
          refine lv_iload_n hx hcd dX4_endSprint_47 rfl (lv_at hl 0 rfl) ?_
          refine lv_iconst (v := nI 2) hx hcd dX4_endSprint_48 (by decide) ?_
          refine k_Vi (As := [.int (nI (i)), .int (nI 2)]) (rest := [.int (nI (acc))]) (b := eX V 500) G hC hB h (met_X4_of l V (setG (kpW (nPut M 3 (nI 0)) 0 w c0) Bi) i 2 (by omega) (by decide)) mw_1572 kv_X4_of ⟨rfl, rfl⟩ ⟨Nat.le_of_ble_eq_true rfl, Nat.le_of_ble_eq_true rfl⟩ (r_mV hC h) rfl rfl hl.1 (Nat.le_of_ble_eq_true rfl) dX4_endSprint_49 ⟨Nat.le_of_ble_eq_true rfl, Nat.le_of_ble_eq_true rfl⟩ (fun r u H locs hp h => ?_)
          obtain ⟨hr9, hu9⟩ := hp
          obtain rfl : r = nI (pln Bi i) := (hr9.trans (gOf_s hgi hn (k := i) (w := 2) (by omega) (by decide)))
          rw [hu9] at h
          have q_20 := pln_le Bi i
          refine lv_iconst (v := nI 1) hx hcd dX4_endSprint_52 (by decide) ?_
          refine lv_icmp_ne (tgt := 73) hx hcd dX4_endSprint_53 (by decide) (fun c_21 => ?_) (fun c_21 => ?_)
          · have c_21 := cNe (tN (n := pln Bi i) (by omega)) (tN (n := 1) (by decide)) c_21
            refine lv_iconst (v := nI 0) hx hcd dX4_endSprint_73 (by decide) ?_
            refine w_iadd (v := nI (acc + 0)) hx hcd dX4_endSprint_74 (nI_add _ _) ?_
            refine lv_istore_n (lv' := [(1, .int (nI (acc + 0))), (2, .int (nI (i))), (0, .ref (eX V 500))]) hx hcd dX4_endSprint_75 rfl hl (by decide) rfl (fun ls hl => ?_)
            refine lv_aload_n hx hcd dX4_endSprint_76 rfl (lv_at hl 2 rfl) ?_
            refine lv_iload_n hx hcd dX4_endSprint_77 rfl (lv_at hl 1 rfl) ?_
            refine lv_iconst (v := nI 2) hx hcd dX4_endSprint_78 (by decide) ?_
            refine lv_iconst (v := nI 0) hx hcd dX4_endSprint_79 (by decide) ?_
            refine k_Vv (As := [.int (nI (i)), .int (nI 2), .int (nI 0)]) (rest := []) (b := eX V 500) G hC hB h (met_X4_lays l V (setG (kpW (nPut M 3 (nI 0)) 0 w c0) Bi) i 2 (nI 0) (by omega) (by decide)) mw_1556 kv_X4_lays ⟨rfl, rfl⟩ ⟨Nat.le_of_ble_eq_true rfl, Nat.le_of_ble_eq_true rfl⟩ (r_mV hC h) rfl rfl hl.1 (Nat.le_of_ble_eq_true rfl) dX4_endSprint_80 ⟨Nat.le_of_ble_eq_true rfl, Nat.le_of_ble_eq_true rfl⟩ (fun u H locs hp h => ?_)
            have hu9 := hp
            rw [hu9] at h
            rw [setG_up (upd_unpl (k := i) (by omega) hn)] at h
            obtain ⟨B2, hB2⟩ : ∃ z, z = bPut Bi 2 (andn (Bi.2 2) (2 ^ i)) := ⟨_, rfl⟩
            rw [← hB2] at h
            have hIB2 : bI B2 := by rw [hB2]; exact bI_pl hIi (andn_lt (hz.2 2))
            have hE2 : B2 = bPut B 2 (clP B (i + 1)) := by rw [hB2, hBi, bPut_2]; rfl
            refine lv_iinc (v := nI (i + 1)) (lv' := [(2, .int (nI (i + 1))), (1, .int (nI (acc + 0))), (0, .ref (eX V 500))]) hx hcd dX4_endSprint_83 hl (k := 1) rfl (by exact nI_add (i) 1) (by decide) rfl (fun ls hl => ?_)
            refine lv_goto (tgt := 35) hx hcd dX4_endSprint_86 (by decide) ?_
            exact ih_5 (i + 1) B2 (acc + 0) (by omega) hE2 hIB2 (pfS_z ha9 (by rw [← hbt, ← hb1]; exact fun z => by first | (exact Bool.noConfusion (z.1.symm.trans (pln_f (by omega)))) | (exact absurd z.2 (by omega)))) (acc_up hb2) (by omega) _ _ h _ (lv_sub hl [0, 1, 2] rfl)
          · have c_21 := cEq (tN (n := pln Bi i) (by omega)) (tN (n := 1) (by decide)) c_21
            refine lv_aload_n hx hcd dX4_endSprint_56 rfl (lv_at hl 2 rfl) ?_
            refine lv_iload_n hx hcd dX4_endSprint_57 rfl (lv_at hl 0 rfl) ?_
            refine k_Vi (As := [.int (nI (i))]) (rest := [.int (nI (acc))]) (b := eX V 500) G hC hB h (met_X4_isOver l V (setG (kpW (nPut M 3 (nI 0)) 0 w c0) Bi) Bi hgi hIi i (by omega)) mw_1568 kv_X4_isOver ⟨rfl, rfl⟩ ⟨Nat.le_of_ble_eq_true rfl, Nat.le_of_ble_eq_true rfl⟩ (r_mV hC h) rfl rfl hl.1 (Nat.le_of_ble_eq_true rfl) dX4_endSprint_58 ⟨Nat.le_of_ble_eq_true rfl, Nat.le_of_ble_eq_true rfl⟩ (fun r u H locs hp h => ?_)
            obtain ⟨hr9, hu9⟩ := hp
            obtain rfl : r = bz (decide (Bi.1 1 i = 0)) := hr9
            rw [hu9] at h
            refine lv_if_eq (tgt := 73) hx hcd dX4_endSprint_61 (by decide) (fun c_23 => ?_) (fun c_23 => ?_)
            · have c_23 := bz0 c_23
              have f_25 := of_decide_eq_false c_23
              refine lv_iconst (v := nI 0) hx hcd dX4_endSprint_73 (by decide) ?_
              refine w_iadd (v := nI (acc + 0)) hx hcd dX4_endSprint_74 (nI_add _ _) ?_
              refine lv_istore_n (lv' := [(1, .int (nI (acc + 0))), (2, .int (nI (i))), (0, .ref (eX V 500))]) hx hcd dX4_endSprint_75 rfl hl (by decide) rfl (fun ls hl => ?_)
              refine lv_aload_n hx hcd dX4_endSprint_76 rfl (lv_at hl 2 rfl) ?_
              refine lv_iload_n hx hcd dX4_endSprint_77 rfl (lv_at hl 1 rfl) ?_
              refine lv_iconst (v := nI 2) hx hcd dX4_endSprint_78 (by decide) ?_
              refine lv_iconst (v := nI 0) hx hcd dX4_endSprint_79 (by decide) ?_
              refine k_Vv (As := [.int (nI (i)), .int (nI 2), .int (nI 0)]) (rest := []) (b := eX V 500) G hC hB h (met_X4_lays l V (setG (kpW (nPut M 3 (nI 0)) 0 w c0) Bi) i 2 (nI 0) (by omega) (by decide)) mw_1556 kv_X4_lays ⟨rfl, rfl⟩ ⟨Nat.le_of_ble_eq_true rfl, Nat.le_of_ble_eq_true rfl⟩ (r_mV hC h) rfl rfl hl.1 (Nat.le_of_ble_eq_true rfl) dX4_endSprint_80 ⟨Nat.le_of_ble_eq_true rfl, Nat.le_of_ble_eq_true rfl⟩ (fun u H locs hp h => ?_)
              have hu9 := hp
              rw [hu9] at h
              rw [setG_up (upd_unpl (k := i) (by omega) hn)] at h
              obtain ⟨B2, hB2⟩ : ∃ z, z = bPut Bi 2 (andn (Bi.2 2) (2 ^ i)) := ⟨_, rfl⟩
              rw [← hB2] at h
              have hIB2 : bI B2 := by rw [hB2]; exact bI_pl hIi (andn_lt (hz.2 2))
              have hE2 : B2 = bPut B 2 (clP B (i + 1)) := by rw [hB2, hBi, bPut_2]; rfl
              refine lv_iinc (v := nI (i + 1)) (lv' := [(2, .int (nI (i + 1))), (1, .int (nI (acc + 0))), (0, .ref (eX V 500))]) hx hcd dX4_endSprint_83 hl (k := 1) rfl (by exact nI_add (i) 1) (by decide) rfl (fun ls hl => ?_)
              refine lv_goto (tgt := 35) hx hcd dX4_endSprint_86 (by decide) ?_
              exact ih_5 (i + 1) B2 (acc + 0) (by omega) hE2 hIB2 (pfS_z ha9 (by rw [← hbt, ← hb1]; exact fun z => by first | (exact Bool.noConfusion (z.1.symm.trans (pln_f (by omega)))) | (exact absurd z.2 (by omega)))) (acc_up hb2) (by omega) _ _ h _ (lv_sub hl [0, 1, 2] rfl)
            · have c_23 := bz1 c_23
              have f_24 := of_decide_eq_true c_23
              refine lv_aload_n hx hcd dX4_endSprint_64 rfl (lv_at hl 2 rfl) ?_
              refine lv_iload_n hx hcd dX4_endSprint_65 rfl (lv_at hl 0 rfl) ?_
              refine lv_iconst (v := nI 0) hx hcd dX4_endSprint_66 (by decide) ?_
              refine k_Vi (As := [.int (nI (i)), .int (nI 0)]) (rest := [.int (nI (acc))]) (b := eX V 500) G hC hB h (met_X4_of l V (setG (kpW (nPut M 3 (nI 0)) 0 w c0) Bi) i 0 (by omega) (by decide)) mw_1572 kv_X4_of ⟨rfl, rfl⟩ ⟨Nat.le_of_ble_eq_true rfl, Nat.le_of_ble_eq_true rfl⟩ (r_mV hC h) rfl rfl hl.1 (Nat.le_of_ble_eq_true rfl) dX4_endSprint_67 ⟨Nat.le_of_ble_eq_true rfl, Nat.le_of_ble_eq_true rfl⟩ (fun r u H locs hp h => ?_)
              obtain ⟨hr9, hu9⟩ := hp
              obtain rfl : r = nI (Bi.1 0 i) := (hr9.trans (gOf_s hgi hn (k := i) (w := 0) (by omega) (by decide)))
              rw [hu9] at h
              have q_27 := hz.1 0 i
              refine lv_goto (tgt := 74) hx hcd dX4_endSprint_70 (by decide) ?_
              refine w_iadd (v := nI (acc + (Bi.1 0 i))) hx hcd dX4_endSprint_74 (nI_add _ _) ?_
              refine lv_istore_n (lv' := [(1, .int (nI (acc + (Bi.1 0 i)))), (2, .int (nI (i))), (0, .ref (eX V 500))]) hx hcd dX4_endSprint_75 rfl hl (by decide) rfl (fun ls hl => ?_)
              refine lv_aload_n hx hcd dX4_endSprint_76 rfl (lv_at hl 2 rfl) ?_
              refine lv_iload_n hx hcd dX4_endSprint_77 rfl (lv_at hl 1 rfl) ?_
              refine lv_iconst (v := nI 2) hx hcd dX4_endSprint_78 (by decide) ?_
              refine lv_iconst (v := nI 0) hx hcd dX4_endSprint_79 (by decide) ?_
              refine k_Vv (As := [.int (nI (i)), .int (nI 2), .int (nI 0)]) (rest := []) (b := eX V 500) G hC hB h (met_X4_lays l V (setG (kpW (nPut M 3 (nI 0)) 0 w c0) Bi) i 2 (nI 0) (by omega) (by decide)) mw_1556 kv_X4_lays ⟨rfl, rfl⟩ ⟨Nat.le_of_ble_eq_true rfl, Nat.le_of_ble_eq_true rfl⟩ (r_mV hC h) rfl rfl hl.1 (Nat.le_of_ble_eq_true rfl) dX4_endSprint_80 ⟨Nat.le_of_ble_eq_true rfl, Nat.le_of_ble_eq_true rfl⟩ (fun u H locs hp h => ?_)
              have hu9 := hp
              rw [hu9] at h
              rw [setG_up (upd_unpl (k := i) (by omega) hn)] at h
              obtain ⟨B2, hB2⟩ : ∃ z, z = bPut Bi 2 (andn (Bi.2 2) (2 ^ i)) := ⟨_, rfl⟩
              rw [← hB2] at h
              have hIB2 : bI B2 := by rw [hB2]; exact bI_pl hIi (andn_lt (hz.2 2))
              have hE2 : B2 = bPut B 2 (clP B (i + 1)) := by rw [hB2, hBi, bPut_2]; rfl
              refine lv_iinc (v := nI (i + 1)) (lv' := [(2, .int (nI (i + 1))), (1, .int (nI (acc + (Bi.1 0 i)))), (0, .ref (eX V 500))]) hx hcd dX4_endSprint_83 hl (k := 1) rfl (by exact nI_add (i) 1) (by decide) rfl (fun ls hl => ?_)
              refine lv_goto (tgt := 35) hx hcd dX4_endSprint_86 (by decide) ?_
              exact ih_5 (i + 1) B2 (acc + (Bi.1 0 i)) (by omega) hE2 hIB2 (by rw [hb0]; exact pfS_t ha9 (by rw [← hbt, ← hb1]; exact ⟨pln_t (by omega), by omega⟩)) (by have := he i; omega) (by omega) _ _ h _ (lv_sub hl [0, 1, 2] rfl)
    exact L_4 (B.2 0 + 1) 0 B 0 (Nat.zero_le _) (Prod.ext rfl (funext fun g => by show B.2 g = (if g = 2 then B.2 2 else B.2 g); split; (rename_i z; rw [z]); rfl)) hI0 rfl (by decide) (by omega) _ _ (by rw [setG_self hg9]; exact h) _ (lv_sub hl [0, 1, 2] rfl)
  · have c_2 := cEq (tN (n := B.2 3) (by omega)) t0 c_2
    refine lv_iconst (v := nI 1) hx hcd dX4_endSprint_10 (by decide) ?_
    refine lv_goto (tgt := 15) hx hcd dX4_endSprint_11 (by decide) ?_
    refine k_Vi (As := [.int (nI 1)]) (rest := []) (b := eX V 500) G hC hB h (met_X4_fails l V M (nI 1)) mw_1545 kv_X4_fails ⟨rfl, rfl⟩ ⟨Nat.le_of_ble_eq_true rfl, Nat.le_of_ble_eq_true rfl⟩ (r_mV hC h) rfl rfl hl.1 (Nat.le_of_ble_eq_true rfl) dX4_endSprint_15 ⟨Nat.le_of_ble_eq_true rfl, Nat.le_of_ble_eq_true rfl⟩ (fun r u H locs hp h => ?_)
    obtain ⟨hr9, hu9⟩ := hp
    obtain rfl : r = nI 1 := (hr9.trans (by decide))
    rw [hu9] at h
    refine lv_if_eq (tgt := 23) hx hcd dX4_endSprint_18 (by decide) (fun c_29 => absurd c_29 (by decide)) (fun _ => ?_)
    refine lv_iconst (v := nI 0) hx hcd dX4_endSprint_21 (by decide) ?_
    exact k_reti hQ G hret hlocks h (Or.inr ⟨by omega, rfl, rfl⟩) (Nat.le_of_ble_eq_true rfl) (Nat.le_of_ble_eq_true rfl) dX4_endSprint_22
