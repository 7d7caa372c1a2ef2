/-! THE REFERENCE: a day's work. -/
theorem setG_self {M : kMs} {B : kBd} (hg : M.2 0 = gOf B) : setG M B = M := by
  unfold setG
  refine Prod.ext rfl (funext fun r => ?_)
  show va_up M.2 0 (gOf B) r = M.2 r
  simp only [va_up]
  by_cases h : r = 0
  · rw [if_pos h, h, hg]
  · rw [if_neg h]
theorem n_most0 {a b : Nat} (ha : a < 1073741824) (hb : b < 1073741824) : (if (nI a - nI b : Int32).toInt < (nI 0 : Int32).toInt then nI 0 else nI a - nI b) = nI (a - b) := by
  have h1 := n_max0 ha hb
  rw [← h1]
  by_cases h : nI a - nI b < nI 0
  · rw [if_pos h, if_pos (Int32.lt_iff_toInt_lt.mp h)]
  · rw [if_neg h, if_neg (fun z => h (Int32.lt_iff_toInt_lt.mpr z))]
def brd (B : kBd) : Nat := orUp (fun k => if 0 < opS B k then 2 ^ k else 0) (B.2 0)
def brI (B : kBd) (i : Nat) : Nat := orUp (fun k => if 0 < opS B k then 2 ^ k else 0) i
theorem brI_t {B : kBd} {i a : Nat} (ha : a = brI B i) (h : 0 < opS B i) : a ||| 2 ^ i = brI B (i + 1) := by
  rw [ha]
  show brI B i ||| 2 ^ i = brI B i ||| (if 0 < opS B i then 2 ^ i else 0)
  rw [if_pos h]
theorem brI_z {B : kBd} {i a : Nat} (ha : a = brI B i) (h : ¬ 0 < opS B i) : a ||| 0 = brI B (i + 1) := by
  rw [ha]
  show brI B i ||| 0 = brI B i ||| (if 0 < opS B i then 2 ^ i else 0)
  rw [if_neg h]
def wsM (bar : Nat) (x : kBd × Nat) (d : Nat) : kBd × Nat :=
  if 0 < x.1.1 4 d ∧ bar.testBit (x.1.1 4 d - 1) = false then
    (if x.1.1 1 (x.1.1 4 d - 1) - x.1.1 3 d = 0 then (bSet (bSet x.1 1 (x.1.1 4 d - 1) (x.1.1 1 (x.1.1 4 d - 1) - x.1.1 3 d)) 4 d 0, x.2 + 1)
    else (bSet x.1 1 (x.1.1 4 d - 1) (x.1.1 1 (x.1.1 4 d - 1) - x.1.1 3 d), x.2))
  else x
def wkM (B : kBd) : Nat → kBd × Nat
  | 0 => (B, 0)
  | d + 1 => wsM (brd B) (wkM B d) d
theorem wkM_n {B C : kBd} {i n : Nat} (h : wkM B i = (C, n)) (hc : ¬ (0 < C.1 4 i ∧ (brd B).testBit (C.1 4 i - 1) = false)) : wkM B (i + 1) = (C, n) := by
  show wsM (brd B) (wkM B i) i = (C, n)
  rw [h]
  exact if_neg hc
theorem wkM_s {B C : kBd} {i n : Nat} (h : wkM B i = (C, n)) (h0 : 0 < C.1 4 i) (hb : (brd B).testBit (C.1 4 i - 1) = false) (hv : C.1 1 (C.1 4 i - 1) - C.1 3 i ≠ 0) : wkM B (i + 1) = (bSet C 1 (C.1 4 i - 1) (C.1 1 (C.1 4 i - 1) - C.1 3 i), n) := by
  show wsM (brd B) (wkM B i) i = _
  rw [h]
  exact (if_pos ⟨h0, hb⟩).trans (if_neg hv)
theorem wkM_d {B C : kBd} {i n : Nat} (h : wkM B i = (C, n)) (h0 : 0 < C.1 4 i) (hb : (brd B).testBit (C.1 4 i - 1) = false) (hv : C.1 1 (C.1 4 i - 1) - C.1 3 i = 0) : wkM B (i + 1) = (bSet (bSet C 1 (C.1 4 i - 1) (C.1 1 (C.1 4 i - 1) - C.1 3 i)) 4 i 0, n + 1) := by
  show wsM (brd B) (wkM B i) i = _
  rw [h]
  exact (if_pos ⟨h0, hb⟩).trans (if_pos hv)
theorem bU_free {B : kBd} (h : bU B) (d : Nat) : bU (bSet B 4 d 0) := by
  intro a b ha hb h1 h2
  rw [bS1] at h1 h2
  rw [bS1] at h2
  by_cases c1 : a = d
  · rw [if_pos ⟨rfl, c1⟩] at h1; exact absurd rfl h1
  · rw [if_neg (fun z => c1 z.2)] at h1 h2
    by_cases c2 : b = d
    · rw [if_pos ⟨rfl, c2⟩] at h2; exact absurd h2 h1
    · rw [if_neg (fun z => c2 z.2)] at h2
      exact h a b ha hb h1 h2
theorem ks_X4_most : kSt yX4_most cX4_most 2 (some .int) 2 := ⟨mw_1672, mw_64, mw_1673, by decide, by decide, by decide +kernel⟩
set_option maxHeartbeats 4000000 in
set_option maxRecDepth 100000 in
/-- works() -/
theorem met_X4_works (l : Launch) (V : kEnv) (M : kMs) (B : kBd) (hg : M.2 0 = gOf B) (hI : bI B) (hu : bU B) : kI l yX4_works cX4_works 5 (some .int) { frames := 3, cells := 0, slots := 0, locals := 67 } V (mWs V) [.ref (eX V 500)] (M) (fun r u => r = nI (wkM B (B.2 1)).2 ∧ u = setG M (wkM B (B.2 1)).1) 0 0 := by
  refine kI_of (by decide +kernel) (Nat.le_of_ble_eq_true rfl) ?_
  intro pg e s m args below meth c G hret hlocks hC hB h ls hl Q hQ
  have hl : lv_has ls 5 [(0, .ref (eX V 500))] := hl
  have hx := G.1
  have hcd := G.2.1
  have hI0 := hI
  obtain ⟨hz, hbn, hn, hm, h3, h54, h4, h7, hr, he, ha, hact, h5⟩ := hI
  refine lv_iconst (v := nI 0) hx hcd dX4_works_0 (by decide) ?_
  refine lv_istore_n (lv' := [(1, .int (nI 0)), (0, .ref (eX V 500))]) hx hcd dX4_works_1 rfl hl (by decide) rfl (fun ls hl => ?_)
  refine lv_iconst (v := nI 0) hx hcd dX4_works_2 (by decide) ?_
  refine lv_istore_n (lv' := [(2, .int (nI 0)), (1, .int (nI 0)), (0, .ref (eX V 500))]) hx hcd dX4_works_3 rfl hl (by decide) rfl (fun ls hl => ?_)
  refine lv_iconst (v := nI 0) hx hcd dX4_works_4 (by decide) ?_
  refine lv_istore_n (lv' := [(3, .int (nI 0)), (2, .int (nI 0)), (1, .int (nI 0)), (0, .ref (eX V 500))]) hx hcd dX4_works_5 rfl hl (by decide) rfl (fun ls hl => ?_)
  have L_1 : ∀ (fu_3 : Nat) (i : Nat) (acc : Nat) (hi : i ≤ B.2 0) (ha9 : acc = brI B i) (hb2 : acc < 65536), B.2 0 - i < fu_3 → ∀ (H : Heap) (locs : List Loc), cH V s H locs (mWs V M) → ∀ ls : Array Slot, lv_has ls 5 [(3, .int (nI (i))), (1, .int (nI (acc))), (2, .int (nI 0)), (0, .ref (eX V 500))] → W pg l e { frames := 3, cells := 0, slots := 0, locals := 67 } s m args below meth c H locs 0 0 Q (F0 m 6 ls []) := by
    intro fu_3
    induction fu_3 with
    | zero => intro i acc hi ha9 hb2 hm; exact absurd hm (Nat.not_lt_zero _)
    | succ fu_3 ih_2 =>
      intro i acc hi ha9 hb2 hm H locs h ls hl
      refine lv_iload_n hx hcd dX4_works_6 rfl (lv_at hl 0 rfl) ?_
      refine lv_aload_n hx hcd dX4_works_7 rfl (lv_at hl 3 rfl) ?_
      refine r_mA G hC h 0 (by decide) mw_1472 dX4_works_8 ?_
      refine lv_iconst (v := nI 0) hx hcd dX4_works_11 (by decide) ?_
      refine r_mL G hC h 0 (0) (by decide) (by decide) rfl (show 0 < 115 by omega) (x := nI (B.2 0)) (gOf_n hg (f := 0) (by decide)) dX4_works_12 ?_
      have q_4 := hz.2 0
      refine lv_icmp_ge (tgt := 40) hx hcd dX4_works_13 (by decide) (fun c_5 => ?_) (fun c_5 => ?_)
      · have c_5 := cLe (tN (n := B.2 0) (by omega)) (tN (n := i) (by omega)) c_5
        have hbr : acc = brd B := by rw [ha9, show i = B.2 0 by omega]; rfl
        rw [hbr] at hl
        have hbl : brd B < 65536 := by rw [← hbr]; exact hb2
        refine lv_iconst (v := nI 0) hx hcd dX4_works_40 (by decide) ?_
        refine lv_istore_n (lv' := [(3, .int (nI 0)), (1, .int (nI (brd B))), (2, .int (nI 0)), (0, .ref (eX V 500))]) hx hcd dX4_works_41 rfl hl (by decide) rfl (fun ls hl => ?_)
        have L_6 : ∀ (fu_8 : Nat) (i : Nat) (Bi : kBd) (n9 : Nat) (hi9 : i ≤ B.2 1) (hBi : wkM B i = (Bi, n9)) (hIi : bI Bi) (hui : bU Bi) (hN : Bi.2 = B.2) (hn9 : n9 ≤ i), B.2 1 - i < fu_8 → ∀ (H : Heap) (locs : List Loc), cH V s H locs (mWs V (setG M Bi)) → ∀ ls : Array Slot, lv_has ls 5 [(3, .int (nI (i))), (1, .int (nI (brd B))), (2, .int (nI (n9))), (0, .ref (eX V 500))] → W pg l e { frames := 3, cells := 0, slots := 0, locals := 67 } s m args below meth c H locs 0 0 Q (F0 m 42 ls []) := by
          intro fu_8
          induction fu_8 with
          | zero => intro i Bi n9 hi9 hBi hIi hui hN hn9 hm; exact absurd hm (Nat.not_lt_zero _)
          | succ fu_8 ih_7 =>
            intro i Bi n9 hi9 hBi hIi hui hN hn9 hm H locs h ls hl
            have hgi : (setG M Bi).2 0 = gOf Bi := setG_g _ _
            have hJi := hIi
            obtain ⟨hz, hbn, hn, hm, h3, h54, h4, h7, hr, he, ha, hact, h5⟩ := hJi
            have hn0 : Bi.2 0 = B.2 0 := by rw [hN]
            have hn1 : Bi.2 1 = B.2 1 := by rw [hN]
            refine lv_iload_n hx hcd dX4_works_42 rfl (lv_at hl 0 rfl) ?_
            refine lv_aload_n hx hcd dX4_works_43 rfl (lv_at hl 3 rfl) ?_
            refine r_mA G hC h 0 (by decide) mw_1472 dX4_works_44 ?_
            refine lv_iconst (v := nI 1) hx hcd dX4_works_47 (by decide) ?_
            refine r_mL G hC h 0 (1) (by decide) (by decide) rfl (show 1 < 115 by omega) (x := nI (Bi.2 1)) (gOf_n hgi (f := 1) (by decide)) dX4_works_48 ?_
            have q_9 := hz.2 1
            refine lv_icmp_ge (tgt := 129) hx hcd dX4_works_49 (by decide) (fun c_10 => ?_) (fun c_10 => ?_)
            · have c_10 := cLe (tN (n := Bi.2 1) (by omega)) (tN (n := i) (by omega)) c_10
              refine lv_iload_n hx hcd dX4_works_129 rfl (lv_at hl 2 rfl) ?_
              exact k_reti hQ G hret hlocks h (⟨by rw [show B.2 1 = i by omega, hBi], by rw [show B.2 1 = i by omega, hBi]⟩) (Nat.le_of_ble_eq_true rfl) (Nat.le_of_ble_eq_true rfl) dX4_works_130
            · have c_10 := cNle (tN (n := Bi.2 1) (by omega)) (tN (n := i) (by omega)) c_10
              refine lv_aload_n hx hcd dX4_works_52 rfl (lv_at hl 3 rfl) ?_
              refine lv_iload_n hx hcd dX4_works_53 rfl (lv_at hl 0 rfl) ?_
              refine lv_iconst (v := nI 1) hx hcd dX4_works_54 (by decide) ?_
              refine k_Vi (As := [.int (nI (i)), .int (nI 1)]) (rest := []) (b := eX V 500) G hC hB h (met_X4_by l V (setG M Bi) i 1 (by omega) (by decide)) mw_1690 kv_X4_by ⟨rfl, rfl⟩ ⟨Nat.le_of_ble_eq_true rfl, Nat.le_of_ble_eq_true rfl⟩ (r_mV hC h) rfl rfl hl.1 (Nat.le_of_ble_eq_true rfl) dX4_works_55 ⟨Nat.le_of_ble_eq_true rfl, Nat.le_of_ble_eq_true rfl⟩ (fun r u H locs hp h => ?_)
              obtain ⟨hr9, hu9⟩ := hp
              obtain rfl : r = nI (Bi.1 4 i) - 1 := (hr9.trans (gOf_p1 hgi hm (d := i) (by omega)))
              rw [hu9] at h
              have q_11 := hz.1 4 i
              refine lv_istore (lv' := [(4, .int (nI (Bi.1 4 i) - 1)), (3, .int (nI (i))), (1, .int (nI (brd B))), (2, .int (nI (n9))), (0, .ref (eX V 500))]) hx hcd dX4_works_58 hl (by decide) rfl (fun ls hl => ?_)
              refine lv_iload hx hcd dX4_works_60 (lv_at hl 0 rfl) ?_
              refine lv_if_lt (tgt := 123) hx hcd dX4_works_62 (by decide) (fun c_12 => ?_) (fun c_12 => ?_)
              · have c_12 := cLt (tA (n := Bi.1 4 i) (by omega)) t0 c_12
                refine lv_iinc (v := nI (i + 1)) (lv' := [(3, .int (nI (i + 1))), (4, .int (nI (Bi.1 4 i) - 1)), (1, .int (nI (brd B))), (2, .int (nI (n9))), (0, .ref (eX V 500))]) hx hcd dX4_works_123 hl (k := 1) rfl (by exact nI_add (i) 1) (by decide) rfl (fun ls hl => ?_)
                refine lv_goto (tgt := 42) hx hcd dX4_works_126 (by decide) ?_
                exact ih_7 (i + 1) Bi n9 (by omega) (wkM_n hBi (fun z => by first | omega | exact Bool.noConfusion (z.2.symm.trans (tb_t (by omega))))) hIi hui hN (by omega) (by omega) _ _ h _ (lv_sub hl [0, 2, 3, 4] rfl)
              · have c_12 := cNlt (tA (n := Bi.1 4 i) (by omega)) t0 c_12
                rw [show nI (Bi.1 4 i) - 1 = nI (Bi.1 4 i - 1) from pk_sub (b := 1) (by omega)] at hl
                have hai := ha i
                have hti : Bi.1 4 i - 1 < Bi.2 0 := by omega
                have hri := hr (Bi.1 4 i - 1)
                have hei := he (Bi.1 4 i - 1)
                have hsi := hz.1 3 i
                refine lv_iload_n hx hcd dX4_works_65 rfl (lv_at hl 2 rfl) ?_
                refine lv_iload hx hcd dX4_works_66 (lv_at hl 0 rfl) ?_
                refine w_ishr (v := nI ((brd B) / 2 ^ (Bi.1 4 i - 1))) hx hcd dX4_works_68 (n_shr (by omega) (by omega)) ?_
                refine lv_iconst (v := nI 1) hx hcd dX4_works_69 (by decide) ?_
                refine w_iand (v := nI (((brd B) / 2 ^ (Bi.1 4 i - 1)) % 2)) hx hcd dX4_works_70 (n_and1' _) ?_
                refine lv_iconst (v := nI 1) hx hcd dX4_works_71 (by decide) ?_
                refine lv_icmp_ne (tgt := 78) hx hcd dX4_works_72 (by decide) (fun c_15 => ?_) (fun c_15 => ?_)
                · have c_15 := cNe (tN (n := ((brd B) / 2 ^ (Bi.1 4 i - 1)) % 2) (by omega)) (tN (n := 1) (by decide)) c_15
                  refine lv_aload_n hx hcd dX4_works_78 rfl (lv_at hl 4 rfl) ?_
                  refine lv_iload hx hcd dX4_works_79 (lv_at hl 0 rfl) ?_
                  refine lv_iconst (v := nI 1) hx hcd dX4_works_81 (by decide) ?_
                  refine lv_iconst (v := nI 0) hx hcd dX4_works_82 (by decide) ?_
                  refine lv_aload_n hx hcd dX4_works_83 rfl (lv_at hl 4 rfl) ?_
                  refine lv_iload hx hcd dX4_works_84 (lv_at hl 0 rfl) ?_
                  refine lv_iconst (v := nI 1) hx hcd dX4_works_86 (by decide) ?_
                  refine k_Vi (As := [.int (nI (Bi.1 4 i - 1)), .int (nI 1)]) (rest := [.int (nI 0), .int (nI 1), .int (nI (Bi.1 4 i - 1)), .ref (eX V 500)]) (b := eX V 500) G hC hB h (met_X4_of l V (setG M Bi) (Bi.1 4 i - 1) 1 (by omega) (by decide)) mw_1572 kv_X4_of ⟨rfl, rfl⟩ ⟨Nat.le_of_ble_eq_true rfl, Nat.le_of_ble_eq_true rfl⟩ (r_mV hC h) rfl rfl hl.1 (Nat.le_of_ble_eq_true rfl) dX4_works_87 ⟨Nat.le_of_ble_eq_true rfl, Nat.le_of_ble_eq_true rfl⟩ (fun r u H locs hp h => ?_)
                  obtain ⟨hr9, hu9⟩ := hp
                  obtain rfl : r = nI (Bi.1 1 (Bi.1 4 i - 1)) := (hr9.trans (gOf_s hgi hn (k := (Bi.1 4 i - 1)) (w := 1) (by omega) (by decide)))
                  rw [hu9] at h
                  have q_16 := hz.1 1 (Bi.1 4 i - 1)
                  refine lv_aload_n hx hcd dX4_works_90 rfl (lv_at hl 4 rfl) ?_
                  refine lv_iload_n hx hcd dX4_works_91 rfl (lv_at hl 1 rfl) ?_
                  refine lv_iconst (v := nI 0) hx hcd dX4_works_92 (by decide) ?_
                  refine k_Vi (As := [.int (nI (i)), .int (nI 0)]) (rest := [.int (nI (Bi.1 1 (Bi.1 4 i - 1))), .int (nI 0), .int (nI 1), .int (nI (Bi.1 4 i - 1)), .ref (eX V 500)]) (b := eX V 500) G hC hB h (met_X4_by l V (setG M Bi) i 0 (by omega) (by decide)) mw_1690 kv_X4_by ⟨rfl, rfl⟩ ⟨Nat.le_of_ble_eq_true rfl, Nat.le_of_ble_eq_true rfl⟩ (r_mV hC h) rfl rfl hl.1 (Nat.le_of_ble_eq_true rfl) dX4_works_93 ⟨Nat.le_of_ble_eq_true rfl, Nat.le_of_ble_eq_true rfl⟩ (fun r u H locs hp h => ?_)
                  obtain ⟨hr9, hu9⟩ := hp
                  obtain rfl : r = nI (Bi.1 3 i) := (hr9.trans (gOf_p0 hgi hm (d := i) (by omega)))
                  rw [hu9] at h
                  have q_17 := hz.1 3 i
                  refine w_isub (v := nI (Bi.1 1 (Bi.1 4 i - 1)) - nI (Bi.1 3 i)) hx hcd dX4_works_96 rfl ?_
                  refine k_Si (As := [.int (nI 0), .int (nI (Bi.1 1 (Bi.1 4 i - 1)) - nI (Bi.1 3 i))]) (rest := [.int (nI 1), .int (nI (Bi.1 4 i - 1)), .ref (eX V 500)]) G hC hB h (met_X4_most l V (setG M Bi) (nI 0) (nI (Bi.1 1 (Bi.1 4 i - 1)) - nI (Bi.1 3 i))) mw_1671 ks_X4_most ⟨rfl, rfl⟩ ⟨Nat.le_of_ble_eq_true rfl, Nat.le_of_ble_eq_true rfl⟩ rfl rfl hl.1 (Nat.le_of_ble_eq_true rfl) dX4_works_97 ⟨Nat.le_of_ble_eq_true rfl, Nat.le_of_ble_eq_true rfl⟩ (fun r u H locs hp h => ?_)
                  obtain ⟨hr9, hu9⟩ := hp
                  obtain rfl : r = nI ((Bi.1 1 (Bi.1 4 i - 1)) - (Bi.1 3 i)) := (hr9.trans (n_most0 (by omega) (by omega)))
                  rw [hu9] at h
                  refine k_Vv (As := [.int (nI (Bi.1 4 i - 1)), .int (nI 1), .int (nI ((Bi.1 1 (Bi.1 4 i - 1)) - (Bi.1 3 i)))]) (rest := []) (b := eX V 500) G hC hB h (met_X4_lays l V (setG M Bi) (Bi.1 4 i - 1) 1 (nI ((Bi.1 1 (Bi.1 4 i - 1)) - (Bi.1 3 i))) (by omega) (by decide)) mw_1556 kv_X4_lays ⟨rfl, rfl⟩ ⟨Nat.le_of_ble_eq_true rfl, Nat.le_of_ble_eq_true rfl⟩ (r_mV hC h) rfl rfl hl.1 (Nat.le_of_ble_eq_true rfl) dX4_works_100 ⟨Nat.le_of_ble_eq_true rfl, Nat.le_of_ble_eq_true rfl⟩ (fun u H locs hp h => ?_)
                  have hu9 := hp
                  rw [hu9] at h
                  have hbt : (brd B).testBit (Bi.1 4 i - 1) = false := tb_f (by omega)
                  rw [setG_up (upd_left _ hti hn)] at h
                  obtain ⟨B2, hB2⟩ : ∃ z, z = bSet Bi 1 (Bi.1 4 i - 1) (Bi.1 1 (Bi.1 4 i - 1) - Bi.1 3 i) := ⟨_, rfl⟩
                  rw [← hB2] at h
                  have hIB2 : bI B2 := by rw [hB2]; exact bI_left hIi (by omega) (by omega)
                  have hgB2 : (setG M B2).2 0 = gOf B2 := setG_g _ _
                  have hu2 : bU B2 := by rw [hB2]; exact hui
                  have hN2 : B2.2 = B.2 := by rw [hB2]; exact hN
                  have ht2 : Bi.1 4 i - 1 < B2.2 0 := by rw [hN2]; omega
                  have hi2 : i < B2.2 1 := by rw [hN2]; omega
                  have h42 : B2.1 4 i ≠ 0 := by rw [hB2]; show Bi.1 4 i ≠ 0; omega
                  have hv2 : B2.1 1 (Bi.1 4 i - 1) = Bi.1 1 (Bi.1 4 i - 1) - Bi.1 3 i := by rw [hB2, bS1, if_pos ⟨rfl, rfl⟩]
                  have hJB2 := hIB2
                  obtain ⟨hz, hbn, hn, hm, h3, h54, h4, h7, hr, he, ha, hact, h5⟩ := hJB2
                  refine lv_aload_n hx hcd dX4_works_103 rfl (lv_at hl 4 rfl) ?_
                  refine lv_iload hx hcd dX4_works_104 (lv_at hl 0 rfl) ?_
                  refine k_Vi (As := [.int (nI (Bi.1 4 i - 1))]) (rest := []) (b := eX V 500) G hC hB h (met_X4_isOver l V (setG M B2) B2 hgB2 hIB2 (Bi.1 4 i - 1) (by omega)) mw_1568 kv_X4_isOver ⟨rfl, rfl⟩ ⟨Nat.le_of_ble_eq_true rfl, Nat.le_of_ble_eq_true rfl⟩ (r_mV hC h) rfl rfl hl.1 (Nat.le_of_ble_eq_true rfl) dX4_works_106 ⟨Nat.le_of_ble_eq_true rfl, Nat.le_of_ble_eq_true rfl⟩ (fun r u H locs hp h => ?_)
                  obtain ⟨hr9, hu9⟩ := hp
                  obtain rfl : r = bz (decide (B2.1 1 (Bi.1 4 i - 1) = 0)) := hr9
                  rw [hu9] at h
                  refine lv_if_ne (tgt := 115) hx hcd dX4_works_109 (by decide) (fun c_18 => ?_) (fun c_18 => ?_)
                  · have c_18 := bz1 c_18
                    have f_19 := of_decide_eq_true c_18
                    refine lv_aload_n hx hcd dX4_works_115 rfl (lv_at hl 4 rfl) ?_
                    refine lv_iload_n hx hcd dX4_works_116 rfl (lv_at hl 1 rfl) ?_
                    refine k_Vv (As := [.int (nI (i))]) (rest := []) (b := eX V 500) G hC hB h (met_X4_frees l V (setG M B2) B2 hgB2 hIB2 hu2 i (by omega) (by omega)) mw_1579 kv_X4_frees ⟨rfl, rfl⟩ ⟨Nat.le_of_ble_eq_true rfl, Nat.le_of_ble_eq_true rfl⟩ (r_mV hC h) rfl rfl hl.1 (Nat.le_of_ble_eq_true rfl) dX4_works_117 ⟨Nat.le_of_ble_eq_true rfl, Nat.le_of_ble_eq_true rfl⟩ (fun u H locs hp h => ?_)
                    have hu9 := hp
                    rw [hu9] at h
                    rw [setG_setG] at h
                    obtain ⟨B3, hB3⟩ : ∃ z, z = bSet B2 4 i 0 := ⟨_, rfl⟩
                    rw [← hB3] at h
                    have hIB3 : bI B3 := by rw [hB3]; exact bI_asg hIB2 (by omega) (Nat.zero_le _)
                    refine lv_iinc (v := nI (n9 + 1)) (lv' := [(2, .int (nI (n9 + 1))), (4, .int (nI (Bi.1 4 i - 1))), (3, .int (nI (i))), (1, .int (nI (brd B))), (0, .ref (eX V 500))]) hx hcd dX4_works_120 hl (k := 3) rfl (by exact nI_add (n9) 1) (by decide) rfl (fun ls hl => ?_)
                    refine lv_iinc (v := nI (i + 1)) (lv' := [(3, .int (nI (i + 1))), (2, .int (nI (n9 + 1))), (4, .int (nI (Bi.1 4 i - 1))), (1, .int (nI (brd B))), (0, .ref (eX V 500))]) hx hcd dX4_works_123 hl (k := 2) rfl (by exact nI_add (i) 1) (by decide) rfl (fun ls hl => ?_)
                    refine lv_goto (tgt := 42) hx hcd dX4_works_126 (by decide) ?_
                    exact ih_7 (i + 1) B3 (n9 + 1) (by omega) (by rw [hB3, hB2]; exact wkM_d hBi (by omega) hbt (by omega)) hIB3 (by rw [hB3]; exact bU_free hu2 i) (by rw [hB3]; exact hN2) (by omega) (by omega) _ _ h _ (lv_sub hl [0, 3, 1, 4] rfl)
                  · have c_18 := bz0 c_18
                    have f_20 := of_decide_eq_false c_18
                    refine lv_goto (tgt := 123) hx hcd dX4_works_112 (by decide) ?_
                    refine lv_iinc (v := nI (i + 1)) (lv' := [(3, .int (nI (i + 1))), (4, .int (nI (Bi.1 4 i - 1))), (1, .int (nI (brd B))), (2, .int (nI (n9))), (0, .ref (eX V 500))]) hx hcd dX4_works_123 hl (k := 1) rfl (by exact nI_add (i) 1) (by decide) rfl (fun ls hl => ?_)
                    refine lv_goto (tgt := 42) hx hcd dX4_works_126 (by decide) ?_
                    exact ih_7 (i + 1) B2 n9 (by omega) (by rw [hB2]; exact wkM_s hBi (by omega) hbt (by omega)) hIB2 hu2 hN2 (by omega) (by omega) _ _ h _ (lv_sub hl [0, 2, 3, 4] rfl)
                · have c_15 := cEq (tN (n := ((brd B) / 2 ^ (Bi.1 4 i - 1)) % 2) (by omega)) (tN (n := 1) (by decide)) c_15
                  refine lv_goto (tgt := 123) hx hcd dX4_works_75 (by decide) ?_
                  refine lv_iinc (v := nI (i + 1)) (lv' := [(3, .int (nI (i + 1))), (4, .int (nI (Bi.1 4 i - 1))), (1, .int (nI (brd B))), (2, .int (nI (n9))), (0, .ref (eX V 500))]) hx hcd dX4_works_123 hl (k := 1) rfl (by exact nI_add (i) 1) (by decide) rfl (fun ls hl => ?_)
                  refine lv_goto (tgt := 42) hx hcd dX4_works_126 (by decide) ?_
                  exact ih_7 (i + 1) Bi n9 (by omega) (wkM_n hBi (fun z => by first | omega | exact Bool.noConfusion (z.2.symm.trans (tb_t (by omega))))) hIi hui hN (by omega) (by omega) _ _ h _ (lv_sub hl [0, 2, 3, 4] rfl)
        exact L_6 (B.2 1 + 1) 0 B 0 (Nat.zero_le _) rfl hI0 hu rfl (Nat.le_refl _) (by omega) _ _ (by rw [setG_self hg]; exact h) _ (lv_sub hl [0, 1, 2, 3] rfl)
      · have c_5 := cNle (tN (n := B.2 0) (by omega)) (tN (n := i) (by omega)) c_5
        refine lv_iload_n hx hcd dX4_works_16 rfl (lv_at hl 1 rfl) ?_
        refine lv_aload_n hx hcd dX4_works_17 rfl (lv_at hl 3 rfl) ?_
        refine lv_iload_n hx hcd dX4_works_18 rfl (lv_at hl 0 rfl) ?_
        refine k_Vi (As := [.int (nI (i))]) (rest := [.int (nI (acc))]) (b := eX V 500) G hC hB h (met_X4_open l V M B hg hI0 i (by omega)) mw_1639 kv_X4_open ⟨rfl, rfl⟩ ⟨Nat.le_of_ble_eq_true rfl, Nat.le_of_ble_eq_true rfl⟩ (r_mV hC h) rfl rfl hl.1 (Nat.le_of_ble_eq_true rfl) dX4_works_19 ⟨Nat.le_of_ble_eq_true rfl, Nat.le_of_ble_eq_true rfl⟩ (fun r u H locs hp h => ?_)
        obtain ⟨hr9, hu9⟩ := hp
        obtain rfl : r = nI (opS B i) := hr9
        rw [hu9] at h
        have q_21 := opS_le hn i
        refine lv_if_le (tgt := 31) hx hcd dX4_works_22 (by decide) (fun c_22 => ?_) (fun c_22 => ?_)
        · have c_22 := cLe (tN (n := opS B i) (by omega)) t0 c_22
          refine lv_iconst (v := nI 0) hx hcd dX4_works_31 (by decide) ?_
          refine w_ior (v := nI (acc ||| 0)) hx hcd dX4_works_32 (n_or _ _) ?_
          have q_23 : acc ||| 0 < 65536 := or16 (by first | omega | exact p16 (by omega) | assumption) (by first | omega | exact p16 (by omega) | assumption)
          refine lv_istore_n (lv' := [(1, .int (nI (acc ||| 0))), (3, .int (nI (i))), (2, .int (nI 0)), (0, .ref (eX V 500))]) hx hcd dX4_works_33 rfl hl (by decide) rfl (fun ls hl => ?_)
          refine lv_iinc (v := nI (i + 1)) (lv' := [(3, .int (nI (i + 1))), (1, .int (nI (acc ||| 0))), (2, .int (nI 0)), (0, .ref (eX V 500))]) hx hcd dX4_works_34 hl (k := 1) rfl (by exact nI_add (i) 1) (by decide) rfl (fun ls hl => ?_)
          refine lv_goto (tgt := 6) hx hcd dX4_works_37 (by decide) ?_
          exact ih_2 (i + 1) (acc ||| 0) (by omega) (brI_z ha9 (by omega)) (or16 hb2 (by decide)) (by omega) _ _ h _ (lv_sub hl [0, 1, 2, 3] rfl)
        · have c_22 := cNle (tN (n := opS B i) (by omega)) t0 c_22
          refine lv_iconst (v := nI 1) hx hcd dX4_works_25 (by decide) ?_
          refine lv_iload_n hx hcd dX4_works_26 rfl (lv_at hl 0 rfl) ?_
          refine w_ishl (v := nI (2 ^ i)) hx hcd dX4_works_27 (n_shl1 (by omega)) ?_
          refine lv_goto (tgt := 32) hx hcd dX4_works_28 (by decide) ?_
          refine w_ior (v := nI (acc ||| (2 ^ i))) hx hcd dX4_works_32 (n_or _ _) ?_
          have q_25 : acc ||| (2 ^ i) < 65536 := or16 (by first | omega | exact p16 (by omega) | assumption) (by first | omega | exact p16 (by omega) | assumption)
          refine lv_istore_n (lv' := [(1, .int (nI (acc ||| (2 ^ i)))), (3, .int (nI (i))), (2, .int (nI 0)), (0, .ref (eX V 500))]) hx hcd dX4_works_33 rfl hl (by decide) rfl (fun ls hl => ?_)
          refine lv_iinc (v := nI (i + 1)) (lv' := [(3, .int (nI (i + 1))), (1, .int (nI (acc ||| (2 ^ i)))), (2, .int (nI 0)), (0, .ref (eX V 500))]) hx hcd dX4_works_34 hl (k := 1) rfl (by exact nI_add (i) 1) (by decide) rfl (fun ls hl => ?_)
          refine lv_goto (tgt := 6) hx hcd dX4_works_37 (by decide) ?_
          exact ih_2 (i + 1) (acc ||| (2 ^ i)) (by omega) (brI_t ha9 (by omega)) (or16 hb2 (p16 (by omega))) (by omega) _ _ h _ (lv_sub hl [0, 1, 2, 3] rfl)
  exact L_1 (B.2 0 + 1) 0 0 (Nat.zero_le _) rfl (by decide) (by omega) _ _ h _ (lv_sub hl [0, 2, 1, 3] rfl)
