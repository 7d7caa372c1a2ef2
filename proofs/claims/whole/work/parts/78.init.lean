/-! CONSTRUCTORS: walks. -/
def B0 : kBd := (fun _ _ => 0, fun _ => 0)
/-- a new board's cells at addresses x -/
def bBk (V : kEnv) (x : Nat → Nat) (B : kBd) : va_W := [(x 0, .inr (4, [.ref (x 1), .ref (x 2), .ref (x 3), .ref (x 4), .ref (x 5), .ref (x 6), .ref (x 7), .int (nI (B.2 0)), .int (nI (B.2 1)), .int (nI (B.2 2)), .int (nI (B.2 3)), .int (nI (B.2 4)), .int (nI (B.2 5)), .int (nI (B.2 6)), .int (nI (B.2 7))])), (x 1, bArr V B 0), (x 2, bArr V B 1), (x 3, bArr V B 2), (x 4, bArr V B 3), (x 5, bArr V B 4), (x 6, bArr V B 5), (x 7, bArr V B 6)]
def adB (b q1 q2 q3 q4 q5 q6 q7 : Nat) : Nat → Nat
  | 0 => b
  | 1 => q1
  | 2 => q2
  | 3 => q3
  | 4 => q4
  | 5 => q5
  | 6 => q6
  | _ => q7
/-- a new builder's cells -/
def uBk (V : kEnv) (b q : Nat) : va_W := [(b, .inr (1, [.ref q, .int 0, .int 0, .int 0])), (q, .inl (eC V 1, 16, .inl (fun _ => 0)))]
abbrev zX0 : List Value := [.null, .null, .null, .null, .null, .null, .null, .int 0, .int 0, .int 0, .int 0, .int 0, .int 0, .int 0, .int 0]
abbrev zJ4 : List Value := [.null, .int 0, .int 0, .int 0]
abbrev zX1 : List Value := [.null, .null, .null, .int 0, .null, .int 0]
abbrev zX2 : List Value := [.null, .int 0, .int 0]
abbrev zX3 : List Value := [.null, .null, .null, .null, .null, .null, .null, .null, .int 0, .int 0, .int 0]
abbrev zX4 : List Value := [.null, .null, .null, .null, .int 0, .int 0, .int 0, .int 0, .null, .int 0, .int 0, .int 0, .null, .int 0, .null, .null, .int 0, .null, .int 0]
theorem kw_X0_init : kCw yX0_init cX0_init 2 0 := ⟨rfl, mw_95, mw_57, mw_96, by decide, by decide, by decide +kernel⟩
theorem kw_J5_init : kCw yJ5_init_d00df cJ5_init_d00df 2 1 := ⟨rfl, mw_190, mw_60, mw_191, by decide, by decide, by decide +kernel⟩
theorem kw_J4_init : kCw yJ4_init_da8c8 cJ4_init_da8c8 1 0 := ⟨rfl, mw_187, mw_61, mw_188, by decide, by decide, by decide +kernel⟩
theorem kw_X1_init : kCw yX1_init cX1_init 1 0 := ⟨rfl, mw_181, mw_59, mw_182, by decide, by decide, by decide +kernel⟩
theorem kw_X2_init : kCw yX2_init cX2_init 2 0 := ⟨rfl, mw_161, mw_58, mw_162, by decide, by decide, by decide +kernel⟩
theorem kw_X3_init : kCw yX3_init cX3_init 1 0 := ⟨rfl, mw_87, mw_56, mw_88, by decide, by decide, by decide +kernel⟩
set_option maxHeartbeats 4000000 in
set_option maxRecDepth 100000 in
/-- a new Board -/
theorem met_X0_init (l : Launch) (V : kEnv) (hV : kOk V) (b : Nat) : kC l yX0_init cX0_init 2 { frames := 1, cells := 7, slots := 76, locals := 30 } V [(b, .inr (4, zX0))] [.ref b] (fun u => ∃ x : Nat → Nat, x 0 = b ∧ u = bBk V x B0) 7 76 := by
  refine kC_of (by decide +kernel) (Nat.le_of_ble_eq_true rfl) ?_
  intro p e s m args below meth c G hname hret hlocks hE hC hB h ls hl Q hQ
  have hl : lv_has ls 2 [(0, .ref b)] := hl
  have hx := G.1
  have hcd := G.2.1
  refine lv_aload_n hx hcd dX0_init_0 rfl (lv_at hl 0 rfl) ?_
  refine ob_init G hl.1 mw_97 dX0_init_1 (Nat.le_of_ble_eq_true rfl) (Nat.le_of_ble_eq_true rfl) ?_
  refine lv_aload_n hx hcd dX0_init_4 rfl (lv_at hl 0 rfl) ?_
  refine lv_bipush (v := nI 16) hx hcd dX0_init_5 (by decide) ?_
  refine nw_A (atype := .int) (ty := .int) (a0 := (16, .inl (fun _ => 0))) G hC hB hV h 0 rfl (fun A B h1 h2 => Option.some.inj (h1.symm.trans h2)) mw_157 rfl 16 (fun _ => rfl) rfl (by decide) (by decide) (Nat.le_of_ble_eq_true rfl) (Nat.le_of_ble_eq_true rfl) dX0_init_7 (fun q1 H h => ?_)
  replace h : cH V s _ _ ([(b, (.inr (4, [.null, .null, .null, .null, .null, .null, .null, .int 0, .int 0, .int 0, .int 0, .int 0, .int 0, .int 0, .int 0]) : va_E)), (q1, (.inl (eC V 0, 16, .inl (fun _ => 0)) : va_E))]) := h
  refine nw_F G hC h iwX0 tyX0 tyX0_ok nmX0 rfl 0 (by decide) mw_98 rfl hname rfl rfl rfl (Nat.le_of_ble_eq_true rfl) dX0_init_9 (fun H locs h => ?_)
  replace h : cH V s _ _ ([(b, (.inr (4, [.ref q1, .null, .null, .null, .null, .null, .null, .int 0, .int 0, .int 0, .int 0, .int 0, .int 0, .int 0, .int 0]) : va_E)), (q1, (.inl (eC V 0, 16, .inl (fun _ => 0)) : va_E))]) := h
  refine lv_aload_n hx hcd dX0_init_12 rfl (lv_at hl 0 rfl) ?_
  refine lv_bipush (v := nI 16) hx hcd dX0_init_13 (by decide) ?_
  refine nw_A (atype := .int) (ty := .int) (a0 := (16, .inl (fun _ => 0))) G hC hB hV h 0 rfl (fun A B h1 h2 => Option.some.inj (h1.symm.trans h2)) mw_157 rfl 16 (fun _ => rfl) rfl (by decide) (by decide) (Nat.le_of_ble_eq_true rfl) (Nat.le_of_ble_eq_true rfl) dX0_init_15 (fun q2 H h => ?_)
  replace h : cH V s _ _ ([(b, (.inr (4, [.ref q1, .null, .null, .null, .null, .null, .null, .int 0, .int 0, .int 0, .int 0, .int 0, .int 0, .int 0, .int 0]) : va_E)), (q1, (.inl (eC V 0, 16, .inl (fun _ => 0)) : va_E)), (q2, (.inl (eC V 0, 16, .inl (fun _ => 0)) : va_E))]) := h
  refine nw_F G hC h iwX0 tyX0 tyX0_ok nmX0 rfl 1 (by decide) mw_100 rfl hname rfl rfl rfl (Nat.le_of_ble_eq_true rfl) dX0_init_17 (fun H locs h => ?_)
  replace h : cH V s _ _ ([(b, (.inr (4, [.ref q1, .ref q2, .null, .null, .null, .null, .null, .int 0, .int 0, .int 0, .int 0, .int 0, .int 0, .int 0, .int 0]) : va_E)), (q1, (.inl (eC V 0, 16, .inl (fun _ => 0)) : va_E)), (q2, (.inl (eC V 0, 16, .inl (fun _ => 0)) : va_E))]) := h
  refine lv_aload_n hx hcd dX0_init_20 rfl (lv_at hl 0 rfl) ?_
  refine lv_bipush (v := nI 16) hx hcd dX0_init_21 (by decide) ?_
  refine nw_A (atype := .int) (ty := .int) (a0 := (16, .inl (fun _ => 0))) G hC hB hV h 0 rfl (fun A B h1 h2 => Option.some.inj (h1.symm.trans h2)) mw_157 rfl 16 (fun _ => rfl) rfl (by decide) (by decide) (Nat.le_of_ble_eq_true rfl) (Nat.le_of_ble_eq_true rfl) dX0_init_23 (fun q3 H h => ?_)
  replace h : cH V s _ _ ([(b, (.inr (4, [.ref q1, .ref q2, .null, .null, .null, .null, .null, .int 0, .int 0, .int 0, .int 0, .int 0, .int 0, .int 0, .int 0]) : va_E)), (q1, (.inl (eC V 0, 16, .inl (fun _ => 0)) : va_E)), (q2, (.inl (eC V 0, 16, .inl (fun _ => 0)) : va_E)), (q3, (.inl (eC V 0, 16, .inl (fun _ => 0)) : va_E))]) := h
  refine nw_F G hC h iwX0 tyX0 tyX0_ok nmX0 rfl 2 (by decide) mw_102 rfl hname rfl rfl rfl (Nat.le_of_ble_eq_true rfl) dX0_init_25 (fun H locs h => ?_)
  replace h : cH V s _ _ ([(b, (.inr (4, [.ref q1, .ref q2, .ref q3, .null, .null, .null, .null, .int 0, .int 0, .int 0, .int 0, .int 0, .int 0, .int 0, .int 0]) : va_E)), (q1, (.inl (eC V 0, 16, .inl (fun _ => 0)) : va_E)), (q2, (.inl (eC V 0, 16, .inl (fun _ => 0)) : va_E)), (q3, (.inl (eC V 0, 16, .inl (fun _ => 0)) : va_E))]) := h
  refine lv_aload_n hx hcd dX0_init_28 rfl (lv_at hl 0 rfl) ?_
  refine lv_iconst (v := nI 4) hx hcd dX0_init_29 (by decide) ?_
  refine nw_A (atype := .int) (ty := .int) (a0 := (4, .inl (fun _ => 0))) G hC hB hV h 0 rfl (fun A B h1 h2 => Option.some.inj (h1.symm.trans h2)) mw_157 rfl 4 (fun _ => rfl) rfl (by decide) (by decide) (Nat.le_of_ble_eq_true rfl) (Nat.le_of_ble_eq_true rfl) dX0_init_30 (fun q4 H h => ?_)
  replace h : cH V s _ _ ([(b, (.inr (4, [.ref q1, .ref q2, .ref q3, .null, .null, .null, .null, .int 0, .int 0, .int 0, .int 0, .int 0, .int 0, .int 0, .int 0]) : va_E)), (q1, (.inl (eC V 0, 16, .inl (fun _ => 0)) : va_E)), (q2, (.inl (eC V 0, 16, .inl (fun _ => 0)) : va_E)), (q3, (.inl (eC V 0, 16, .inl (fun _ => 0)) : va_E)), (q4, (.inl (eC V 0, 4, .inl (fun _ => 0)) : va_E))]) := h
  refine nw_F G hC h iwX0 tyX0 tyX0_ok nmX0 rfl 3 (by decide) mw_103 rfl hname rfl rfl rfl (Nat.le_of_ble_eq_true rfl) dX0_init_32 (fun H locs h => ?_)
  replace h : cH V s _ _ ([(b, (.inr (4, [.ref q1, .ref q2, .ref q3, .ref q4, .null, .null, .null, .int 0, .int 0, .int 0, .int 0, .int 0, .int 0, .int 0, .int 0]) : va_E)), (q1, (.inl (eC V 0, 16, .inl (fun _ => 0)) : va_E)), (q2, (.inl (eC V 0, 16, .inl (fun _ => 0)) : va_E)), (q3, (.inl (eC V 0, 16, .inl (fun _ => 0)) : va_E)), (q4, (.inl (eC V 0, 4, .inl (fun _ => 0)) : va_E))]) := h
  refine lv_aload_n hx hcd dX0_init_35 rfl (lv_at hl 0 rfl) ?_
  refine lv_iconst (v := nI 4) hx hcd dX0_init_36 (by decide) ?_
  refine nw_A (atype := .int) (ty := .int) (a0 := (4, .inl (fun _ => 0))) G hC hB hV h 0 rfl (fun A B h1 h2 => Option.some.inj (h1.symm.trans h2)) mw_157 rfl 4 (fun _ => rfl) rfl (by decide) (by decide) (Nat.le_of_ble_eq_true rfl) (Nat.le_of_ble_eq_true rfl) dX0_init_37 (fun q5 H h => ?_)
  replace h : cH V s _ _ ([(b, (.inr (4, [.ref q1, .ref q2, .ref q3, .ref q4, .null, .null, .null, .int 0, .int 0, .int 0, .int 0, .int 0, .int 0, .int 0, .int 0]) : va_E)), (q1, (.inl (eC V 0, 16, .inl (fun _ => 0)) : va_E)), (q2, (.inl (eC V 0, 16, .inl (fun _ => 0)) : va_E)), (q3, (.inl (eC V 0, 16, .inl (fun _ => 0)) : va_E)), (q4, (.inl (eC V 0, 4, .inl (fun _ => 0)) : va_E)), (q5, (.inl (eC V 0, 4, .inl (fun _ => 0)) : va_E))]) := h
  refine nw_F G hC h iwX0 tyX0 tyX0_ok nmX0 rfl 4 (by decide) mw_105 rfl hname rfl rfl rfl (Nat.le_of_ble_eq_true rfl) dX0_init_39 (fun H locs h => ?_)
  replace h : cH V s _ _ ([(b, (.inr (4, [.ref q1, .ref q2, .ref q3, .ref q4, .ref q5, .null, .null, .int 0, .int 0, .int 0, .int 0, .int 0, .int 0, .int 0, .int 0]) : va_E)), (q1, (.inl (eC V 0, 16, .inl (fun _ => 0)) : va_E)), (q2, (.inl (eC V 0, 16, .inl (fun _ => 0)) : va_E)), (q3, (.inl (eC V 0, 16, .inl (fun _ => 0)) : va_E)), (q4, (.inl (eC V 0, 4, .inl (fun _ => 0)) : va_E)), (q5, (.inl (eC V 0, 4, .inl (fun _ => 0)) : va_E))]) := h
  refine lv_aload_n hx hcd dX0_init_42 rfl (lv_at hl 0 rfl) ?_
  refine lv_bipush (v := nI 11) hx hcd dX0_init_43 (by decide) ?_
  refine nw_A (atype := .int) (ty := .int) (a0 := (11, .inl (fun _ => 0))) G hC hB hV h 0 rfl (fun A B h1 h2 => Option.some.inj (h1.symm.trans h2)) mw_157 rfl 11 (fun _ => rfl) rfl (by decide) (by decide) (Nat.le_of_ble_eq_true rfl) (Nat.le_of_ble_eq_true rfl) dX0_init_45 (fun q6 H h => ?_)
  replace h : cH V s _ _ ([(b, (.inr (4, [.ref q1, .ref q2, .ref q3, .ref q4, .ref q5, .null, .null, .int 0, .int 0, .int 0, .int 0, .int 0, .int 0, .int 0, .int 0]) : va_E)), (q1, (.inl (eC V 0, 16, .inl (fun _ => 0)) : va_E)), (q2, (.inl (eC V 0, 16, .inl (fun _ => 0)) : va_E)), (q3, (.inl (eC V 0, 16, .inl (fun _ => 0)) : va_E)), (q4, (.inl (eC V 0, 4, .inl (fun _ => 0)) : va_E)), (q5, (.inl (eC V 0, 4, .inl (fun _ => 0)) : va_E)), (q6, (.inl (eC V 0, 11, .inl (fun _ => 0)) : va_E))]) := h
  refine nw_F G hC h iwX0 tyX0 tyX0_ok nmX0 rfl 5 (by decide) mw_107 rfl hname rfl rfl rfl (Nat.le_of_ble_eq_true rfl) dX0_init_47 (fun H locs h => ?_)
  replace h : cH V s _ _ ([(b, (.inr (4, [.ref q1, .ref q2, .ref q3, .ref q4, .ref q5, .ref q6, .null, .int 0, .int 0, .int 0, .int 0, .int 0, .int 0, .int 0, .int 0]) : va_E)), (q1, (.inl (eC V 0, 16, .inl (fun _ => 0)) : va_E)), (q2, (.inl (eC V 0, 16, .inl (fun _ => 0)) : va_E)), (q3, (.inl (eC V 0, 16, .inl (fun _ => 0)) : va_E)), (q4, (.inl (eC V 0, 4, .inl (fun _ => 0)) : va_E)), (q5, (.inl (eC V 0, 4, .inl (fun _ => 0)) : va_E)), (q6, (.inl (eC V 0, 11, .inl (fun _ => 0)) : va_E))]) := h
  refine lv_aload_n hx hcd dX0_init_50 rfl (lv_at hl 0 rfl) ?_
  refine lv_bipush (v := nI 9) hx hcd dX0_init_51 (by decide) ?_
  refine nw_A (atype := .int) (ty := .int) (a0 := (9, .inl (fun _ => 0))) G hC hB hV h 0 rfl (fun A B h1 h2 => Option.some.inj (h1.symm.trans h2)) mw_157 rfl 9 (fun _ => rfl) rfl (by decide) (by decide) (Nat.le_of_ble_eq_true rfl) (Nat.le_of_ble_eq_true rfl) dX0_init_53 (fun q7 H h => ?_)
  replace h : cH V s _ _ ([(b, (.inr (4, [.ref q1, .ref q2, .ref q3, .ref q4, .ref q5, .ref q6, .null, .int 0, .int 0, .int 0, .int 0, .int 0, .int 0, .int 0, .int 0]) : va_E)), (q1, (.inl (eC V 0, 16, .inl (fun _ => 0)) : va_E)), (q2, (.inl (eC V 0, 16, .inl (fun _ => 0)) : va_E)), (q3, (.inl (eC V 0, 16, .inl (fun _ => 0)) : va_E)), (q4, (.inl (eC V 0, 4, .inl (fun _ => 0)) : va_E)), (q5, (.inl (eC V 0, 4, .inl (fun _ => 0)) : va_E)), (q6, (.inl (eC V 0, 11, .inl (fun _ => 0)) : va_E)), (q7, (.inl (eC V 0, 9, .inl (fun _ => 0)) : va_E))]) := h
  refine nw_F G hC h iwX0 tyX0 tyX0_ok nmX0 rfl 6 (by decide) mw_109 rfl hname rfl rfl rfl (Nat.le_of_ble_eq_true rfl) dX0_init_55 (fun H locs h => ?_)
  replace h : cH V s _ _ ([(b, (.inr (4, [.ref q1, .ref q2, .ref q3, .ref q4, .ref q5, .ref q6, .ref q7, .int 0, .int 0, .int 0, .int 0, .int 0, .int 0, .int 0, .int 0]) : va_E)), (q1, (.inl (eC V 0, 16, .inl (fun _ => 0)) : va_E)), (q2, (.inl (eC V 0, 16, .inl (fun _ => 0)) : va_E)), (q3, (.inl (eC V 0, 16, .inl (fun _ => 0)) : va_E)), (q4, (.inl (eC V 0, 4, .inl (fun _ => 0)) : va_E)), (q5, (.inl (eC V 0, 4, .inl (fun _ => 0)) : va_E)), (q6, (.inl (eC V 0, 11, .inl (fun _ => 0)) : va_E)), (q7, (.inl (eC V 0, 9, .inl (fun _ => 0)) : va_E))]) := h
  refine lv_iconst (v := nI 0) hx hcd dX0_init_58 (by decide) ?_
  refine lv_istore_n (lv' := [(1, .int (nI 0)), (0, .ref b)]) hx hcd dX0_init_59 rfl hl (by decide) rfl (fun ls hl => ?_)
  refine lv_iload_n hx hcd dX0_init_60 rfl (lv_at hl 0 rfl) ?_
  refine lv_aload_n hx hcd dX0_init_61 rfl (lv_at hl 1 rfl) ?_
  refine nw_G G hC h iwX0 rfl 4 (by decide) mw_105 rfl dX0_init_62 ?_
  refine va_alen (D := eD V) (cl := vwCl) (tys := eT V) hx hcd hC.1 h.1 5 0 rfl rfl (v := nI 4) rfl dX0_init_65 ?_
  refine lv_icmp_ge (tgt := 82) hx hcd dX0_init_66 (by decide) (fun z => absurd z (by decide)) (fun _ => ?_)
  refine lv_aload_n hx hcd dX0_init_69 rfl (lv_at hl 1 rfl) ?_
  refine nw_G G hC h iwX0 rfl 4 (by decide) mw_105 rfl dX0_init_70 ?_
  refine lv_iload_n hx hcd dX0_init_73 rfl (lv_at hl 0 rfl) ?_
  refine lv_iconst (v := -1) hx hcd dX0_init_74 (by decide) ?_
  refine va_iast (D := eD V) (cl := vwCl) (tys := eT V) hx hcd hC.1 h.1 h.2.1 h.2.2 5 0 rfl rfl (vp_in_ofNat (j := 0) rfl (by decide) (by decide)) dX0_init_75 (fun H locs hP hD hS => ?_)
  have z0 : (nI 0).toNatClampNeg = 0 := nI_clamp (by decide)
  rw [z0] at hP hD
  have h : cH V s H locs ([(b, (.inr (4, [.ref q1, .ref q2, .ref q3, .ref q4, .ref q5, .ref q6, .ref q7, .int 0, .int 0, .int 0, .int 0, .int 0, .int 0, .int 0, .int 0]) : va_E)), (q1, (.inl (eC V 0, 16, .inl (fun _ => 0)) : va_E)), (q2, (.inl (eC V 0, 16, .inl (fun _ => 0)) : va_E)), (q3, (.inl (eC V 0, 16, .inl (fun _ => 0)) : va_E)), (q4, (.inl (eC V 0, 4, .inl (fun _ => 0)) : va_E)), (q5, (.inl (eC V 0, 4, .inl (upd (fun _ => 0) 0 (-1))) : va_E)), (q6, (.inl (eC V 0, 11, .inl (fun _ => 0)) : va_E)), (q7, (.inl (eC V 0, 9, .inl (fun _ => 0)) : va_E))]) := ⟨hP, hD, hS⟩
  refine lv_iinc (v := nI 1) (lv' := [(1, .int (nI 1)), (0, .ref b)]) hx hcd dX0_init_76 hl (k := 0) rfl (by decide) (by decide) rfl (fun ls hl => ?_)
  refine lv_goto (tgt := 60) hx hcd dX0_init_79 (by decide) ?_
  refine lv_iload_n hx hcd dX0_init_60 rfl (lv_at hl 0 rfl) ?_
  refine lv_aload_n hx hcd dX0_init_61 rfl (lv_at hl 1 rfl) ?_
  refine nw_G G hC h iwX0 rfl 4 (by decide) mw_105 rfl dX0_init_62 ?_
  refine va_alen (D := eD V) (cl := vwCl) (tys := eT V) hx hcd hC.1 h.1 5 0 rfl rfl (v := nI 4) rfl dX0_init_65 ?_
  refine lv_icmp_ge (tgt := 82) hx hcd dX0_init_66 (by decide) (fun z => absurd z (by decide)) (fun _ => ?_)
  refine lv_aload_n hx hcd dX0_init_69 rfl (lv_at hl 1 rfl) ?_
  refine nw_G G hC h iwX0 rfl 4 (by decide) mw_105 rfl dX0_init_70 ?_
  refine lv_iload_n hx hcd dX0_init_73 rfl (lv_at hl 0 rfl) ?_
  refine lv_iconst (v := -1) hx hcd dX0_init_74 (by decide) ?_
  refine va_iast (D := eD V) (cl := vwCl) (tys := eT V) hx hcd hC.1 h.1 h.2.1 h.2.2 5 0 rfl rfl (vp_in_ofNat (j := 1) rfl (by decide) (by decide)) dX0_init_75 (fun H locs hP hD hS => ?_)
  have z1 : (nI 1).toNatClampNeg = 1 := nI_clamp (by decide)
  rw [z1] at hP hD
  have h : cH V s H locs ([(b, (.inr (4, [.ref q1, .ref q2, .ref q3, .ref q4, .ref q5, .ref q6, .ref q7, .int 0, .int 0, .int 0, .int 0, .int 0, .int 0, .int 0, .int 0]) : va_E)), (q1, (.inl (eC V 0, 16, .inl (fun _ => 0)) : va_E)), (q2, (.inl (eC V 0, 16, .inl (fun _ => 0)) : va_E)), (q3, (.inl (eC V 0, 16, .inl (fun _ => 0)) : va_E)), (q4, (.inl (eC V 0, 4, .inl (fun _ => 0)) : va_E)), (q5, (.inl (eC V 0, 4, .inl (upd (upd (fun _ => 0) 0 (-1)) 1 (-1))) : va_E)), (q6, (.inl (eC V 0, 11, .inl (fun _ => 0)) : va_E)), (q7, (.inl (eC V 0, 9, .inl (fun _ => 0)) : va_E))]) := ⟨hP, hD, hS⟩
  refine lv_iinc (v := nI 2) (lv' := [(1, .int (nI 2)), (0, .ref b)]) hx hcd dX0_init_76 hl (k := 0) rfl (by decide) (by decide) rfl (fun ls hl => ?_)
  refine lv_goto (tgt := 60) hx hcd dX0_init_79 (by decide) ?_
  refine lv_iload_n hx hcd dX0_init_60 rfl (lv_at hl 0 rfl) ?_
  refine lv_aload_n hx hcd dX0_init_61 rfl (lv_at hl 1 rfl) ?_
  refine nw_G G hC h iwX0 rfl 4 (by decide) mw_105 rfl dX0_init_62 ?_
  refine va_alen (D := eD V) (cl := vwCl) (tys := eT V) hx hcd hC.1 h.1 5 0 rfl rfl (v := nI 4) rfl dX0_init_65 ?_
  refine lv_icmp_ge (tgt := 82) hx hcd dX0_init_66 (by decide) (fun z => absurd z (by decide)) (fun _ => ?_)
  refine lv_aload_n hx hcd dX0_init_69 rfl (lv_at hl 1 rfl) ?_
  refine nw_G G hC h iwX0 rfl 4 (by decide) mw_105 rfl dX0_init_70 ?_
  refine lv_iload_n hx hcd dX0_init_73 rfl (lv_at hl 0 rfl) ?_
  refine lv_iconst (v := -1) hx hcd dX0_init_74 (by decide) ?_
  refine va_iast (D := eD V) (cl := vwCl) (tys := eT V) hx hcd hC.1 h.1 h.2.1 h.2.2 5 0 rfl rfl (vp_in_ofNat (j := 2) rfl (by decide) (by decide)) dX0_init_75 (fun H locs hP hD hS => ?_)
  have z2 : (nI 2).toNatClampNeg = 2 := nI_clamp (by decide)
  rw [z2] at hP hD
  have h : cH V s H locs ([(b, (.inr (4, [.ref q1, .ref q2, .ref q3, .ref q4, .ref q5, .ref q6, .ref q7, .int 0, .int 0, .int 0, .int 0, .int 0, .int 0, .int 0, .int 0]) : va_E)), (q1, (.inl (eC V 0, 16, .inl (fun _ => 0)) : va_E)), (q2, (.inl (eC V 0, 16, .inl (fun _ => 0)) : va_E)), (q3, (.inl (eC V 0, 16, .inl (fun _ => 0)) : va_E)), (q4, (.inl (eC V 0, 4, .inl (fun _ => 0)) : va_E)), (q5, (.inl (eC V 0, 4, .inl (upd (upd (upd (fun _ => 0) 0 (-1)) 1 (-1)) 2 (-1))) : va_E)), (q6, (.inl (eC V 0, 11, .inl (fun _ => 0)) : va_E)), (q7, (.inl (eC V 0, 9, .inl (fun _ => 0)) : va_E))]) := ⟨hP, hD, hS⟩
  refine lv_iinc (v := nI 3) (lv' := [(1, .int (nI 3)), (0, .ref b)]) hx hcd dX0_init_76 hl (k := 0) rfl (by decide) (by decide) rfl (fun ls hl => ?_)
  refine lv_goto (tgt := 60) hx hcd dX0_init_79 (by decide) ?_
  refine lv_iload_n hx hcd dX0_init_60 rfl (lv_at hl 0 rfl) ?_
  refine lv_aload_n hx hcd dX0_init_61 rfl (lv_at hl 1 rfl) ?_
  refine nw_G G hC h iwX0 rfl 4 (by decide) mw_105 rfl dX0_init_62 ?_
  refine va_alen (D := eD V) (cl := vwCl) (tys := eT V) hx hcd hC.1 h.1 5 0 rfl rfl (v := nI 4) rfl dX0_init_65 ?_
  refine lv_icmp_ge (tgt := 82) hx hcd dX0_init_66 (by decide) (fun z => absurd z (by decide)) (fun _ => ?_)
  refine lv_aload_n hx hcd dX0_init_69 rfl (lv_at hl 1 rfl) ?_
  refine nw_G G hC h iwX0 rfl 4 (by decide) mw_105 rfl dX0_init_70 ?_
  refine lv_iload_n hx hcd dX0_init_73 rfl (lv_at hl 0 rfl) ?_
  refine lv_iconst (v := -1) hx hcd dX0_init_74 (by decide) ?_
  refine va_iast (D := eD V) (cl := vwCl) (tys := eT V) hx hcd hC.1 h.1 h.2.1 h.2.2 5 0 rfl rfl (vp_in_ofNat (j := 3) rfl (by decide) (by decide)) dX0_init_75 (fun H locs hP hD hS => ?_)
  have z3 : (nI 3).toNatClampNeg = 3 := nI_clamp (by decide)
  rw [z3] at hP hD
  have h : cH V s H locs ([(b, (.inr (4, [.ref q1, .ref q2, .ref q3, .ref q4, .ref q5, .ref q6, .ref q7, .int 0, .int 0, .int 0, .int 0, .int 0, .int 0, .int 0, .int 0]) : va_E)), (q1, (.inl (eC V 0, 16, .inl (fun _ => 0)) : va_E)), (q2, (.inl (eC V 0, 16, .inl (fun _ => 0)) : va_E)), (q3, (.inl (eC V 0, 16, .inl (fun _ => 0)) : va_E)), (q4, (.inl (eC V 0, 4, .inl (fun _ => 0)) : va_E)), (q5, (.inl (eC V 0, 4, .inl (upd (upd (upd (upd (fun _ => 0) 0 (-1)) 1 (-1)) 2 (-1)) 3 (-1))) : va_E)), (q6, (.inl (eC V 0, 11, .inl (fun _ => 0)) : va_E)), (q7, (.inl (eC V 0, 9, .inl (fun _ => 0)) : va_E))]) := ⟨hP, hD, hS⟩
  refine lv_iinc (v := nI 4) (lv' := [(1, .int (nI 4)), (0, .ref b)]) hx hcd dX0_init_76 hl (k := 0) rfl (by decide) (by decide) rfl (fun ls hl => ?_)
  refine lv_goto (tgt := 60) hx hcd dX0_init_79 (by decide) ?_
  refine lv_iload_n hx hcd dX0_init_60 rfl (lv_at hl 0 rfl) ?_
  refine lv_aload_n hx hcd dX0_init_61 rfl (lv_at hl 1 rfl) ?_
  refine nw_G G hC h iwX0 rfl 4 (by decide) mw_105 rfl dX0_init_62 ?_
  refine va_alen (D := eD V) (cl := vwCl) (tys := eT V) hx hcd hC.1 h.1 5 0 rfl rfl (v := nI 4) rfl dX0_init_65 ?_
  refine lv_icmp_ge (tgt := 82) hx hcd dX0_init_66 (by decide) (fun _ => ?_) (fun z => absurd (by decide) z)
  have h9 : cH V s H locs (bBk V (adB b q1 q2 q3 q4 q5 q6 q7) B0) := cH_arr (a := [(b, (.inr (4, [.ref q1, .ref q2, .ref q3, .ref q4, .ref q5, .ref q6, .ref q7, .int 0, .int 0, .int 0, .int 0, .int 0, .int 0, .int 0, .int 0]) : va_E)), (q1, (.inl (eC V 0, 16, .inl (fun _ => 0)) : va_E)), (q2, (.inl (eC V 0, 16, .inl (fun _ => 0)) : va_E)), (q3, (.inl (eC V 0, 16, .inl (fun _ => 0)) : va_E)), (q4, (.inl (eC V 0, 4, .inl (fun _ => 0)) : va_E))]) (b := [(q6, (.inl (eC V 0, 11, .inl (fun _ => 0)) : va_E)), (q7, (.inl (eC V 0, 9, .inl (fun _ => 0)) : va_E))]) (q := q5) (cA := eC V 0) (x0 := (4, .inl (upd (upd (upd (upd (fun _ => 0) 0 (-1)) 1 (-1)) 2 (-1)) 3 (-1)))) (x1 := (4, .inl (fun k => kE 4 (B0.1 4 k)))) (arr_i fun j hj => by
    match j, hj with
    | 0, _ => rfl
    | 1, _ => rfl
    | 2, _ => rfl
    | 3, _ => rfl) h
  exact kc_ret hQ G hret hlocks h9 ⟨_, rfl, rfl⟩ (Nat.le_of_ble_eq_true rfl) (Nat.le_of_ble_eq_true rfl) dX0_init_82
set_option maxHeartbeats 4000000 in
set_option maxRecDepth 100000 in
/-- a new builder, of its class's parent -/
theorem met_J5_init (l : Launch) (V : kEnv) (hV : kOk V) (b : Nat) : kC l yJ5_init_d00df cJ5_init_d00df 2 { frames := 1, cells := 1, slots := 16, locals := 30 } V [(b, .inr (1, zJ4))] [.ref b, .int (nI 16)] (fun u => ∃ q : Nat, u = uBk V b q) 1 16 := by
  refine kC_of (by decide +kernel) (Nat.le_of_ble_eq_true rfl) ?_
  intro p e s m args below meth c G hname hret hlocks hE hC hB h ls hl Q hQ
  have hl : lv_has ls 2 [(0, .ref b), (1, .int (nI 16))] := hl
  have hx := G.1
  have hcd := G.2.1
  refine lv_aload_n hx hcd dJ5_init_d00df_0 rfl (lv_at hl 0 rfl) ?_
  refine ob_init G hl.1 mw_192 dJ5_init_d00df_1 (Nat.le_of_ble_eq_true rfl) (Nat.le_of_ble_eq_true rfl) ?_
  refine nw_cs G hC h mw_193 dJ5_init_d00df_4 ?_
  refine lv_if_eq (tgt := 25) hx hcd dJ5_init_d00df_7 (by decide) (fun z => absurd z (by decide)) (fun _ => ?_)
  refine lv_aload_n hx hcd dJ5_init_d00df_10 rfl (lv_at hl 0 rfl) ?_
  refine lv_iload_n hx hcd dJ5_init_d00df_11 rfl (lv_at hl 1 rfl) ?_
  refine nw_A (atype := .byte) (ty := .byte) (a0 := (16, .inl (fun _ => 0))) G hC hB hV h 1 rfl (fun A B h1 h2 => Option.some.inj (h1.symm.trans h2)) mw_216 rfl 16 (fun _ => rfl) rfl (by decide) (by decide) (Nat.le_of_ble_eq_true rfl) (Nat.le_of_ble_eq_true rfl) dJ5_init_d00df_12 (fun q H h => ?_)
  replace h : cH V s _ _ ([(b, (.inr (1, [.null, .int 0, .int 0, .int 0]) : va_E)), (q, (.inl (eC V 1, 16, .inl (fun _ => 0)) : va_E))]) := h
  refine nw_P G hC h iwJ4 tyJ4 tyJ4_ok nmJ4 rfl 0 (by decide) mw_202 rfl rfl rfl (Nat.le_of_ble_eq_true rfl) dJ5_init_d00df_14 (fun H locs h => ?_)
  replace h : cH V s _ _ ([(b, (.inr (1, [.ref q, .int 0, .int 0, .int 0]) : va_E)), (q, (.inl (eC V 1, 16, .inl (fun _ => 0)) : va_E))]) := h
  refine lv_aload_n hx hcd dJ5_init_d00df_17 rfl (lv_at hl 0 rfl) ?_
  refine lv_iconst (v := 0) hx hcd dJ5_init_d00df_18 (by decide) ?_
  refine nw_P G hC h iwJ4 tyJ4 tyJ4_ok nmJ4 rfl 1 (by decide) mw_203 rfl rfl rfl (Nat.le_of_ble_eq_true rfl) dJ5_init_d00df_19 (fun H locs h => ?_)
  replace h : cH V s _ _ ([(b, (.inr (1, [.ref q, .int 0, .int 0, .int 0]) : va_E)), (q, (.inl (eC V 1, 16, .inl (fun _ => 0)) : va_E))]) := h
  refine lv_goto (tgt := 38) hx hcd dJ5_init_d00df_22 (by decide) ?_
  exact kc_ret hQ G hret hlocks h ⟨q, rfl⟩ (Nat.le_of_ble_eq_true rfl) (Nat.le_of_ble_eq_true rfl) dJ5_init_d00df_38
set_option maxHeartbeats 4000000 in
set_option maxRecDepth 100000 in
/-- a new StringBuilder -/
theorem met_J4_init (l : Launch) (V : kEnv) (hV : kOk V) (b : Nat) : kC l yJ4_init_da8c8 cJ4_init_da8c8 1 { frames := 2, cells := 1, slots := 16, locals := 60 } V [(b, .inr (1, zJ4))] [.ref b] (fun u => ∃ q : Nat, u = uBk V b q) 1 16 := by
  refine kC_of (by decide +kernel) (Nat.le_of_ble_eq_true rfl) ?_
  intro p e s m args below meth c G hname hret hlocks hE hC hB h ls hl Q hQ
  have hl : lv_has ls 1 [(0, .ref b)] := hl
  have hx := G.1
  have hcd := G.2.1
  refine lv_aload_n hx hcd dJ4_init_da8c8_0 rfl (lv_at hl 0 rfl) ?_
  refine lv_bipush (v := nI 16) hx hcd dJ4_init_da8c8_1 (by decide) ?_
  replace h : cH V s _ _ ([(b, (.inr (1, zJ4) : va_E))] ++ []) := h
  refine fk_C (As := [.int (nI 16)]) (b := b) G hE hC hB hV h (met_J5_init l _ (frV_ok _ _ _) b) mw_189 kw_J5_init ⟨rfl, rfl⟩ ⟨Nat.le_of_ble_eq_true rfl, Nat.le_of_ble_eq_true rfl⟩ rfl rfl hl.1 (Nat.le_of_ble_eq_true rfl) dJ4_init_da8c8_3 ⟨Nat.le_of_ble_eq_true rfl, Nat.le_of_ble_eq_true rfl⟩ (fun u H locs hp h => ?_)
  obtain ⟨q, rfl⟩ := hp
  replace h : cH V s _ _ (uBk V b q) := h
  exact kc_ret hQ G hret hlocks h ⟨q, rfl⟩ (Nat.le_of_ble_eq_true rfl) (Nat.le_of_ble_eq_true rfl) dJ4_init_da8c8_6
def tBk (V : kEnv) (b q1 q2 q3 qs qb : Nat) : va_W := (b, .inr (5, [.ref q1, .ref q2, .ref q3, .int 0, .ref qs, .int 0])) :: (uBk V qs qb ++ [(q1, .inl (eC V 0, 60, .inl (fun _ => 0))), (q2, .inl (eC V 0, 60, .inl (fun _ => 0))), (q3, .inl (eC V 0, 60, .inl (fun _ => 0)))])
set_option maxHeartbeats 4000000 in
set_option maxRecDepth 100000 in
/-- a new CommandText -/
theorem met_X1_init (l : Launch) (V : kEnv) (hV : kOk V) (b : Nat) : kC l yX1_init cX1_init 1 { frames := 3, cells := 5, slots := 200, locals := 90 } V [(b, .inr (5, zX1))] [.ref b] (fun u => ∃ q1 q2 q3 qs qb : Nat, u = tBk V b q1 q2 q3 qs qb) 5 200 := by
  refine kC_of (by decide +kernel) (Nat.le_of_ble_eq_true rfl) ?_
  intro p e s m args below meth c G hname hret hlocks hE hC hB h ls hl Q hQ
  have hl : lv_has ls 1 [(0, .ref b)] := hl
  have hx := G.1
  have hcd := G.2.1
  refine lv_aload_n hx hcd dX1_init_0 rfl (lv_at hl 0 rfl) ?_
  refine ob_init G hl.1 mw_183 dX1_init_1 (Nat.le_of_ble_eq_true rfl) (Nat.le_of_ble_eq_true rfl) ?_
  refine lv_aload_n hx hcd dX1_init_4 rfl (lv_at hl 0 rfl) ?_
  refine lv_bipush (v := nI 60) hx hcd dX1_init_5 (by decide) ?_
  refine nw_A (atype := .int) (ty := .int) (a0 := (60, .inl (fun _ => 0))) G hC hB hV h 0 rfl (fun A B h1 h2 => Option.some.inj (h1.symm.trans h2)) mw_157 rfl 60 (fun _ => rfl) rfl (by decide) (by decide) (Nat.le_of_ble_eq_true rfl) (Nat.le_of_ble_eq_true rfl) dX1_init_7 (fun q1 H h => ?_)
  replace h : cH V s _ _ ([(b, (.inr (5, [.null, .null, .null, .int 0, .null, .int 0]) : va_E)), (q1, (.inl (eC V 0, 60, .inl (fun _ => 0)) : va_E))]) := h
  refine nw_F G hC h iwX1 tyX1 tyX1_ok nmX1 rfl 0 (by decide) mw_217 rfl hname rfl rfl rfl (Nat.le_of_ble_eq_true rfl) dX1_init_9 (fun H locs h => ?_)
  replace h : cH V s _ _ ([(b, (.inr (5, [.ref q1, .null, .null, .int 0, .null, .int 0]) : va_E)), (q1, (.inl (eC V 0, 60, .inl (fun _ => 0)) : va_E))]) := h
  refine lv_aload_n hx hcd dX1_init_12 rfl (lv_at hl 0 rfl) ?_
  refine lv_bipush (v := nI 60) hx hcd dX1_init_13 (by decide) ?_
  refine nw_A (atype := .int) (ty := .int) (a0 := (60, .inl (fun _ => 0))) G hC hB hV h 0 rfl (fun A B h1 h2 => Option.some.inj (h1.symm.trans h2)) mw_157 rfl 60 (fun _ => rfl) rfl (by decide) (by decide) (Nat.le_of_ble_eq_true rfl) (Nat.le_of_ble_eq_true rfl) dX1_init_15 (fun q2 H h => ?_)
  replace h : cH V s _ _ ([(b, (.inr (5, [.ref q1, .null, .null, .int 0, .null, .int 0]) : va_E)), (q1, (.inl (eC V 0, 60, .inl (fun _ => 0)) : va_E)), (q2, (.inl (eC V 0, 60, .inl (fun _ => 0)) : va_E))]) := h
  refine nw_F G hC h iwX1 tyX1 tyX1_ok nmX1 rfl 1 (by decide) mw_219 rfl hname rfl rfl rfl (Nat.le_of_ble_eq_true rfl) dX1_init_17 (fun H locs h => ?_)
  replace h : cH V s _ _ ([(b, (.inr (5, [.ref q1, .ref q2, .null, .int 0, .null, .int 0]) : va_E)), (q1, (.inl (eC V 0, 60, .inl (fun _ => 0)) : va_E)), (q2, (.inl (eC V 0, 60, .inl (fun _ => 0)) : va_E))]) := h
  refine lv_aload_n hx hcd dX1_init_20 rfl (lv_at hl 0 rfl) ?_
  refine lv_bipush (v := nI 60) hx hcd dX1_init_21 (by decide) ?_
  refine nw_A (atype := .int) (ty := .int) (a0 := (60, .inl (fun _ => 0))) G hC hB hV h 0 rfl (fun A B h1 h2 => Option.some.inj (h1.symm.trans h2)) mw_157 rfl 60 (fun _ => rfl) rfl (by decide) (by decide) (Nat.le_of_ble_eq_true rfl) (Nat.le_of_ble_eq_true rfl) dX1_init_23 (fun q3 H h => ?_)
  replace h : cH V s _ _ ([(b, (.inr (5, [.ref q1, .ref q2, .null, .int 0, .null, .int 0]) : va_E)), (q1, (.inl (eC V 0, 60, .inl (fun _ => 0)) : va_E)), (q2, (.inl (eC V 0, 60, .inl (fun _ => 0)) : va_E)), (q3, (.inl (eC V 0, 60, .inl (fun _ => 0)) : va_E))]) := h
  refine nw_F G hC h iwX1 tyX1 tyX1_ok nmX1 rfl 2 (by decide) mw_221 rfl hname rfl rfl rfl (Nat.le_of_ble_eq_true rfl) dX1_init_25 (fun H locs h => ?_)
  replace h : cH V s _ _ ([(b, (.inr (5, [.ref q1, .ref q2, .ref q3, .int 0, .null, .int 0]) : va_E)), (q1, (.inl (eC V 0, 60, .inl (fun _ => 0)) : va_E)), (q2, (.inl (eC V 0, 60, .inl (fun _ => 0)) : va_E)), (q3, (.inl (eC V 0, 60, .inl (fun _ => 0)) : va_E))]) := h
  refine lv_aload_n hx hcd dX1_init_28 rfl (lv_at hl 0 rfl) ?_
  refine nw_N (ci := 1) (fs := zJ4) G hC hB hV h iwJ4 tyJ4 tyJ4_ok mw_184 mw_185 mw_61 rfl (fun j hj => by
    match j, hj with
    | 0, _ => rfl
    | 1, _ => rfl
    | 2, _ => rfl
    | 3, _ => rfl) (Nat.le_of_ble_eq_true rfl) (Nat.le_of_ble_eq_true rfl) dX1_init_29 (fun qs H h => ?_)
  refine lv_dup hx hcd dX1_init_32 rfl ?_
  replace h : cH V s _ _ ([(qs, (.inr (1, zJ4) : va_E))] ++ [(b, (.inr (5, [.ref q1, .ref q2, .ref q3, .int 0, .null, .int 0]) : va_E)), (q1, (.inl (eC V 0, 60, .inl (fun _ => 0)) : va_E)), (q2, (.inl (eC V 0, 60, .inl (fun _ => 0)) : va_E)), (q3, (.inl (eC V 0, 60, .inl (fun _ => 0)) : va_E))]) := h
  refine fk_C (As := []) (b := qs) G hE hC hB hV h (met_J4_init l _ (frV_ok _ _ _) qs) mw_186 kw_J4_init ⟨rfl, rfl⟩ ⟨Nat.le_of_ble_eq_true rfl, Nat.le_of_ble_eq_true rfl⟩ rfl rfl hl.1 (Nat.le_of_ble_eq_true rfl) dX1_init_33 ⟨Nat.le_of_ble_eq_true rfl, Nat.le_of_ble_eq_true rfl⟩ (fun u H locs hp h => ?_)
  obtain ⟨qb, rfl⟩ := hp
  replace h := cH_sw (a := uBk V qs qb) (b := [(b, (.inr (5, [.ref q1, .ref q2, .ref q3, .int 0, .null, .int 0]) : va_E))]) (c := [(q1, (.inl (eC V 0, 60, .inl (fun _ => 0)) : va_E)), (q2, (.inl (eC V 0, 60, .inl (fun _ => 0)) : va_E)), (q3, (.inl (eC V 0, 60, .inl (fun _ => 0)) : va_E))]) h
  replace h : cH V s _ _ ((b, (.inr (5, [.ref q1, .ref q2, .ref q3, .int 0, .null, .int 0]) : va_E)) :: (uBk V qs qb ++ [(q1, (.inl (eC V 0, 60, .inl (fun _ => 0)) : va_E)), (q2, (.inl (eC V 0, 60, .inl (fun _ => 0)) : va_E)), (q3, (.inl (eC V 0, 60, .inl (fun _ => 0)) : va_E))])) := h
  refine nw_F G hC h iwX1 tyX1 tyX1_ok nmX1 rfl 4 (by decide) mw_225 rfl hname rfl rfl rfl (Nat.le_of_ble_eq_true rfl) dX1_init_36 (fun H locs h => ?_)
  replace h : cH V s _ _ ((b, (.inr (5, [.ref q1, .ref q2, .ref q3, .int 0, .ref qs, .int 0]) : va_E)) :: (uBk V qs qb ++ [(q1, (.inl (eC V 0, 60, .inl (fun _ => 0)) : va_E)), (q2, (.inl (eC V 0, 60, .inl (fun _ => 0)) : va_E)), (q3, (.inl (eC V 0, 60, .inl (fun _ => 0)) : va_E))])) := h
  exact kc_ret hQ G hret hlocks h ⟨q1, q2, q3, qs, qb, rfl⟩ (Nat.le_of_ble_eq_true rfl) (Nat.le_of_ble_eq_true rfl) dX1_init_39
def hBs (V : kEnv) (x : Nat → Nat → Nat) : Nat → va_W
  | 0 => []
  | i + 1 => bBk V (x i) B0 ++ hBs V x i
theorem hBs_eq (V : kEnv) {x y : Nat → Nat → Nat} : ∀ {i : Nat}, (∀ j, j < i → x j = y j) → hBs V x i = hBs V y i
  | 0, _ => rfl
  | i + 1, h => by
    show bBk V (x i) B0 ++ hBs V x i = bBk V (y i) B0 ++ hBs V y i
    rw [h i (by omega), hBs_eq V (fun j hj => h j (by omega))]
def hAr (x : Nat → Nat → Nat) (i : Nat) : Nat → Option Nat := fun j => if j < i then some (x j 0) else none
def hBk (V : kEnv) (b qa : Nat) (x : Nat → Nat → Nat) (i : Nat) : va_W := (b, .inr (6, [.ref qa, .int 0, .int 0])) :: (qa, .inl (eC V 2, 8, .inr (.inr (.inr (.inr (hAr x i)))))) :: hBs V x i
theorem W.eqc {p : Program} {l : Launch} {e : Env} {R : Room} {s : State} {m : MethodId} {args : Array Value} {below : List Frame} {meth : Method} {c : Code} {H : Heap} {locs : List Loc} {cells slots cells' slots' : Nat} {Q : State → Prop} {g : JFrame} (h1 : cells' = cells) (h2 : slots' = slots) (k : W p l e R s m args below meth c H locs cells' slots' Q g) : W p l e R s m args below meth c H locs cells slots Q g := by
  subst h1
  subst h2
  exact k
set_option maxHeartbeats 4000000 in
set_option maxRecDepth 100000 in
/-- a new History -/
theorem met_X2_init (l : Launch) (V : kEnv) (hV : kOk V) (b : Nat) : kC l yX2_init cX2_init 2 { frames := 2, cells := 65, slots := 736, locals := 60 } V [(b, .inr (6, zX2))] [.ref b] (fun u => ∃ (qa : Nat) (x : Nat → Nat → Nat), u = hBk V b qa x 8) 65 736 := by
  refine kC_of (by decide +kernel) (Nat.le_of_ble_eq_true rfl) ?_
  intro p e s m args below meth c G hname hret hlocks hE hC hB h ls hl Q hQ
  have hl : lv_has ls 2 [(0, .ref b)] := hl
  have hx := G.1
  have hcd := G.2.1
  refine lv_aload_n hx hcd dX2_init_0 rfl (lv_at hl 0 rfl) ?_
  refine ob_init G hl.1 mw_163 dX2_init_1 (Nat.le_of_ble_eq_true rfl) (Nat.le_of_ble_eq_true rfl) ?_
  refine lv_aload_n hx hcd dX2_init_4 rfl (lv_at hl 0 rfl) ?_
  refine lv_bipush (v := nI 8) hx hcd dX2_init_5 (by decide) ?_
  refine nw_Q G hE hC hB hV h mw_164 rfl (Nat.le_of_ble_eq_true rfl) (Nat.le_of_ble_eq_true rfl) dX2_init_7 (fun qa H h => ?_)
  replace h : cH V s _ _ ([(b, (.inr (6, [.null, .int 0, .int 0]) : va_E)), (qa, (.inl (eC V 2, 8, .inr (.inr (.inr (.inr (fun _ => none))))) : va_E))]) := h
  refine nw_F G hC h iwX2 tyX2 tyX2_ok nmX2 rfl 0 (by decide) mw_167 rfl hname rfl rfl rfl (Nat.le_of_ble_eq_true rfl) dX2_init_10 (fun H locs h => ?_)
  replace h : cH V s _ _ ([(b, (.inr (6, [.ref qa, .int 0, .int 0]) : va_E)), (qa, (.inl (eC V 2, 8, .inr (.inr (.inr (.inr (fun _ => none))))) : va_E))]) := h
  refine lv_iconst (v := nI 0) hx hcd dX2_init_13 (by decide) ?_
  refine lv_istore_n (lv' := [(1, .int (nI 0)), (0, .ref b)]) hx hcd dX2_init_14 rfl hl (by decide) rfl (fun ls hl => ?_)
  have key : ∀ (n i : Nat), i + n = 8 → ∀ (x : Nat → Nat → Nat) (H : Heap) (locs : List Loc) (ls : Array Slot), lv_has ls 2 [(1, .int (nI i)), (0, .ref b)] → cH V s H locs (hBk V b qa x i) → W p l e { frames := 2, cells := 65, slots := 736, locals := 60 } s m args below meth c H locs (1 + 8 * i) (8 + 91 * i) Q (F0 m 15 ls []) := by
    intro n
    induction n with
    | zero =>
      intro i hi x H locs ls hl h
      obtain rfl : i = 8 := by omega
      refine lv_iload_n hx hcd dX2_init_15 rfl (lv_at hl 0 rfl) ?_
      refine lv_aload_n hx hcd dX2_init_16 rfl (lv_at hl 1 rfl) ?_
      refine nw_G G hC h iwX2 rfl 0 (by decide) mw_167 rfl dX2_init_17 ?_
      refine va_alen (D := eD V) (cl := vwCl) (tys := eT V) hx hcd hC.1 h.1 1 2 rfl rfl (v := nI 8) rfl dX2_init_20 ?_
      refine lv_icmp_ge (tgt := 43) hx hcd dX2_init_21 (by decide) (fun _ => ?_) (fun z => absurd (by decide) z)
      exact kc_ret hQ G hret hlocks h ⟨qa, x, rfl⟩ (Nat.le_of_ble_eq_true rfl) (Nat.le_of_ble_eq_true rfl) dX2_init_43
    | succ n ih =>
      intro i hi x H locs ls hl h
      refine lv_iload_n hx hcd dX2_init_15 rfl (lv_at hl 0 rfl) ?_
      refine lv_aload_n hx hcd dX2_init_16 rfl (lv_at hl 1 rfl) ?_
      refine nw_G G hC h iwX2 rfl 0 (by decide) mw_167 rfl dX2_init_17 ?_
      refine va_alen (D := eD V) (cl := vwCl) (tys := eT V) hx hcd hC.1 h.1 1 2 rfl rfl (v := nI 8) rfl dX2_init_20 ?_
      refine lv_icmp_ge (tgt := 43) hx hcd dX2_init_21 (by decide) (fun z => absurd (cLe (tN (n := 8) (by decide)) (tN (n := i) (by omega)) z) (by omega)) (fun _ => ?_)
      refine lv_aload_n hx hcd dX2_init_24 rfl (lv_at hl 1 rfl) ?_
      refine nw_G G hC h iwX2 rfl 0 (by decide) mw_167 rfl dX2_init_25 ?_
      refine lv_iload_n hx hcd dX2_init_28 rfl (lv_at hl 0 rfl) ?_
      refine nw_N (ci := 4) (fs := zX0) G hC hB hV h iwX0 tyX0 tyX0_ok mw_164 mw_93 mw_57 rfl (fun j hj => by
        match j, hj with
        | 0, _ => rfl
        | 1, _ => rfl
        | 2, _ => rfl
        | 3, _ => rfl
        | 4, _ => rfl
        | 5, _ => rfl
        | 6, _ => rfl
        | 7, _ => rfl
        | 8, _ => rfl
        | 9, _ => rfl
        | 10, _ => rfl
        | 11, _ => rfl
        | 12, _ => rfl
        | 13, _ => rfl
        | 14, _ => rfl) (by show 1 + 8 * i + 1 ≤ 65; omega) (by show 8 + 91 * i + 15 ≤ 736; omega) dX2_init_29 (fun q H h => ?_)
      refine lv_dup hx hcd dX2_init_32 rfl ?_
      refine fk_C (As := []) (b := q) (rest := [.ref q, .int (nI i), .ref qa]) G hE hC hB hV h (met_X0_init l _ (frV_ok _ _ _) q) mw_166 kw_X0_init ⟨rfl, rfl⟩ ⟨Nat.le_of_ble_eq_true rfl, Nat.le_of_ble_eq_true rfl⟩ rfl rfl hl.1 (Nat.le_of_ble_eq_true rfl) dX2_init_33 ⟨by show 1 + 8 * i + 1 + 7 ≤ 65; omega, by show 8 + 91 * i + 15 + 76 ≤ 736; omega⟩ (fun u H locs hp h => ?_)
      obtain ⟨x', hx0, rfl⟩ := hp
      subst hx0
      replace h : cH V s H locs (bBk V x' B0 ++ ([(b, (.inr (6, [.ref qa, .int 0, .int 0]) : va_E)), (qa, (.inl (eC V 2, 8, .inr (.inr (.inr (.inr (hAr x i))))) : va_E))] ++ hBs V x i)) := h
      replace h := cH_sw h
      refine va_astq (D := eD V) (cl := vwCl) (tys := eT V) (r := (RX0, TX0, 15)) hx hcd hC.1 h.1 h.2.1 h.2.2 1 2 2 4 rfl rfl rfl rfl (vp_in_nI (n := i) (by omega) (by decide)) dX2_init_36 (fun H locs hP hD hS => ?_)
      have zi : (nI i).toNatClampNeg = i := nI_clamp (by omega)
      rw [zi] at hP hD
      have e1 : va_up (hAr x i) i (some (x' 0)) = hAr (fun j => if j = i then x' else x j) (i + 1) := by
        funext j
        simp only [va_up, hAr]
        by_cases c1 : j = i
        · rw [if_pos c1, if_pos (by omega), if_pos c1]
        · rw [if_neg c1, if_neg c1]
          by_cases c2 : j < i
          · rw [if_pos c2, if_pos (by omega)]
          · rw [if_neg c2, if_neg (by omega)]
      have e2 : hBs V (fun j => if j = i then x' else x j) (i + 1) = bBk V x' B0 ++ hBs V x i := by
        show bBk V (if i = i then x' else x i) B0 ++ hBs V _ i = _
        rw [if_pos rfl, hBs_eq V (fun j hj => if_neg (by omega))]
      have h : cH V s H locs (hBk V b qa (fun j => if j = i then x' else x j) (i + 1)) := by
        unfold hBk
        rw [← e1, e2]
        exact ⟨hP, hD, hS⟩
      refine lv_iinc (v := nI (i + 1)) (lv' := [(1, .int (nI (i + 1))), (0, .ref b)]) hx hcd dX2_init_37 hl (k := 0) rfl (by exact nI_add i 1) (by decide) rfl (fun ls hl => ?_)
      refine lv_goto (tgt := 15) hx hcd dX2_init_40 (by decide) ?_
      refine W.eqc (by omega) (by omega) (ih (i + 1) (by omega) _ H locs ls hl h)
  exact key 8 0 rfl (fun _ _ => 0) _ _ ls hl h
def sBk (V : kEnv) (b : Nat) (x0 x1 x2 x3 : Nat → Nat) (hq qa : Nat) (xh : Nat → Nat → Nat) (tq t1 t2 t3 ts tb lq lb cq : Nat) : va_W := (b, (.inr (7, [.ref (x0 0), .ref (x1 0), .ref (x2 0), .ref (x3 0), .ref hq, .ref tq, .ref lq, .ref cq, .int 0, .int (-1), .int (-1)]) : va_E)) :: ((uBk V lq lb ++ (tBk V tq t1 t2 t3 ts tb ++ (hBk V hq qa xh 8 ++ (bBk V x3 B0 ++ (bBk V x2 B0 ++ (bBk V x1 B0 ++ (bBk V x0 B0))))))) ++ [(cq, (.inl (eC V 0, 16, .inl (fun _ => 0)) : va_E))])
set_option maxHeartbeats 4000000 in
set_option maxRecDepth 100000 in
/-- a new SprintBoard -/
theorem met_X3_init (l : Launch) (V : kEnv) (hV : kOk V) (b : Nat) : kC l yX3_init cX3_init 1 { frames := 5, cells := 200, slots := 2000, locals := 150 } V [(b, .inr (7, zX3))] [.ref b] (fun u => ∃ (x0 x1 x2 x3 : Nat → Nat) (hq qa : Nat) (xh : Nat → Nat → Nat) (tq t1 t2 t3 ts tb lq lb cq : Nat), u = sBk V b x0 x1 x2 x3 hq qa xh tq t1 t2 t3 ts tb lq lb cq) 200 2000 := by
  refine kC_of (by decide +kernel) (Nat.le_of_ble_eq_true rfl) ?_
  intro p e s m args below meth c G hname hret hlocks hE hC hB h ls hl Q hQ
  have hl : lv_has ls 1 [(0, .ref b)] := hl
  have hx := G.1
  have hcd := G.2.1
  refine lv_aload_n hx hcd dX3_init_0 rfl (lv_at hl 0 rfl) ?_
  refine ob_init G hl.1 mw_89 dX3_init_1 (Nat.le_of_ble_eq_true rfl) (Nat.le_of_ble_eq_true rfl) ?_
  replace h : cH V s _ _ ((b, (.inr (7, [.null, .null, .null, .null, .null, .null, .null, .null, .int 0, .int 0, .int 0]) : va_E)) :: []) := h
  refine lv_aload_n hx hcd dX3_init_4 rfl (lv_at hl 0 rfl) ?_
  refine nw_N (ci := 4) (fs := zX0) G hC hB hV h iwX0 tyX0 tyX0_ok mw_92 mw_93 mw_57 rfl (fun j hj => by
    match j, hj with
    | 0, _ => rfl
    | 1, _ => rfl
    | 2, _ => rfl
    | 3, _ => rfl
    | 4, _ => rfl
    | 5, _ => rfl
    | 6, _ => rfl
    | 7, _ => rfl
    | 8, _ => rfl
    | 9, _ => rfl
    | 10, _ => rfl
    | 11, _ => rfl
    | 12, _ => rfl
    | 13, _ => rfl
    | 14, _ => rfl) (Nat.le_of_ble_eq_true rfl) (Nat.le_of_ble_eq_true rfl) dX3_init_5 (fun g0 H h => ?_)
  refine lv_dup hx hcd dX3_init_8 rfl ?_
  replace h : cH V s _ _ ([(g0, (.inr (4, zX0) : va_E))] ++ (b, (.inr (7, [.null, .null, .null, .null, .null, .null, .null, .null, .int 0, .int 0, .int 0]) : va_E)) :: []) := h
  refine fk_C (As := []) (b := g0) G hE hC hB hV h (met_X0_init l _ (frV_ok _ _ _) g0) mw_94 kw_X0_init ⟨rfl, rfl⟩ ⟨Nat.le_of_ble_eq_true rfl, Nat.le_of_ble_eq_true rfl⟩ rfl rfl hl.1 (Nat.le_of_ble_eq_true rfl) dX3_init_9 ⟨Nat.le_of_ble_eq_true rfl, Nat.le_of_ble_eq_true rfl⟩ (fun u H locs hp h => ?_)
  obtain ⟨x0, hx0, rfl⟩ := hp
  subst hx0
  replace h := cH_sw (a := bBk V x0 B0) (b := [(b, (.inr (7, [.null, .null, .null, .null, .null, .null, .null, .null, .int 0, .int 0, .int 0]) : va_E))]) (c := []) h
  replace h : cH V s _ _ ((b, (.inr (7, [.null, .null, .null, .null, .null, .null, .null, .null, .int 0, .int 0, .int 0]) : va_E)) :: (bBk V x0 B0)) := h
  refine nw_F G hC h iwX3 tyX3 tyX3_ok nmX3 rfl 0 (by decide) mw_242 rfl hname rfl rfl rfl (Nat.le_of_ble_eq_true rfl) dX3_init_12 (fun H locs h => ?_)
  replace h : cH V s _ _ ((b, (.inr (7, [.ref (x0 0), .null, .null, .null, .null, .null, .null, .null, .int 0, .int 0, .int 0]) : va_E)) :: (bBk V x0 B0)) := h
  refine lv_aload_n hx hcd dX3_init_15 rfl (lv_at hl 0 rfl) ?_
  refine nw_N (ci := 4) (fs := zX0) G hC hB hV h iwX0 tyX0 tyX0_ok mw_92 mw_93 mw_57 rfl (fun j hj => by
    match j, hj with
    | 0, _ => rfl
    | 1, _ => rfl
    | 2, _ => rfl
    | 3, _ => rfl
    | 4, _ => rfl
    | 5, _ => rfl
    | 6, _ => rfl
    | 7, _ => rfl
    | 8, _ => rfl
    | 9, _ => rfl
    | 10, _ => rfl
    | 11, _ => rfl
    | 12, _ => rfl
    | 13, _ => rfl
    | 14, _ => rfl) (Nat.le_of_ble_eq_true rfl) (Nat.le_of_ble_eq_true rfl) dX3_init_16 (fun g1 H h => ?_)
  refine lv_dup hx hcd dX3_init_19 rfl ?_
  replace h : cH V s _ _ ([(g1, (.inr (4, zX0) : va_E))] ++ (b, (.inr (7, [.ref (x0 0), .null, .null, .null, .null, .null, .null, .null, .int 0, .int 0, .int 0]) : va_E)) :: (bBk V x0 B0)) := h
  refine fk_C (As := []) (b := g1) G hE hC hB hV h (met_X0_init l _ (frV_ok _ _ _) g1) mw_94 kw_X0_init ⟨rfl, rfl⟩ ⟨Nat.le_of_ble_eq_true rfl, Nat.le_of_ble_eq_true rfl⟩ rfl rfl hl.1 (Nat.le_of_ble_eq_true rfl) dX3_init_20 ⟨Nat.le_of_ble_eq_true rfl, Nat.le_of_ble_eq_true rfl⟩ (fun u H locs hp h => ?_)
  obtain ⟨x1, hx1, rfl⟩ := hp
  subst hx1
  replace h := cH_sw (a := bBk V x1 B0) (b := [(b, (.inr (7, [.ref (x0 0), .null, .null, .null, .null, .null, .null, .null, .int 0, .int 0, .int 0]) : va_E))]) (c := bBk V x0 B0) h
  replace h : cH V s _ _ ((b, (.inr (7, [.ref (x0 0), .null, .null, .null, .null, .null, .null, .null, .int 0, .int 0, .int 0]) : va_E)) :: (bBk V x1 B0 ++ (bBk V x0 B0))) := h
  refine nw_F G hC h iwX3 tyX3 tyX3_ok nmX3 rfl 1 (by decide) mw_243 rfl hname rfl rfl rfl (Nat.le_of_ble_eq_true rfl) dX3_init_23 (fun H locs h => ?_)
  replace h : cH V s _ _ ((b, (.inr (7, [.ref (x0 0), .ref (x1 0), .null, .null, .null, .null, .null, .null, .int 0, .int 0, .int 0]) : va_E)) :: (bBk V x1 B0 ++ (bBk V x0 B0))) := h
  refine lv_aload_n hx hcd dX3_init_26 rfl (lv_at hl 0 rfl) ?_
  refine nw_N (ci := 4) (fs := zX0) G hC hB hV h iwX0 tyX0 tyX0_ok mw_92 mw_93 mw_57 rfl (fun j hj => by
    match j, hj with
    | 0, _ => rfl
    | 1, _ => rfl
    | 2, _ => rfl
    | 3, _ => rfl
    | 4, _ => rfl
    | 5, _ => rfl
    | 6, _ => rfl
    | 7, _ => rfl
    | 8, _ => rfl
    | 9, _ => rfl
    | 10, _ => rfl
    | 11, _ => rfl
    | 12, _ => rfl
    | 13, _ => rfl
    | 14, _ => rfl) (Nat.le_of_ble_eq_true rfl) (Nat.le_of_ble_eq_true rfl) dX3_init_27 (fun g2 H h => ?_)
  refine lv_dup hx hcd dX3_init_30 rfl ?_
  replace h : cH V s _ _ ([(g2, (.inr (4, zX0) : va_E))] ++ (b, (.inr (7, [.ref (x0 0), .ref (x1 0), .null, .null, .null, .null, .null, .null, .int 0, .int 0, .int 0]) : va_E)) :: (bBk V x1 B0 ++ (bBk V x0 B0))) := h
  refine fk_C (As := []) (b := g2) G hE hC hB hV h (met_X0_init l _ (frV_ok _ _ _) g2) mw_94 kw_X0_init ⟨rfl, rfl⟩ ⟨Nat.le_of_ble_eq_true rfl, Nat.le_of_ble_eq_true rfl⟩ rfl rfl hl.1 (Nat.le_of_ble_eq_true rfl) dX3_init_31 ⟨Nat.le_of_ble_eq_true rfl, Nat.le_of_ble_eq_true rfl⟩ (fun u H locs hp h => ?_)
  obtain ⟨x2, hx2, rfl⟩ := hp
  subst hx2
  replace h := cH_sw (a := bBk V x2 B0) (b := [(b, (.inr (7, [.ref (x0 0), .ref (x1 0), .null, .null, .null, .null, .null, .null, .int 0, .int 0, .int 0]) : va_E))]) (c := bBk V x1 B0 ++ (bBk V x0 B0)) h
  replace h : cH V s _ _ ((b, (.inr (7, [.ref (x0 0), .ref (x1 0), .null, .null, .null, .null, .null, .null, .int 0, .int 0, .int 0]) : va_E)) :: (bBk V x2 B0 ++ (bBk V x1 B0 ++ (bBk V x0 B0)))) := h
  refine nw_F G hC h iwX3 tyX3 tyX3_ok nmX3 rfl 2 (by decide) mw_244 rfl hname rfl rfl rfl (Nat.le_of_ble_eq_true rfl) dX3_init_34 (fun H locs h => ?_)
  replace h : cH V s _ _ ((b, (.inr (7, [.ref (x0 0), .ref (x1 0), .ref (x2 0), .null, .null, .null, .null, .null, .int 0, .int 0, .int 0]) : va_E)) :: (bBk V x2 B0 ++ (bBk V x1 B0 ++ (bBk V x0 B0)))) := h
  refine lv_aload_n hx hcd dX3_init_37 rfl (lv_at hl 0 rfl) ?_
  refine nw_N (ci := 4) (fs := zX0) G hC hB hV h iwX0 tyX0 tyX0_ok mw_92 mw_93 mw_57 rfl (fun j hj => by
    match j, hj with
    | 0, _ => rfl
    | 1, _ => rfl
    | 2, _ => rfl
    | 3, _ => rfl
    | 4, _ => rfl
    | 5, _ => rfl
    | 6, _ => rfl
    | 7, _ => rfl
    | 8, _ => rfl
    | 9, _ => rfl
    | 10, _ => rfl
    | 11, _ => rfl
    | 12, _ => rfl
    | 13, _ => rfl
    | 14, _ => rfl) (Nat.le_of_ble_eq_true rfl) (Nat.le_of_ble_eq_true rfl) dX3_init_38 (fun g3 H h => ?_)
  refine lv_dup hx hcd dX3_init_41 rfl ?_
  replace h : cH V s _ _ ([(g3, (.inr (4, zX0) : va_E))] ++ (b, (.inr (7, [.ref (x0 0), .ref (x1 0), .ref (x2 0), .null, .null, .null, .null, .null, .int 0, .int 0, .int 0]) : va_E)) :: (bBk V x2 B0 ++ (bBk V x1 B0 ++ (bBk V x0 B0)))) := h
  refine fk_C (As := []) (b := g3) G hE hC hB hV h (met_X0_init l _ (frV_ok _ _ _) g3) mw_94 kw_X0_init ⟨rfl, rfl⟩ ⟨Nat.le_of_ble_eq_true rfl, Nat.le_of_ble_eq_true rfl⟩ rfl rfl hl.1 (Nat.le_of_ble_eq_true rfl) dX3_init_42 ⟨Nat.le_of_ble_eq_true rfl, Nat.le_of_ble_eq_true rfl⟩ (fun u H locs hp h => ?_)
  obtain ⟨x3, hx3, rfl⟩ := hp
  subst hx3
  replace h := cH_sw (a := bBk V x3 B0) (b := [(b, (.inr (7, [.ref (x0 0), .ref (x1 0), .ref (x2 0), .null, .null, .null, .null, .null, .int 0, .int 0, .int 0]) : va_E))]) (c := bBk V x2 B0 ++ (bBk V x1 B0 ++ (bBk V x0 B0))) h
  replace h : cH V s _ _ ((b, (.inr (7, [.ref (x0 0), .ref (x1 0), .ref (x2 0), .null, .null, .null, .null, .null, .int 0, .int 0, .int 0]) : va_E)) :: (bBk V x3 B0 ++ (bBk V x2 B0 ++ (bBk V x1 B0 ++ (bBk V x0 B0))))) := h
  refine nw_F G hC h iwX3 tyX3 tyX3_ok nmX3 rfl 3 (by decide) mw_245 rfl hname rfl rfl rfl (Nat.le_of_ble_eq_true rfl) dX3_init_45 (fun H locs h => ?_)
  replace h : cH V s _ _ ((b, (.inr (7, [.ref (x0 0), .ref (x1 0), .ref (x2 0), .ref (x3 0), .null, .null, .null, .null, .int 0, .int 0, .int 0]) : va_E)) :: (bBk V x3 B0 ++ (bBk V x2 B0 ++ (bBk V x1 B0 ++ (bBk V x0 B0))))) := h
  refine lv_aload_n hx hcd dX3_init_48 rfl (lv_at hl 0 rfl) ?_
  refine nw_N (ci := 6) (fs := zX2) G hC hB hV h iwX2 tyX2 tyX2_ok mw_158 mw_159 mw_58 rfl (fun j hj => by
    match j, hj with
    | 0, _ => rfl
    | 1, _ => rfl
    | 2, _ => rfl) (Nat.le_of_ble_eq_true rfl) (Nat.le_of_ble_eq_true rfl) dX3_init_49 (fun hq H h => ?_)
  refine lv_dup hx hcd dX3_init_52 rfl ?_
  replace h : cH V s _ _ ([(hq, (.inr (6, zX2) : va_E))] ++ (b, (.inr (7, [.ref (x0 0), .ref (x1 0), .ref (x2 0), .ref (x3 0), .null, .null, .null, .null, .int 0, .int 0, .int 0]) : va_E)) :: (bBk V x3 B0 ++ (bBk V x2 B0 ++ (bBk V x1 B0 ++ (bBk V x0 B0))))) := h
  refine fk_C (As := []) (b := hq) G hE hC hB hV h (met_X2_init l _ (frV_ok _ _ _) hq) mw_160 kw_X2_init ⟨rfl, rfl⟩ ⟨Nat.le_of_ble_eq_true rfl, Nat.le_of_ble_eq_true rfl⟩ rfl rfl hl.1 (Nat.le_of_ble_eq_true rfl) dX3_init_53 ⟨Nat.le_of_ble_eq_true rfl, Nat.le_of_ble_eq_true rfl⟩ (fun u H locs hp h => ?_)
  obtain ⟨qa, xh, rfl⟩ := hp
  replace h := cH_sw (a := hBk V hq qa xh 8) (b := [(b, (.inr (7, [.ref (x0 0), .ref (x1 0), .ref (x2 0), .ref (x3 0), .null, .null, .null, .null, .int 0, .int 0, .int 0]) : va_E))]) (c := bBk V x3 B0 ++ (bBk V x2 B0 ++ (bBk V x1 B0 ++ (bBk V x0 B0)))) h
  replace h : cH V s _ _ ((b, (.inr (7, [.ref (x0 0), .ref (x1 0), .ref (x2 0), .ref (x3 0), .null, .null, .null, .null, .int 0, .int 0, .int 0]) : va_E)) :: (hBk V hq qa xh 8 ++ (bBk V x3 B0 ++ (bBk V x2 B0 ++ (bBk V x1 B0 ++ (bBk V x0 B0)))))) := h
  refine nw_F G hC h iwX3 tyX3 tyX3_ok nmX3 rfl 4 (by decide) mw_246 rfl hname rfl rfl rfl (Nat.le_of_ble_eq_true rfl) dX3_init_56 (fun H locs h => ?_)
  replace h : cH V s _ _ ((b, (.inr (7, [.ref (x0 0), .ref (x1 0), .ref (x2 0), .ref (x3 0), .ref hq, .null, .null, .null, .int 0, .int 0, .int 0]) : va_E)) :: (hBk V hq qa xh 8 ++ (bBk V x3 B0 ++ (bBk V x2 B0 ++ (bBk V x1 B0 ++ (bBk V x0 B0)))))) := h
  refine lv_aload_n hx hcd dX3_init_59 rfl (lv_at hl 0 rfl) ?_
  refine nw_N (ci := 5) (fs := zX1) G hC hB hV h iwX1 tyX1 tyX1_ok mw_178 mw_179 mw_59 rfl (fun j hj => by
    match j, hj with
    | 0, _ => rfl
    | 1, _ => rfl
    | 2, _ => rfl
    | 3, _ => rfl
    | 4, _ => rfl
    | 5, _ => rfl) (Nat.le_of_ble_eq_true rfl) (Nat.le_of_ble_eq_true rfl) dX3_init_60 (fun tq H h => ?_)
  refine lv_dup hx hcd dX3_init_63 rfl ?_
  replace h : cH V s _ _ ([(tq, (.inr (5, zX1) : va_E))] ++ (b, (.inr (7, [.ref (x0 0), .ref (x1 0), .ref (x2 0), .ref (x3 0), .ref hq, .null, .null, .null, .int 0, .int 0, .int 0]) : va_E)) :: (hBk V hq qa xh 8 ++ (bBk V x3 B0 ++ (bBk V x2 B0 ++ (bBk V x1 B0 ++ (bBk V x0 B0)))))) := h
  refine fk_Cn (As := []) (b := tq) G hE hC hB hV h (met_X1_init l _ (frV_ok _ _ _) tq) hC.2.1.1 kw_X1_init ⟨rfl, rfl⟩ ⟨Nat.le_of_ble_eq_true rfl, Nat.le_of_ble_eq_true rfl⟩ rfl rfl hl.1 (Nat.le_of_ble_eq_true rfl) dX3_init_64 ⟨Nat.le_of_ble_eq_true rfl, Nat.le_of_ble_eq_true rfl⟩ (fun u H locs hp h => ?_)
  obtain ⟨t1, t2, t3, ts, tb, rfl⟩ := hp
  replace h := cH_sw (a := tBk V tq t1 t2 t3 ts tb) (b := [(b, (.inr (7, [.ref (x0 0), .ref (x1 0), .ref (x2 0), .ref (x3 0), .ref hq, .null, .null, .null, .int 0, .int 0, .int 0]) : va_E))]) (c := hBk V hq qa xh 8 ++ (bBk V x3 B0 ++ (bBk V x2 B0 ++ (bBk V x1 B0 ++ (bBk V x0 B0))))) h
  replace h : cH V s _ _ ((b, (.inr (7, [.ref (x0 0), .ref (x1 0), .ref (x2 0), .ref (x3 0), .ref hq, .null, .null, .null, .int 0, .int 0, .int 0]) : va_E)) :: (tBk V tq t1 t2 t3 ts tb ++ (hBk V hq qa xh 8 ++ (bBk V x3 B0 ++ (bBk V x2 B0 ++ (bBk V x1 B0 ++ (bBk V x0 B0))))))) := h
  refine nw_F G hC h iwX3 tyX3 tyX3_ok nmX3 rfl 5 (by decide) mw_247 rfl hname rfl rfl rfl (Nat.le_of_ble_eq_true rfl) dX3_init_67 (fun H locs h => ?_)
  replace h : cH V s _ _ ((b, (.inr (7, [.ref (x0 0), .ref (x1 0), .ref (x2 0), .ref (x3 0), .ref hq, .ref tq, .null, .null, .int 0, .int 0, .int 0]) : va_E)) :: (tBk V tq t1 t2 t3 ts tb ++ (hBk V hq qa xh 8 ++ (bBk V x3 B0 ++ (bBk V x2 B0 ++ (bBk V x1 B0 ++ (bBk V x0 B0))))))) := h
  refine lv_aload_n hx hcd dX3_init_70 rfl (lv_at hl 0 rfl) ?_
  refine nw_N (ci := 1) (fs := zJ4) G hC hB hV h iwJ4 tyJ4 tyJ4_ok mw_240 mw_185 mw_61 rfl (fun j hj => by
    match j, hj with
    | 0, _ => rfl
    | 1, _ => rfl
    | 2, _ => rfl
    | 3, _ => rfl) (Nat.le_of_ble_eq_true rfl) (Nat.le_of_ble_eq_true rfl) dX3_init_71 (fun lq H h => ?_)
  refine lv_dup hx hcd dX3_init_74 rfl ?_
  replace h : cH V s _ _ ([(lq, (.inr (1, zJ4) : va_E))] ++ (b, (.inr (7, [.ref (x0 0), .ref (x1 0), .ref (x2 0), .ref (x3 0), .ref hq, .ref tq, .null, .null, .int 0, .int 0, .int 0]) : va_E)) :: (tBk V tq t1 t2 t3 ts tb ++ (hBk V hq qa xh 8 ++ (bBk V x3 B0 ++ (bBk V x2 B0 ++ (bBk V x1 B0 ++ (bBk V x0 B0))))))) := h
  refine fk_C (As := []) (b := lq) G hE hC hB hV h (met_J4_init l _ (frV_ok _ _ _) lq) mw_241 kw_J4_init ⟨rfl, rfl⟩ ⟨Nat.le_of_ble_eq_true rfl, Nat.le_of_ble_eq_true rfl⟩ rfl rfl hl.1 (Nat.le_of_ble_eq_true rfl) dX3_init_75 ⟨Nat.le_of_ble_eq_true rfl, Nat.le_of_ble_eq_true rfl⟩ (fun u H locs hp h => ?_)
  obtain ⟨lb, rfl⟩ := hp
  replace h := cH_sw (a := uBk V lq lb) (b := [(b, (.inr (7, [.ref (x0 0), .ref (x1 0), .ref (x2 0), .ref (x3 0), .ref hq, .ref tq, .null, .null, .int 0, .int 0, .int 0]) : va_E))]) (c := tBk V tq t1 t2 t3 ts tb ++ (hBk V hq qa xh 8 ++ (bBk V x3 B0 ++ (bBk V x2 B0 ++ (bBk V x1 B0 ++ (bBk V x0 B0)))))) h
  replace h : cH V s _ _ ((b, (.inr (7, [.ref (x0 0), .ref (x1 0), .ref (x2 0), .ref (x3 0), .ref hq, .ref tq, .null, .null, .int 0, .int 0, .int 0]) : va_E)) :: (uBk V lq lb ++ (tBk V tq t1 t2 t3 ts tb ++ (hBk V hq qa xh 8 ++ (bBk V x3 B0 ++ (bBk V x2 B0 ++ (bBk V x1 B0 ++ (bBk V x0 B0)))))))) := h
  refine nw_F G hC h iwX3 tyX3 tyX3_ok nmX3 rfl 6 (by decide) mw_248 rfl hname rfl rfl rfl (Nat.le_of_ble_eq_true rfl) dX3_init_78 (fun H locs h => ?_)
  replace h : cH V s _ _ ((b, (.inr (7, [.ref (x0 0), .ref (x1 0), .ref (x2 0), .ref (x3 0), .ref hq, .ref tq, .ref lq, .null, .int 0, .int 0, .int 0]) : va_E)) :: (uBk V lq lb ++ (tBk V tq t1 t2 t3 ts tb ++ (hBk V hq qa xh 8 ++ (bBk V x3 B0 ++ (bBk V x2 B0 ++ (bBk V x1 B0 ++ (bBk V x0 B0)))))))) := h
  refine lv_aload_n hx hcd dX3_init_81 rfl (lv_at hl 0 rfl) ?_
  refine lv_bipush (v := nI 16) hx hcd dX3_init_82 (by decide) ?_
  refine nw_A (atype := .int) (ty := .int) (a0 := (16, .inl (fun _ => 0))) G hC hB hV h 0 rfl (fun A B h1 h2 => Option.some.inj (h1.symm.trans h2)) mw_157 rfl 16 (fun _ => rfl) rfl (by decide) (by decide) (Nat.le_of_ble_eq_true rfl) (Nat.le_of_ble_eq_true rfl) dX3_init_84 (fun cq H h => ?_)
  replace h : cH V s _ _ ((b, (.inr (7, [.ref (x0 0), .ref (x1 0), .ref (x2 0), .ref (x3 0), .ref hq, .ref tq, .ref lq, .null, .int 0, .int 0, .int 0]) : va_E)) :: ((uBk V lq lb ++ (tBk V tq t1 t2 t3 ts tb ++ (hBk V hq qa xh 8 ++ (bBk V x3 B0 ++ (bBk V x2 B0 ++ (bBk V x1 B0 ++ (bBk V x0 B0))))))) ++ [(cq, (.inl (eC V 0, 16, .inl (fun _ => 0)) : va_E))])) := h
  refine nw_F G hC h iwX3 tyX3 tyX3_ok nmX3 rfl 7 (by decide) mw_249 rfl hname rfl rfl rfl (Nat.le_of_ble_eq_true rfl) dX3_init_86 (fun H locs h => ?_)
  replace h : cH V s _ _ ((b, (.inr (7, [.ref (x0 0), .ref (x1 0), .ref (x2 0), .ref (x3 0), .ref hq, .ref tq, .ref lq, .ref cq, .int 0, .int 0, .int 0]) : va_E)) :: ((uBk V lq lb ++ (tBk V tq t1 t2 t3 ts tb ++ (hBk V hq qa xh 8 ++ (bBk V x3 B0 ++ (bBk V x2 B0 ++ (bBk V x1 B0 ++ (bBk V x0 B0))))))) ++ [(cq, (.inl (eC V 0, 16, .inl (fun _ => 0)) : va_E))])) := h
  refine lv_aload_n hx hcd dX3_init_89 rfl (lv_at hl 0 rfl) ?_
  refine lv_iconst (v := -1) hx hcd dX3_init_90 (by decide) ?_
  refine nw_P G hC h iwX3 tyX3 tyX3_ok nmX3 rfl 9 (by decide) mw_251 rfl rfl rfl (Nat.le_of_ble_eq_true rfl) dX3_init_91 (fun H locs h => ?_)
  replace h : cH V s _ _ ((b, (.inr (7, [.ref (x0 0), .ref (x1 0), .ref (x2 0), .ref (x3 0), .ref hq, .ref tq, .ref lq, .ref cq, .int 0, .int (-1), .int 0]) : va_E)) :: ((uBk V lq lb ++ (tBk V tq t1 t2 t3 ts tb ++ (hBk V hq qa xh 8 ++ (bBk V x3 B0 ++ (bBk V x2 B0 ++ (bBk V x1 B0 ++ (bBk V x0 B0))))))) ++ [(cq, (.inl (eC V 0, 16, .inl (fun _ => 0)) : va_E))])) := h
  refine lv_aload_n hx hcd dX3_init_94 rfl (lv_at hl 0 rfl) ?_
  refine lv_iconst (v := -1) hx hcd dX3_init_95 (by decide) ?_
  refine nw_P G hC h iwX3 tyX3 tyX3_ok nmX3 rfl 10 (by decide) mw_252 rfl rfl rfl (Nat.le_of_ble_eq_true rfl) dX3_init_96 (fun H locs h => ?_)
  replace h : cH V s _ _ ((b, (.inr (7, [.ref (x0 0), .ref (x1 0), .ref (x2 0), .ref (x3 0), .ref hq, .ref tq, .ref lq, .ref cq, .int 0, .int (-1), .int (-1)]) : va_E)) :: ((uBk V lq lb ++ (tBk V tq t1 t2 t3 ts tb ++ (hBk V hq qa xh 8 ++ (bBk V x3 B0 ++ (bBk V x2 B0 ++ (bBk V x1 B0 ++ (bBk V x0 B0))))))) ++ [(cq, (.inl (eC V 0, 16, .inl (fun _ => 0)) : va_E))])) := h
  exact kc_ret hQ G hret hlocks h ⟨x0, x1, x2, x3, hq, qa, xh, tq, t1, t2, t3, ts, tb, lq, lb, cq, rfl⟩ (Nat.le_of_ble_eq_true rfl) (Nat.le_of_ble_eq_true rfl) dX3_init_99
theorem kw_X4_init : kCw yX4_init cX4_init 1 0 := ⟨rfl, mw_1469, mw_64, mw_1470, by decide, by decide, by decide +kernel⟩
def mBk (V : kEnv) (b q0 q1 q2 q3 q4 q5 q6 q7 q8 : Nat) : va_W := [(b, (.inr (8, [.ref q0, .ref q1, .ref q2, .ref q3, .int 0, .int 0, .int 0, .int 0, .ref q4, .int 0, .int (-1), .int (-1), .ref q5, .int 0, .ref q6, .ref q7, .int 0, .ref q8, .int 0]) : va_E)), (q0, (.inl (eC V 0, 115, .inl (fun _ => 0)) : va_E)), (q1, (.inl (eC V 0, 920, .inl (fun _ => 0)) : va_E)), (q2, (.inl (eC V 0, 115, .inl (fun _ => 0)) : va_E)), (q3, (.inl (eC V 0, 115, .inl (fun _ => 0)) : va_E)), (q4, (.inl (eC V 0, 60, .inl (fun _ => 0)) : va_E)), (q5, (.inl (eC V 3, 60, .inl (fun _ => 0)) : va_E)), (q6, (.inl (eC V 0, 16, .inl (fun _ => 0)) : va_E)), (q7, (.inl (eC V 0, 16, .inl (fun _ => 0)) : va_E)), (q8, (.inl (eC V 0, 124, .inl (fun _ => 0)) : va_E))]
set_option maxHeartbeats 4000000 in
set_option maxRecDepth 100000 in
/-- a new reference -/
theorem met_X4_init (l : Launch) (V : kEnv) (hV : kOk V) (b : Nat) : kC l yX4_init cX4_init 1 { frames := 1, cells := 9, slots := 1700, locals := 60 } V [(b, .inr (8, zX4))] [.ref b] (fun u => ∃ q0 q1 q2 q3 q4 q5 q6 q7 q8 : Nat, u = mBk V b q0 q1 q2 q3 q4 q5 q6 q7 q8) 9 1700 := by
  refine kC_of (by decide +kernel) (Nat.le_of_ble_eq_true rfl) ?_
  intro p e s m args below meth c G hname hret hlocks hE hC hB h ls hl Q hQ
  have hl : lv_has ls 1 [(0, .ref b)] := hl
  have hx := G.1
  have hcd := G.2.1
  refine lv_aload_n hx hcd dX4_init_0 rfl (lv_at hl 0 rfl) ?_
  refine ob_init G hl.1 mw_1471 dX4_init_1 (Nat.le_of_ble_eq_true rfl) (Nat.le_of_ble_eq_true rfl) ?_
  refine lv_aload_n hx hcd dX4_init_4 rfl (lv_at hl 0 rfl) ?_
  refine lv_bipush (v := nI 115) hx hcd dX4_init_5 (by decide) ?_
  refine nw_A (atype := .int) (ty := .int) (a0 := (115, .inl (fun _ => 0))) G hC hB hV h 0 rfl (fun A B h1 h2 => Option.some.inj (h1.symm.trans h2)) mw_157 rfl 115 (fun _ => rfl) rfl (by decide) (by decide) (Nat.le_of_ble_eq_true rfl) (Nat.le_of_ble_eq_true rfl) dX4_init_7 (fun q0 H h => ?_)
  replace h : cH V s _ _ ([(b, (.inr (8, [.null, .null, .null, .null, .int 0, .int 0, .int 0, .int 0, .null, .int 0, .int 0, .int 0, .null, .int 0, .null, .null, .int 0, .null, .int 0]) : va_E)), (q0, (.inl (eC V 0, 115, .inl (fun _ => 0)) : va_E))]) := h
  refine nw_F G hC h iwX4 tyX4 tyX4_ok nmX4 rfl 0 (by decide) mw_1472 rfl hname rfl rfl rfl (Nat.le_of_ble_eq_true rfl) dX4_init_9 (fun H locs h => ?_)
  replace h : cH V s _ _ ([(b, (.inr (8, [.ref q0, .null, .null, .null, .int 0, .int 0, .int 0, .int 0, .null, .int 0, .int 0, .int 0, .null, .int 0, .null, .null, .int 0, .null, .int 0]) : va_E)), (q0, (.inl (eC V 0, 115, .inl (fun _ => 0)) : va_E))]) := h
  refine lv_aload_n hx hcd dX4_init_12 rfl (lv_at hl 0 rfl) ?_
  refine lv_sipush (v := nI 920) hx hcd dX4_init_13 (by decide) ?_
  refine nw_A (atype := .int) (ty := .int) (a0 := (920, .inl (fun _ => 0))) G hC hB hV h 0 rfl (fun A B h1 h2 => Option.some.inj (h1.symm.trans h2)) mw_157 rfl 920 (fun _ => rfl) rfl (by decide) (by decide) (Nat.le_of_ble_eq_true rfl) (Nat.le_of_ble_eq_true rfl) dX4_init_16 (fun q1 H h => ?_)
  replace h : cH V s _ _ ([(b, (.inr (8, [.ref q0, .null, .null, .null, .int 0, .int 0, .int 0, .int 0, .null, .int 0, .int 0, .int 0, .null, .int 0, .null, .null, .int 0, .null, .int 0]) : va_E)), (q0, (.inl (eC V 0, 115, .inl (fun _ => 0)) : va_E)), (q1, (.inl (eC V 0, 920, .inl (fun _ => 0)) : va_E))]) := h
  refine nw_F G hC h iwX4 tyX4 tyX4_ok nmX4 rfl 1 (by decide) mw_1473 rfl hname rfl rfl rfl (Nat.le_of_ble_eq_true rfl) dX4_init_18 (fun H locs h => ?_)
  replace h : cH V s _ _ ([(b, (.inr (8, [.ref q0, .ref q1, .null, .null, .int 0, .int 0, .int 0, .int 0, .null, .int 0, .int 0, .int 0, .null, .int 0, .null, .null, .int 0, .null, .int 0]) : va_E)), (q0, (.inl (eC V 0, 115, .inl (fun _ => 0)) : va_E)), (q1, (.inl (eC V 0, 920, .inl (fun _ => 0)) : va_E))]) := h
  refine lv_aload_n hx hcd dX4_init_21 rfl (lv_at hl 0 rfl) ?_
  refine lv_bipush (v := nI 115) hx hcd dX4_init_22 (by decide) ?_
  refine nw_A (atype := .int) (ty := .int) (a0 := (115, .inl (fun _ => 0))) G hC hB hV h 0 rfl (fun A B h1 h2 => Option.some.inj (h1.symm.trans h2)) mw_157 rfl 115 (fun _ => rfl) rfl (by decide) (by decide) (Nat.le_of_ble_eq_true rfl) (Nat.le_of_ble_eq_true rfl) dX4_init_24 (fun q2 H h => ?_)
  replace h : cH V s _ _ ([(b, (.inr (8, [.ref q0, .ref q1, .null, .null, .int 0, .int 0, .int 0, .int 0, .null, .int 0, .int 0, .int 0, .null, .int 0, .null, .null, .int 0, .null, .int 0]) : va_E)), (q0, (.inl (eC V 0, 115, .inl (fun _ => 0)) : va_E)), (q1, (.inl (eC V 0, 920, .inl (fun _ => 0)) : va_E)), (q2, (.inl (eC V 0, 115, .inl (fun _ => 0)) : va_E))]) := h
  refine nw_F G hC h iwX4 tyX4 tyX4_ok nmX4 rfl 2 (by decide) mw_1474 rfl hname rfl rfl rfl (Nat.le_of_ble_eq_true rfl) dX4_init_26 (fun H locs h => ?_)
  replace h : cH V s _ _ ([(b, (.inr (8, [.ref q0, .ref q1, .ref q2, .null, .int 0, .int 0, .int 0, .int 0, .null, .int 0, .int 0, .int 0, .null, .int 0, .null, .null, .int 0, .null, .int 0]) : va_E)), (q0, (.inl (eC V 0, 115, .inl (fun _ => 0)) : va_E)), (q1, (.inl (eC V 0, 920, .inl (fun _ => 0)) : va_E)), (q2, (.inl (eC V 0, 115, .inl (fun _ => 0)) : va_E))]) := h
  refine lv_aload_n hx hcd dX4_init_29 rfl (lv_at hl 0 rfl) ?_
  refine lv_bipush (v := nI 115) hx hcd dX4_init_30 (by decide) ?_
  refine nw_A (atype := .int) (ty := .int) (a0 := (115, .inl (fun _ => 0))) G hC hB hV h 0 rfl (fun A B h1 h2 => Option.some.inj (h1.symm.trans h2)) mw_157 rfl 115 (fun _ => rfl) rfl (by decide) (by decide) (Nat.le_of_ble_eq_true rfl) (Nat.le_of_ble_eq_true rfl) dX4_init_32 (fun q3 H h => ?_)
  replace h : cH V s _ _ ([(b, (.inr (8, [.ref q0, .ref q1, .ref q2, .null, .int 0, .int 0, .int 0, .int 0, .null, .int 0, .int 0, .int 0, .null, .int 0, .null, .null, .int 0, .null, .int 0]) : va_E)), (q0, (.inl (eC V 0, 115, .inl (fun _ => 0)) : va_E)), (q1, (.inl (eC V 0, 920, .inl (fun _ => 0)) : va_E)), (q2, (.inl (eC V 0, 115, .inl (fun _ => 0)) : va_E)), (q3, (.inl (eC V 0, 115, .inl (fun _ => 0)) : va_E))]) := h
  refine nw_F G hC h iwX4 tyX4 tyX4_ok nmX4 rfl 3 (by decide) mw_1475 rfl hname rfl rfl rfl (Nat.le_of_ble_eq_true rfl) dX4_init_34 (fun H locs h => ?_)
  replace h : cH V s _ _ ([(b, (.inr (8, [.ref q0, .ref q1, .ref q2, .ref q3, .int 0, .int 0, .int 0, .int 0, .null, .int 0, .int 0, .int 0, .null, .int 0, .null, .null, .int 0, .null, .int 0]) : va_E)), (q0, (.inl (eC V 0, 115, .inl (fun _ => 0)) : va_E)), (q1, (.inl (eC V 0, 920, .inl (fun _ => 0)) : va_E)), (q2, (.inl (eC V 0, 115, .inl (fun _ => 0)) : va_E)), (q3, (.inl (eC V 0, 115, .inl (fun _ => 0)) : va_E))]) := h
  refine lv_aload_n hx hcd dX4_init_37 rfl (lv_at hl 0 rfl) ?_
  refine lv_bipush (v := nI 60) hx hcd dX4_init_38 (by decide) ?_
  refine nw_A (atype := .int) (ty := .int) (a0 := (60, .inl (fun _ => 0))) G hC hB hV h 0 rfl (fun A B h1 h2 => Option.some.inj (h1.symm.trans h2)) mw_157 rfl 60 (fun _ => rfl) rfl (by decide) (by decide) (Nat.le_of_ble_eq_true rfl) (Nat.le_of_ble_eq_true rfl) dX4_init_40 (fun q4 H h => ?_)
  replace h : cH V s _ _ ([(b, (.inr (8, [.ref q0, .ref q1, .ref q2, .ref q3, .int 0, .int 0, .int 0, .int 0, .null, .int 0, .int 0, .int 0, .null, .int 0, .null, .null, .int 0, .null, .int 0]) : va_E)), (q0, (.inl (eC V 0, 115, .inl (fun _ => 0)) : va_E)), (q1, (.inl (eC V 0, 920, .inl (fun _ => 0)) : va_E)), (q2, (.inl (eC V 0, 115, .inl (fun _ => 0)) : va_E)), (q3, (.inl (eC V 0, 115, .inl (fun _ => 0)) : va_E)), (q4, (.inl (eC V 0, 60, .inl (fun _ => 0)) : va_E))]) := h
  refine nw_F G hC h iwX4 tyX4 tyX4_ok nmX4 rfl 8 (by decide) mw_1480 rfl hname rfl rfl rfl (Nat.le_of_ble_eq_true rfl) dX4_init_42 (fun H locs h => ?_)
  replace h : cH V s _ _ ([(b, (.inr (8, [.ref q0, .ref q1, .ref q2, .ref q3, .int 0, .int 0, .int 0, .int 0, .ref q4, .int 0, .int 0, .int 0, .null, .int 0, .null, .null, .int 0, .null, .int 0]) : va_E)), (q0, (.inl (eC V 0, 115, .inl (fun _ => 0)) : va_E)), (q1, (.inl (eC V 0, 920, .inl (fun _ => 0)) : va_E)), (q2, (.inl (eC V 0, 115, .inl (fun _ => 0)) : va_E)), (q3, (.inl (eC V 0, 115, .inl (fun _ => 0)) : va_E)), (q4, (.inl (eC V 0, 60, .inl (fun _ => 0)) : va_E))]) := h
  refine lv_aload_n hx hcd dX4_init_45 rfl (lv_at hl 0 rfl) ?_
  refine lv_iconst (v := -1) hx hcd dX4_init_46 (by decide) ?_
  refine nw_P G hC h iwX4 tyX4 tyX4_ok nmX4 rfl 10 (by decide) mw_1482 rfl rfl rfl (Nat.le_of_ble_eq_true rfl) dX4_init_47 (fun H locs h => ?_)
  replace h : cH V s _ _ ([(b, (.inr (8, [.ref q0, .ref q1, .ref q2, .ref q3, .int 0, .int 0, .int 0, .int 0, .ref q4, .int 0, .int (-1), .int 0, .null, .int 0, .null, .null, .int 0, .null, .int 0]) : va_E)), (q0, (.inl (eC V 0, 115, .inl (fun _ => 0)) : va_E)), (q1, (.inl (eC V 0, 920, .inl (fun _ => 0)) : va_E)), (q2, (.inl (eC V 0, 115, .inl (fun _ => 0)) : va_E)), (q3, (.inl (eC V 0, 115, .inl (fun _ => 0)) : va_E)), (q4, (.inl (eC V 0, 60, .inl (fun _ => 0)) : va_E))]) := h
  refine lv_aload_n hx hcd dX4_init_50 rfl (lv_at hl 0 rfl) ?_
  refine lv_iconst (v := -1) hx hcd dX4_init_51 (by decide) ?_
  refine nw_P G hC h iwX4 tyX4 tyX4_ok nmX4 rfl 11 (by decide) mw_1483 rfl rfl rfl (Nat.le_of_ble_eq_true rfl) dX4_init_52 (fun H locs h => ?_)
  replace h : cH V s _ _ ([(b, (.inr (8, [.ref q0, .ref q1, .ref q2, .ref q3, .int 0, .int 0, .int 0, .int 0, .ref q4, .int 0, .int (-1), .int (-1), .null, .int 0, .null, .null, .int 0, .null, .int 0]) : va_E)), (q0, (.inl (eC V 0, 115, .inl (fun _ => 0)) : va_E)), (q1, (.inl (eC V 0, 920, .inl (fun _ => 0)) : va_E)), (q2, (.inl (eC V 0, 115, .inl (fun _ => 0)) : va_E)), (q3, (.inl (eC V 0, 115, .inl (fun _ => 0)) : va_E)), (q4, (.inl (eC V 0, 60, .inl (fun _ => 0)) : va_E))]) := h
  refine lv_aload_n hx hcd dX4_init_55 rfl (lv_at hl 0 rfl) ?_
  refine lv_bipush (v := nI 60) hx hcd dX4_init_56 (by decide) ?_
  refine nw_A (atype := .char) (ty := .char) (a0 := (60, .inl (fun _ => 0))) G hC hB hV h 3 rfl (fun A B h1 h2 => Option.some.inj (h1.symm.trans h2)) mw_1530 rfl 60 (fun _ => rfl) rfl (by decide) (by decide) (Nat.le_of_ble_eq_true rfl) (Nat.le_of_ble_eq_true rfl) dX4_init_58 (fun q5 H h => ?_)
  replace h : cH V s _ _ ([(b, (.inr (8, [.ref q0, .ref q1, .ref q2, .ref q3, .int 0, .int 0, .int 0, .int 0, .ref q4, .int 0, .int (-1), .int (-1), .null, .int 0, .null, .null, .int 0, .null, .int 0]) : va_E)), (q0, (.inl (eC V 0, 115, .inl (fun _ => 0)) : va_E)), (q1, (.inl (eC V 0, 920, .inl (fun _ => 0)) : va_E)), (q2, (.inl (eC V 0, 115, .inl (fun _ => 0)) : va_E)), (q3, (.inl (eC V 0, 115, .inl (fun _ => 0)) : va_E)), (q4, (.inl (eC V 0, 60, .inl (fun _ => 0)) : va_E)), (q5, (.inl (eC V 3, 60, .inl (fun _ => 0)) : va_E))]) := h
  refine nw_F G hC h iwX4 tyX4 tyX4_ok nmX4 rfl 12 (by decide) mw_1484 rfl hname rfl rfl rfl (Nat.le_of_ble_eq_true rfl) dX4_init_60 (fun H locs h => ?_)
  replace h : cH V s _ _ ([(b, (.inr (8, [.ref q0, .ref q1, .ref q2, .ref q3, .int 0, .int 0, .int 0, .int 0, .ref q4, .int 0, .int (-1), .int (-1), .ref q5, .int 0, .null, .null, .int 0, .null, .int 0]) : va_E)), (q0, (.inl (eC V 0, 115, .inl (fun _ => 0)) : va_E)), (q1, (.inl (eC V 0, 920, .inl (fun _ => 0)) : va_E)), (q2, (.inl (eC V 0, 115, .inl (fun _ => 0)) : va_E)), (q3, (.inl (eC V 0, 115, .inl (fun _ => 0)) : va_E)), (q4, (.inl (eC V 0, 60, .inl (fun _ => 0)) : va_E)), (q5, (.inl (eC V 3, 60, .inl (fun _ => 0)) : va_E))]) := h
  refine lv_aload_n hx hcd dX4_init_63 rfl (lv_at hl 0 rfl) ?_
  refine lv_bipush (v := nI 16) hx hcd dX4_init_64 (by decide) ?_
  refine nw_A (atype := .int) (ty := .int) (a0 := (16, .inl (fun _ => 0))) G hC hB hV h 0 rfl (fun A B h1 h2 => Option.some.inj (h1.symm.trans h2)) mw_157 rfl 16 (fun _ => rfl) rfl (by decide) (by decide) (Nat.le_of_ble_eq_true rfl) (Nat.le_of_ble_eq_true rfl) dX4_init_66 (fun q6 H h => ?_)
  replace h : cH V s _ _ ([(b, (.inr (8, [.ref q0, .ref q1, .ref q2, .ref q3, .int 0, .int 0, .int 0, .int 0, .ref q4, .int 0, .int (-1), .int (-1), .ref q5, .int 0, .null, .null, .int 0, .null, .int 0]) : va_E)), (q0, (.inl (eC V 0, 115, .inl (fun _ => 0)) : va_E)), (q1, (.inl (eC V 0, 920, .inl (fun _ => 0)) : va_E)), (q2, (.inl (eC V 0, 115, .inl (fun _ => 0)) : va_E)), (q3, (.inl (eC V 0, 115, .inl (fun _ => 0)) : va_E)), (q4, (.inl (eC V 0, 60, .inl (fun _ => 0)) : va_E)), (q5, (.inl (eC V 3, 60, .inl (fun _ => 0)) : va_E)), (q6, (.inl (eC V 0, 16, .inl (fun _ => 0)) : va_E))]) := h
  refine nw_F G hC h iwX4 tyX4 tyX4_ok nmX4 rfl 14 (by decide) mw_1486 rfl hname rfl rfl rfl (Nat.le_of_ble_eq_true rfl) dX4_init_68 (fun H locs h => ?_)
  replace h : cH V s _ _ ([(b, (.inr (8, [.ref q0, .ref q1, .ref q2, .ref q3, .int 0, .int 0, .int 0, .int 0, .ref q4, .int 0, .int (-1), .int (-1), .ref q5, .int 0, .ref q6, .null, .int 0, .null, .int 0]) : va_E)), (q0, (.inl (eC V 0, 115, .inl (fun _ => 0)) : va_E)), (q1, (.inl (eC V 0, 920, .inl (fun _ => 0)) : va_E)), (q2, (.inl (eC V 0, 115, .inl (fun _ => 0)) : va_E)), (q3, (.inl (eC V 0, 115, .inl (fun _ => 0)) : va_E)), (q4, (.inl (eC V 0, 60, .inl (fun _ => 0)) : va_E)), (q5, (.inl (eC V 3, 60, .inl (fun _ => 0)) : va_E)), (q6, (.inl (eC V 0, 16, .inl (fun _ => 0)) : va_E))]) := h
  refine lv_aload_n hx hcd dX4_init_71 rfl (lv_at hl 0 rfl) ?_
  refine lv_bipush (v := nI 16) hx hcd dX4_init_72 (by decide) ?_
  refine nw_A (atype := .int) (ty := .int) (a0 := (16, .inl (fun _ => 0))) G hC hB hV h 0 rfl (fun A B h1 h2 => Option.some.inj (h1.symm.trans h2)) mw_157 rfl 16 (fun _ => rfl) rfl (by decide) (by decide) (Nat.le_of_ble_eq_true rfl) (Nat.le_of_ble_eq_true rfl) dX4_init_74 (fun q7 H h => ?_)
  replace h : cH V s _ _ ([(b, (.inr (8, [.ref q0, .ref q1, .ref q2, .ref q3, .int 0, .int 0, .int 0, .int 0, .ref q4, .int 0, .int (-1), .int (-1), .ref q5, .int 0, .ref q6, .null, .int 0, .null, .int 0]) : va_E)), (q0, (.inl (eC V 0, 115, .inl (fun _ => 0)) : va_E)), (q1, (.inl (eC V 0, 920, .inl (fun _ => 0)) : va_E)), (q2, (.inl (eC V 0, 115, .inl (fun _ => 0)) : va_E)), (q3, (.inl (eC V 0, 115, .inl (fun _ => 0)) : va_E)), (q4, (.inl (eC V 0, 60, .inl (fun _ => 0)) : va_E)), (q5, (.inl (eC V 3, 60, .inl (fun _ => 0)) : va_E)), (q6, (.inl (eC V 0, 16, .inl (fun _ => 0)) : va_E)), (q7, (.inl (eC V 0, 16, .inl (fun _ => 0)) : va_E))]) := h
  refine nw_F G hC h iwX4 tyX4 tyX4_ok nmX4 rfl 15 (by decide) mw_1487 rfl hname rfl rfl rfl (Nat.le_of_ble_eq_true rfl) dX4_init_76 (fun H locs h => ?_)
  replace h : cH V s _ _ ([(b, (.inr (8, [.ref q0, .ref q1, .ref q2, .ref q3, .int 0, .int 0, .int 0, .int 0, .ref q4, .int 0, .int (-1), .int (-1), .ref q5, .int 0, .ref q6, .ref q7, .int 0, .null, .int 0]) : va_E)), (q0, (.inl (eC V 0, 115, .inl (fun _ => 0)) : va_E)), (q1, (.inl (eC V 0, 920, .inl (fun _ => 0)) : va_E)), (q2, (.inl (eC V 0, 115, .inl (fun _ => 0)) : va_E)), (q3, (.inl (eC V 0, 115, .inl (fun _ => 0)) : va_E)), (q4, (.inl (eC V 0, 60, .inl (fun _ => 0)) : va_E)), (q5, (.inl (eC V 3, 60, .inl (fun _ => 0)) : va_E)), (q6, (.inl (eC V 0, 16, .inl (fun _ => 0)) : va_E)), (q7, (.inl (eC V 0, 16, .inl (fun _ => 0)) : va_E))]) := h
  refine lv_aload_n hx hcd dX4_init_79 rfl (lv_at hl 0 rfl) ?_
  refine lv_bipush (v := nI 124) hx hcd dX4_init_80 (by decide) ?_
  refine nw_A (atype := .int) (ty := .int) (a0 := (124, .inl (fun _ => 0))) G hC hB hV h 0 rfl (fun A B h1 h2 => Option.some.inj (h1.symm.trans h2)) mw_157 rfl 124 (fun _ => rfl) rfl (by decide) (by decide) (Nat.le_of_ble_eq_true rfl) (Nat.le_of_ble_eq_true rfl) dX4_init_82 (fun q8 H h => ?_)
  replace h : cH V s _ _ ([(b, (.inr (8, [.ref q0, .ref q1, .ref q2, .ref q3, .int 0, .int 0, .int 0, .int 0, .ref q4, .int 0, .int (-1), .int (-1), .ref q5, .int 0, .ref q6, .ref q7, .int 0, .null, .int 0]) : va_E)), (q0, (.inl (eC V 0, 115, .inl (fun _ => 0)) : va_E)), (q1, (.inl (eC V 0, 920, .inl (fun _ => 0)) : va_E)), (q2, (.inl (eC V 0, 115, .inl (fun _ => 0)) : va_E)), (q3, (.inl (eC V 0, 115, .inl (fun _ => 0)) : va_E)), (q4, (.inl (eC V 0, 60, .inl (fun _ => 0)) : va_E)), (q5, (.inl (eC V 3, 60, .inl (fun _ => 0)) : va_E)), (q6, (.inl (eC V 0, 16, .inl (fun _ => 0)) : va_E)), (q7, (.inl (eC V 0, 16, .inl (fun _ => 0)) : va_E)), (q8, (.inl (eC V 0, 124, .inl (fun _ => 0)) : va_E))]) := h
  refine nw_F G hC h iwX4 tyX4 tyX4_ok nmX4 rfl 17 (by decide) mw_1489 rfl hname rfl rfl rfl (Nat.le_of_ble_eq_true rfl) dX4_init_84 (fun H locs h => ?_)
  replace h : cH V s _ _ ([(b, (.inr (8, [.ref q0, .ref q1, .ref q2, .ref q3, .int 0, .int 0, .int 0, .int 0, .ref q4, .int 0, .int (-1), .int (-1), .ref q5, .int 0, .ref q6, .ref q7, .int 0, .ref q8, .int 0]) : va_E)), (q0, (.inl (eC V 0, 115, .inl (fun _ => 0)) : va_E)), (q1, (.inl (eC V 0, 920, .inl (fun _ => 0)) : va_E)), (q2, (.inl (eC V 0, 115, .inl (fun _ => 0)) : va_E)), (q3, (.inl (eC V 0, 115, .inl (fun _ => 0)) : va_E)), (q4, (.inl (eC V 0, 60, .inl (fun _ => 0)) : va_E)), (q5, (.inl (eC V 3, 60, .inl (fun _ => 0)) : va_E)), (q6, (.inl (eC V 0, 16, .inl (fun _ => 0)) : va_E)), (q7, (.inl (eC V 0, 16, .inl (fun _ => 0)) : va_E)), (q8, (.inl (eC V 0, 124, .inl (fun _ => 0)) : va_E))]) := h
  exact kc_ret hQ G hret hlocks h ⟨q0, q1, q2, q3, q4, q5, q6, q7, q8, rfl⟩ (Nat.le_of_ble_eq_true rfl) (Nat.le_of_ble_eq_true rfl) dX4_init_87
