set_option maxHeartbeats 4000000 in
set_option maxRecDepth 100000 in
/-- Arrays.copyOf of a builder's bytes: a new array -/
theorem met_J7_copyOf (l : Launch) (V : kEnv) (hV : kOk V) (S : kCs) (k : Nat) (hk : k < 2) (x : kSb) (mm : Nat) (h1 : x.2.1 < mm) (h2 : mm ≤ 120) (hf : sb_Fit x.1) :
    Met l yJ7_copyOf_9075b (kWs yJ7_copyOf_9075b cJ7_copyOf_9075b 3 (some (.array .byte))) { frames := 1, cells := 1, slots := 120, locals := 60 } (va_Pc [.ref x.2.2.1, .int (nI mm)] (cPre V (cWs V (uPut S k x)))) (va_Qr (fun _ : Unit => True) (fun _ q t => cAt V (cWs V (uPut S k x) ++ [(q, (.inl (eC V 1, mm, .inl (va_cpy x.1 (fun _ => 0) 0 0 x.2.1)) : va_E))]) t) (eA V)) 1 120 (eA V) := by
  refine kMet (cc := cJ7_copyOf_9075b) (maxL := 3) (ret := some (.array .byte)) (by decide +kernel) rfl ?_
  intro p e s m args below meth c s₁ B hml hv
  obtain ⟨rfl, hC, hB, hP, hD⟩ := hv
  have hts := atoms_spec (ws := kWs yJ7_copyOf_9075b cJ7_copyOf_9075b 3 (some (.array .byte))) B.pre
  rw [lg_entry_eq]
  have G : CallFix p m c cJ7_copyOf_9075b 3 s ([.ref x.2.2.1, .int (nI mm)] : List Value).toArray LW RJ7 := ⟨B.exec, B.bytes, hml, findClass_of_methodNamed B.named, fun w h => hts w (List.mem_cons_of_mem _ h)⟩
  have hret := B.returns
  have hlocks := B.notSynchronized
  have h : cH V s s.heap [] (cWs V (uPut S k x)) := ⟨hP, hD, va_S.rf⟩
  have hx := G.1
  have hcd := G.2.1
  have key : ∀ ls : Array Slot, lv_has ls 3 [(0, .ref x.2.2.1), (1, .int (nI mm))] → W p l e { frames := 1, cells := 1, slots := 120, locals := 60 } s m ([.ref x.2.2.1, .int (nI mm)] : List Value).toArray below meth c s.heap [] 0 0 (MQ below (va_Qr (fun _ : Unit => True) (fun _ q t => cAt V (cWs V (uPut S k x) ++ [(q, (.inl (eC V 1, mm, .inl (va_cpy x.1 (fun _ => 0) 0 0 x.2.1)) : va_E))]) t) (eA V)) ([.ref x.2.2.1, .int (nI mm)] : List Value).toArray s 1 120 (eA V)) (F0 m 0 ls []) := by
    intro ls hl
    refine lv_iload_n hx hcd dJ7_copyOf_9075b_0 rfl (lv_at hl 1 rfl) ?_
    refine lv_aload_n hx hcd dJ7_copyOf_9075b_1 rfl (lv_at hl 0 rfl) ?_
    refine r_xN G hC k h hk (v := nI x.2.1) rfl dJ7_copyOf_9075b_2 ?_
    refine lv_icmp_ne (tgt := 14) hx hcd dJ7_copyOf_9075b_3 (by decide) (fun c1 => ?_) (fun c1 => ?_)
    · refine lv_iload_n hx hcd dJ7_copyOf_9075b_14 rfl (lv_at hl 1 rfl) ?_
      refine va_newa (atype := .byte) (ty := .byte) (a0 := (mm, .inl (fun _ => 0))) (N' := mm) hx hcd (G.2.2.2.2 _ mw_216) rfl hC.1 h.1 h.2.1 h.2.2 (fun q hq => hV q (Nat.le_trans hB hq)) (fun cA => rfl) (nI_pos (by omega)) (nI_clamp (by omega)) (by show mm * 1 ≤ 536870912; omega) (by show 0 + 1 ≤ 1; omega) (by show 0 + mm ≤ 120; omega) dJ7_copyOf_9075b_15 ?_
      intro q cA H1 hK1 hP1 hD1 hS1
      have ec : cA = eC V 1 := by
        have e1 := (hK1.2 (eT V).length (cA, .byte) (by rw [List.getElem?_append_right (Nat.le_refl _), Nat.sub_self]; rfl)).2
        have e2 := (hC.1.2 1 (eC V 1, .byte) rfl).2
        exact Option.some.inj (e1.symm.trans e2)
      subst ec
      refine lv_astore_n (lv' := [(2, .ref q), (0, .ref x.2.2.1), (1, .int (nI mm))]) hx hcd dJ7_copyOf_9075b_17 rfl hl (by decide) rfl (fun ls hl => ?_)
      refine lv_aload_n hx hcd dJ7_copyOf_9075b_18 rfl (lv_at hl 1 rfl) ?_
      refine lv_iconst (v := nI 0) hx hcd dJ7_copyOf_9075b_19 (by decide) ?_
      refine lv_aload_n hx hcd dJ7_copyOf_9075b_20 rfl (lv_at hl 0 rfl) ?_
      refine lv_iconst (v := nI 0) hx hcd dJ7_copyOf_9075b_21 (by decide) ?_
      refine lv_aload_n hx hcd dJ7_copyOf_9075b_22 rfl (lv_at hl 1 rfl) ?_
      have hy := cY_at V (uPut S k x) hk
      rw [uPut_at] at hy
      have hy1 : (cWs V (uPut S k x) ++ [(q, (.inl (eC V 1, mm, .inl (fun _ => 0)) : va_E))])[106 + k]? = some (x.2.2.1, .inl (eC V 1, x.2.1, .inl x.1)) := by
        rw [List.getElem?_append_left (by rw [cWs_len]; omega)]
        exact hy
      have hy2 : (cWs V (uPut S k x) ++ [(q, (.inl (eC V 1, mm, .inl (fun _ => 0)) : va_E))])[108]? = some (q, .inl (eC V 1, mm, .inl (fun _ => 0))) := by
        rw [List.getElem?_append_right (by rw [cWs_len]; decide), cWs_len]
        rfl
      refine va_alen (D := eD V) (cl := vwCl) (tys := eT V) hx hcd hC.1 hP1 (106 + k) 1 hy1 rfl (v := nI x.2.1) rfl dJ7_copyOf_9075b_23 ?_
      refine lv_iload_n hx hcd dJ7_copyOf_9075b_24 rfl (lv_at hl 2 rfl) ?_
      refine va_mmin hx hcd (by rw [G.2.2.1]; exact hl.1.symm) G.2.2.2.1 (G.2.2.2.2 _ mw_382) (G.2.2.2.2 _ mw_383) (G.2.2.2.2 _ mw_70) (G.2.2.2.2 _ mw_384) (Nat.le_of_ble_eq_true rfl) (Nat.le_of_ble_eq_true rfl) (Nat.le_of_ble_eq_true rfl) (by show 0 + mm ≤ 120; omega) dJ7_copyOf_9075b_25 ?_
      refine lv_topi (fun z e_z => ?_)
      obtain rfl : z = nI x.2.1 := by rw [e_z]; exact (n_min (by omega) (by omega)).trans (congrArg nI (Nat.min_eq_left (by omega)))
      have z0 : (nI 0).toNatClampNeg = 0 := nI_clamp (by decide)
      have zc : (nI x.2.1).toNatClampNeg = x.2.1 := nI_clamp (by omega)
      refine va_copyi (D := eD V) (cl := vwCl) (tys := eT V) (ty := .byte) hx hcd (by rw [G.2.2.1]; exact hl.1.symm) G.2.2.2.1 (G.2.2.2.2 _ mw_385) (G.2.2.2.2 _ mw_387) (G.2.2.2.2 _ mw_386) (G.2.2.2.2 _ mw_81) hC.1 hP1 hD1 hS1 (106 + k) 108 1 1 hy1 hy2 rfl rfl rfl (nI_pos (by decide)) (nI_pos (by decide)) (nI_pos (by omega)) (by rw [z0, zc]; omega) (by rw [z0, zc]; omega) (fun i _ => hf _) (Nat.le_of_ble_eq_true rfl) (by decide +kernel) dJ7_copyOf_9075b_28 ?_
      intro H2 locs2 hP2 hD2 hS2
      rw [z0, zc] at hP2 hD2
      have es : (cWs V (uPut S k x) ++ [(q, (.inl (eC V 1, mm, .inl (fun _ => 0)) : va_E))]).set 108 (q, .inl (eC V 1, mm, .inl (va_cpy x.1 (fun _ => 0) 0 0 x.2.1))) = cWs V (uPut S k x) ++ [(q, (.inl (eC V 1, mm, .inl (va_cpy x.1 (fun _ => 0) 0 0 x.2.1)) : va_E))] := by
        rw [List.set_append_right _ _ (by rw [cWs_len]; decide), cWs_len]
        rfl
      rw [es] at hP2 hD2
      refine lv_aload_n hx hcd dJ7_copyOf_9075b_31 rfl (lv_at hl 0 rfl) ?_
      refine W.widen (cells := 0 + 1) (slots := 0 + mm) (by omega) (by omega) (W.aret (v := .ref q) hx hcd hret (Or.inr ⟨_, rfl⟩) (Or.inr ⟨_, rfl⟩) (fun t ht _ => ⟨⟨(), q, rfl, trivial, ?_⟩, hS2.F ht⟩) hS2.2.2 dJ7_copyOf_9075b_32)
      exact ⟨by rw [ht]; exact hP2, hD2⟩
    · exact absurd (cEq (tN (n := mm) (by omega)) (tN (n := x.2.1) (by omega)) c1) (by omega)
  exact key _ (lv_entry ([.ref x.2.2.1, .int (nI mm)] : List Value) (Nat.le_of_ble_eq_true rfl))
/-- the builder's own bytes, written over by the new array -/
theorem r_xG {p : Program} {l : Launch} {e : Env} {R : Room} {s : State} {m : MethodId} {args : Array Value} {below : List Frame} {meth : Method} {c : Code} {H : Heap} {locs : List Loc} {cells slots : Nat} {Q : State → Prop} {cc : ByteArray} {pc nL : Nat} {ls : Array Slot} {rest : List Value} {own : String} {V : kEnv} {S : kCs} {z : kSb}
    (G : CallFix p m c cc nL s args LW own) (hC : cSt V s) (k : Nat) (hk : k < 2) {mm q : Nat} {f : Nat → Int32} (hP : va_P (eD V) vwCl (cWs V (uPut S k z) ++ [(q, (.inl (eC V 1, mm, .inl f) : va_E))]) H) (hD : va_D (eA V) (cWs V (uPut S k z) ++ [(q, (.inl (eC V 1, mm, .inl f) : va_E))])) (hS : va_S (eA V) s.heap H locs) {index : Nat} (hl : Cond.fieldLink own index "java/lang/AbstractStringBuilder" "value" "[B" ∈ LW) (hd : decode cc pc = .ok (.putfield index, 3))
    (kk : ∀ (H : Heap) (locs : List Loc), cH V s H locs (cWs V (uPut S k (f, mm, q, z.2.2.2))) → W p l e R s m args below meth c H locs cells slots Q (F0 m (pc + 3) ls rest)) : W p l e R s m args below meth c H locs cells slots Q (F0 m pc ls (.ref q :: .ref (eX V (104 + k)) :: rest)) := by
  have h1 : (cWs V (uPut S k z) ++ [(q, (.inl (eC V 1, mm, .inl f) : va_E))])[104 + k]? = some (eX V (104 + k), .inr (1, uFl z)) := by
    rw [List.getElem?_append_left (by rw [cWs_len]; omega)]
    have := cU_at V (uPut S k z) hk
    rwa [uPut_at] at this
  refine va_put (D := eD V) (ci := 1) (v := .ref q) (C := RJ4) (T := TJ4) (N := 4) G.1 G.2.1 G.2.2.2.2 iwJ4 tyJ4 tyJ4_ok nmJ4 G.2.2.2.1 hC.1 hP hD hS (104 + k) h1 rfl 0 (by decide) (G.2.2.2.2 _ hl) (fun y h9 => h9) rfl (ty := .array .byte) (by decide +kernel) rfl rfl (by show 0 < 4; decide) hd (fun H1 locs1 hP1 hD1 hS1 => kk H1 locs1 ⟨?_, ?_, hS1⟩)
  · refine wP_map (fun i => if i = 106 + k then 108 else i) (fun i w hw => ?_) hP1
    have h9 := cU_grow V (uPut S k z) hk (f' := f) (mm := mm) (q := q) (i := i) (w := w) (by rw [uPut_set, uPut_at]; exact hw)
    rwa [uPut_at] at h9
  · refine wD_map (fun i => if i = 106 + k then 108 else i) (fun i j hi hj e => ?_) (fun i w hw => ?_) hD1
    · rw [cWs_len] at hi hj
      split at e <;> split at e <;> omega
    · have h9 := cU_grow V (uPut S k z) hk (f' := f) (mm := mm) (q := q) (i := i) (w := w) (by rw [uPut_set, uPut_at]; exact hw)
      rwa [uPut_at] at h9
theorem kRun_copyOf {p : Program} {l : Launch} {e : Env} {R : Room} {s : State} {m : MethodId} {args : Array Value} {below : List Frame} {meth : Method} {c : Code} {H : Heap} {locs : List Loc} {cells slots : Nat} {Q : State → Prop} {cc : ByteArray} {pc nL index : Nat} {ls : Array Slot} {rest : List Value} {own : String} {V : kEnv} {S : kCs} {z : kSb}
    (G : CallFix p m c cc nL s args LW own) (hV : kOk V) (hC : cSt V s) (hB : eB V ≤ s.heap.size) (k : Nat) (hk : k < 2) (h : cH V s H locs (cWs V (uPut S k z))) {mm : Nat} (h1 : z.2.1 < mm) (h2 : mm ≤ 120) (hf : sb_Fit z.1) (w1 : Cond.methodLink own index yJ7_copyOf_9075b ∈ LW) (hR : 2 ≤ R.frames ∧ 90 ≤ R.locals) (hsz : ls.size = nL) (hro : (rest.map fun v => v.category).sum ≤ 8) (hd : decode cc pc = .ok (.invokestatic index, 3)) (hfi : cells + 1 ≤ R.cells ∧ slots + 120 ≤ R.slots)
    (kk : ∀ (q : Nat) (H : Heap) (locs : List Loc), va_P (eD V) vwCl (cWs V (uPut S k z) ++ [(q, (.inl (eC V 1, mm, .inl (va_cpy z.1 (fun _ => 0) 0 0 z.2.1)) : va_E))]) H → va_D (eA V) (cWs V (uPut S k z) ++ [(q, (.inl (eC V 1, mm, .inl (va_cpy z.1 (fun _ => 0) 0 0 z.2.1)) : va_E))]) → va_S (eA V) s.heap H locs → W p l e R s m args below meth c H locs (cells + 1) (slots + 120) Q (F0 m (pc + 3) ls (.ref q :: rest))) : W p l e R s m args below meth c H locs cells slots Q (F0 m pc ls (.int (nI mm) :: .ref z.2.2.1 :: rest)) := by
  have hv : kSt yJ7_copyOf_9075b cJ7_copyOf_9075b 3 (some (.array .byte)) 2 := ⟨mw_373, mw_80, mw_374, by decide, by decide, by decide +kernel⟩
  refine va_callr (va_runS (As := [.ref z.2.2.1, .int (nI mm)]) G (met_J7_copyOf l V hV S k hk z mm h1 h2 hf) (kS_cw G w1 hv ⟨rfl, rfl⟩ ⟨hR.1, (by have := hR.2; show 82 ≤ R.locals; omega)⟩) ⟨cPre.blind, cPre.of hC hB h⟩ rfl rfl hsz rfl (lv_room hro) hd hfi) h.2.2 (fun _ _ h => h) (fun _ h => h) (fun _ q t H1 locs1 ht _ _ hb _ _ hS => kk q H1 locs1 ?_ ?_ hS)
  · have := hb.1
    rwa [ht] at this
  · exact hb.2
theorem sb_grow {x : kSb} {L : List Nat} {mm q : Nat} (hR : sbR x L) (h1 : x.2.1 < mm) (h2 : mm ≤ 120) : sbR (va_cpy x.1 (fun _ => 0) 0 0 x.2.1, mm, q, x.2.2.2) L := by
  obtain ⟨r1, r2, r3, r4, r5⟩ := hR
  refine ⟨r1, by show L.length ≤ mm; omega, h2, fun j hj => ⟨(r4 j hj).1, ?_⟩, sb_fitC r5 sb_fit0⟩
  show va_cpy x.1 (fun _ => 0) 0 0 x.2.1 j = _
  rw [pk_cpy_in (Nat.zero_le _) (by omega)]
  show x.1 (0 + (j - 0)) = _
  rw [show 0 + (j - 0) = j by omega]
  exact (r4 j hj).2
theorem mwx_1933 : (Jvm.Cond.sameMethod "java/lang/AbstractStringBuilder" "java/lang/AbstractStringBuilder" "newCapacity" "(I)I") ∈ LW := lwm 1933 (by decide +kernel) rfl
theorem kw_J5_newCapacity_0f7a4 : kVw yJ5_newCapacity_0f7a4 cJ5_newCapacity_0f7a4 6 (some .int) 1 := ⟨mwx_1933, by decide +kernel, mw_359, mw_60, mw_360, by decide, by decide, by decide +kernel⟩
set_option maxHeartbeats 4000000 in
set_option maxRecDepth 100000 in
/-- ensureCapacityInternal(q) -/
theorem met_J5_ensureCapacityInternal_d00df (l : Launch) (V : kEnv) (hV : kOk V) (S : kCs) (k : Nat) (hk : k < 2) (x : kSb) (L : List Nat) (hR : sbR x L) (q : Nat) (hq : q ≤ 60) : kU l yJ5_ensureCapacityInternal_d00df cJ5_ensureCapacityInternal_d00df 3 { frames := 3, cells := 1, slots := 120, locals := 90 } V (cWs V) [.ref (eX V (104 + k)), .int (nI (q))] (uPut S k x) (fun u => ∃ y, sbR y L ∧ q ≤ y.2.1 ∧ u = uPut S k y) 1 120 := by
  refine kU_of (by decide +kernel) (Nat.le_of_ble_eq_true rfl) ?_
  intro p e s m args below meth c G hret hlocks hC hB h ls hl Q hQ
  have hl : lv_has ls 3 [(0, .ref (eX V (104 + k))), (1, .int (nI (q)))] := hl
  have hx := G.1
  have hcd := G.2.1
  have hR0 := hR
  obtain ⟨r1, r2, r3, r4, r5⟩ := hR0
  refine lv_aload_n hx hcd dJ5_ensureCapacityInternal_d00df_0 rfl (lv_at hl 0 rfl) ?_
  refine r_uF G hC h k 0 hk (by decide) mw_202 (v := .ref (x.2.2.1)) (by rw [uPut_at]; rfl) dJ5_ensureCapacityInternal_d00df_1 ?_
  refine r_xN G hC k h hk (v := nI (x.2.1)) rfl dJ5_ensureCapacityInternal_d00df_4 ?_
  refine lv_aload_n hx hcd dJ5_ensureCapacityInternal_d00df_5 rfl (lv_at hl 0 rfl) ?_
  refine r_uF G hC h k 1 hk (by decide) mw_203 (v := .int 0) (by rw [uPut_at]; rfl) dJ5_ensureCapacityInternal_d00df_6 ?_
  refine w_ishr (v := nI (x.2.1)) hx hcd dJ5_ensureCapacityInternal_d00df_9 (sb_shr0 _) ?_
  refine lv_istore_n (lv' := [(2, .int (nI (x.2.1))), (0, .ref (eX V (104 + k))), (1, .int (nI (q)))]) hx hcd dJ5_ensureCapacityInternal_d00df_10 rfl hl (by decide) rfl (fun ls hl => ?_)
  refine lv_iload_n hx hcd dJ5_ensureCapacityInternal_d00df_11 rfl (lv_at hl 2 rfl) ?_
  refine lv_iload_n hx hcd dJ5_ensureCapacityInternal_d00df_12 rfl (lv_at hl 0 rfl) ?_
  refine w_isub (v := nI (q) - nI (x.2.1)) hx hcd dJ5_ensureCapacityInternal_d00df_13 rfl ?_
  refine lv_if_le (tgt := 38) hx hcd dJ5_ensureCapacityInternal_d00df_14 (by decide) (fun c_1 => ?_) (fun c_1 => ?_)
  · have c_1 := cLe (pk_sub_toInt (a := q) (b := x.2.1) (by omega) (by omega)) t0 c_1
    exact k_retv hQ G hret hlocks h (⟨x, hR, by omega, rfl⟩) (Nat.le_of_ble_eq_true rfl) (Nat.le_of_ble_eq_true rfl) dJ5_ensureCapacityInternal_d00df_38
  · have c_1 := cNle (pk_sub_toInt (a := q) (b := x.2.1) (by omega) (by omega)) t0 c_1
    have hn := ncap_b (q := q) (cp := x.2.1) (by omega) hq
    refine lv_aload_n hx hcd dJ5_ensureCapacityInternal_d00df_17 rfl (lv_at hl 1 rfl) ?_
    refine lv_aload_n hx hcd dJ5_ensureCapacityInternal_d00df_18 rfl (lv_at hl 1 rfl) ?_
    refine r_uF G hC h k 0 hk (by decide) mw_202 (v := .ref (x.2.2.1)) (by rw [uPut_at]; rfl) dJ5_ensureCapacityInternal_d00df_19 ?_
    refine lv_aload_n hx hcd dJ5_ensureCapacityInternal_d00df_22 rfl (lv_at hl 1 rfl) ?_
    refine lv_iload_n hx hcd dJ5_ensureCapacityInternal_d00df_23 rfl (lv_at hl 2 rfl) ?_
    refine k_Wi (As := [.int (nI (q))]) (rest := [.ref (x.2.2.1), .ref (eX V (104 + k))]) (b := eX V (104 + k)) G hC hB h (met_J5_newCapacity_0f7a4 l V S k hk x q (by omega) (by omega)) mw_357 kw_J5_newCapacity_0f7a4 ⟨rfl, rfl⟩ ⟨Nat.le_of_ble_eq_true rfl, Nat.le_of_ble_eq_true rfl⟩ (r_uV hC h k hk) rfl rfl hl.1 (Nat.le_of_ble_eq_true rfl) dJ5_ensureCapacityInternal_d00df_24 ⟨Nat.le_of_ble_eq_true rfl, Nat.le_of_ble_eq_true rfl⟩ (fun r u H locs hp h => ?_)
    obtain ⟨rfl, hu⟩ := hp; rw [hu] at h
    refine lv_aload_n hx hcd dJ5_ensureCapacityInternal_d00df_27 rfl (lv_at hl 1 rfl) ?_
    refine r_uF G hC h k 1 hk (by decide) mw_203 (v := .int 0) (by rw [uPut_at]; rfl) dJ5_ensureCapacityInternal_d00df_28 ?_
    refine w_ishl (v := nI (ncap q x.2.1)) hx hcd dJ5_ensureCapacityInternal_d00df_31 (sb_shl0 _) ?_
    refine kRun_copyOf G hV hC hB k hk h hn.2.2 hn.2.1 r5 mw_372 ⟨Nat.le_of_ble_eq_true rfl, Nat.le_of_ble_eq_true rfl⟩ hl.1 (Nat.le_of_ble_eq_true rfl) dJ5_ensureCapacityInternal_d00df_32 ⟨Nat.le_of_ble_eq_true rfl, Nat.le_of_ble_eq_true rfl⟩ (fun ra H locs hP hD hS => ?_)
    refine r_xG G hC k hk hP hD hS mw_202 dJ5_ensureCapacityInternal_d00df_35 (fun H locs h => ?_)
    exact k_retv hQ G hret hlocks h ⟨_, sb_grow hR hn.2.2 hn.2.1, hn.1, rfl⟩ (Nat.le_of_ble_eq_true rfl) (Nat.le_of_ble_eq_true rfl) dJ5_ensureCapacityInternal_d00df_38
