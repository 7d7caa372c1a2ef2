/-! THE LAW: cases of its switch. -/
section LC
variable {p : Program} {l : Launch} {e : Env} {R : Room} {s : State} {m : MethodId} {args : Array Value} {below : List Frame} {meth : Method} {c : Code} {H : Heap} {locs : List Loc} {cells slots : Nat} {Q : State → Prop}
variable {ls : Array Slot} {V : kEnv} {S : kCs} {M : kMs} {O : Nat → Int64} {OD : Nat → UInt64} {n b LN i : Nat} {xs : Nat → Int32}
set_option maxHeartbeats 4000000 in
set_option maxRecDepth 100000 in
theorem lc_0_addStory (hst : l.stackTraces = false) (hV : kOk V) (G : CallFix p m c cL_law 9 s args LW RL) (hC : cSt V s) (hB : eB V ≤ s.heap.size) (hX : va_X b LN xs s s.heap) (hbl : b < s.heap.size) (hbA : ¬ eA V b) (hn : n ≤ 600) (hr : rel n S M) (h : cH V s H locs (LWs V S M O OD)) (hi : i + 3 ≤ LN) (hLN : LN ≤ 1536) (hl : lv_has ls 9 (lv0 V b i)) (hRf : 30 ≤ R.frames) (hRl : 1500 ≤ R.locals) (hc : cells + 24 ≤ R.cells) (hs : slots + 3000 ≤ R.slots)
    (kk : ∀ (S : kCs) (M : kMs) (O : Nat → Int64) (OD : Nat → UInt64) (H : Heap) (locs : List Loc) (ls : Array Slot) (cells1 slots1 : Nat), rel (n + 1) S M → cH V s H locs (LWs V S M O OD) → lv_has ls 9 (lv0 V b i) → cells1 ≤ cells + 24 → slots1 ≤ slots + 3000 → W p l e R s m args below meth c H locs cells1 slots1 Q (F0 m 2868 ls [])) : W p l e R s m args below meth c H locs cells slots Q (F0 m 272 ls []) := by
  have hx := G.1
  have hcd := G.2.1
  obtain ⟨B, nx, sz, L0, L, ep, fp, s0, hd⟩ := hr
  obtain ⟨e1, hA, hg, hH, hSs, hLL, hTT, hEE, hXX⟩ := id hd
  obtain ⟨f0, hf0⟩ := hXX.2.2.1
  obtain ⟨g0, hg0⟩ := hXX.2.2.2.1
  obtain ⟨pp, hpp⟩ := hXX.2.2.2.2.1
  obtain ⟨cm, hcm⟩ := hXX.2.2.2.2.2.1
  obtain ⟨sg, hsg, hsg2⟩ := hLL.2.2.2
  have hx5 : nx < 60000 := by have := hH.2.2.1; omega
  have eS : setB S 0 B = S := rel_S hd
  replace h : cH V s H locs (LWs V (setB S 0 B) M O OD) := by rw [eS]; exact h
  have hpl : (B.2 2).testBit (B.2 0) = false := by
    cases z : (B.2 2).testBit (B.2 0) with
    | false => rfl
    | true => exact absurd (hA.2.2.2.2.2.1 _ z) (Nat.lt_irrefl _)
  refine lv_aload_n hx hcd dL_law_272 rfl (lv_at hl 4 rfl) ?_
  refine lv_aload_n hx hcd dL_law_273 rfl (lv_at hl 5 rfl) ?_
  refine lv_iload hx hcd dL_law_274 (lv_at hl 0 rfl) ?_
  refine lv_iconst (v := nI 1) hx hcd dL_law_276 (by decide) ?_
  refine w_iadd (v := nI (i + 1)) hx hcd dL_law_277 (nI_add _ _) ?_
  refine va_sld hx hcd hX hbl hbA h.2.2 (vp_in_nI (n := i + 1) (by omega) (by omega)) dL_law_278 ?_
  refine lv_aload_n hx hcd dL_law_279 rfl (lv_at hl 2 rfl) ?_
  replace h := cH_f h
  have hcs := cs_addStory (x := (xs (nI (i + 1)).toNatClampNeg)) hd
  refine lw_S (F := lwF V) (u0 := (setB S 0 B, O)) (As := [.ref (eX V 96), .int (xs (nI (i + 1)).toNatClampNeg), .ref (eX V 600)]) (rest := []) G hC hB hV h (met_L_addStory l _ (frV_ok _ _ _) (setB S 0 B) O (xs (nI (i + 1)).toNatClampNeg) (fun ws n => met_X3_addStory l hst _ S B hA.1 nx sz hH.1 hH.2.1 hx5 hH.2.2.2.1 (hXX.1 _ (by omega)) (xs (nI (i + 1)).toNatClampNeg)) (fun E u hp => ?hE)) mw_779 (show kSw yL_addStory cL_addStory 4 [(0, 9, 12, 13), (0, 9, 15, 15)] 3 from ⟨mw_780, mw_55, mw_781, by decide, by decide, by decide +kernel⟩) ⟨rfl, rfl⟩ ⟨by show 9 + 1 ≤ R.frames; omega, by show 8 + (4 + 11) + 152 ≤ R.locals; omega⟩ rfl rfl hl.1 (Nat.le_of_ble_eq_true rfl) dL_law_280 ⟨by omega, by omega⟩ (fun k u H locs hp h => ?_)
  case hE =>
    rcases hp with ⟨e0, -⟩ | ⟨_, -, -, -, -, e0, -⟩
    · exact Or.inl e0
    · exact Or.inr (e0)
  refine lv_istore (lv' := [(6, .int k), (5, .int (nI i)), (4, .ref (eX V 601)), (3, .ref (eX V 600)), (2, .ref (eX V 500)), (1, .ref (eX V 96)), (0, .ref b)]) hx hcd dL_law_283 hl (by decide) rfl (fun ls hl => ?_)
  replace h := cH_m h
  refine lv_aload_n hx hcd dL_law_285 rfl (lv_at hl 4 rfl) ?_
  refine lv_aload_n hx hcd dL_law_286 rfl (lv_at hl 6 rfl) ?_
  refine lv_iload hx hcd dL_law_287 (lv_at hl 1 rfl) ?_
  refine lv_iconst (v := nI 1) hx hcd dL_law_289 (by decide) ?_
  refine w_iadd (v := nI (i + 1)) hx hcd dL_law_290 (nI_add _ _) ?_
  refine va_sld hx hcd hX hbl hbA h.2.2 (vp_in_nI (n := i + 1) (by omega) (by omega)) dL_law_291 ?_
  refine fk_Vi (As := [.int (xs (nI (i + 1)).toNatClampNeg)]) (rest := []) (b := eX V 500) G hC hB hV h (met_X4_addStory l _ M B hg hA.1 0 sz hXX.2.1 (by decide) hH.2.2.2.2.2.1 hH.2.2.2.1 hpl (xs (nI (i + 1)).toNatClampNeg)) mw_1535 (show kV yX4_addStory cX4_addStory 3 (some .int) 1 from ⟨mw_1536, mw_1537, mw_64, mw_1538, by decide, by decide, by decide +kernel⟩) ⟨rfl, rfl⟩ ⟨by show 2 + 1 ≤ R.frames; omega, by show 8 + (3 + 11) + 46 ≤ R.locals; omega⟩ (r_M hC h) rfl rfl hl.1 (Nat.le_of_ble_eq_true rfl) dL_law_292 ⟨by omega, by omega⟩ (fun r2 u2 H locs hq h => ?_)
  refine lv_istore (lv' := [(7, .int r2), (6, .int k), (5, .int (nI i)), (4, .ref (eX V 601)), (3, .ref (eX V 600)), (2, .ref (eX V 500)), (1, .ref (eX V 96)), (0, .ref b)]) hx hcd dL_law_295 hl (by decide) rfl (fun ls hl => ?_)
  have key : u2.1 3 = k ∧ (k = nI 0 → u.2 0 = r2.toInt64) ∧ rel (n + 1) u.1 u2 := by
    rcases hp with ⟨hk0, r, hp1, hu⟩ | ⟨hk0, hp1⟩ | ⟨hk0, hp1⟩
    · obtain ⟨q1, q2, q3⟩ := hcs.1 _ _ _ _ hp1 hq
      exact ⟨q1.trans hk0.symm, fun _ => by rw [hu, ← q2]; rfl, q3⟩
    · have q := hcs.2 _ _ _ _ hp1 hq
      rcases q with ⟨q1, q2, q3⟩ | ⟨q1, q2, q3⟩
      · exact ⟨q2.trans hk0.symm, fun z => absurd (hk0.symm.trans z) (by decide), q3⟩
      · exact absurd q1 (by decide)
    · have q := hcs.2 _ _ _ _ hp1 hq
      rcases q with ⟨q1, q2, q3⟩ | ⟨q1, q2, q3⟩
      · exact absurd q1 (by decide)
      · exact ⟨q2.trans hk0.symm, fun z => absurd (hk0.symm.trans z) (by decide), q3⟩
  obtain ⟨k1, k2, k3⟩ := key
  exact lt_i (t1 := 308) (t2 := 325) (t3 := 2868) hV G hC hB mw_1531 h hl k1 k2 (by omega) (by omega) (by omega) (by omega) dL_law_297 dL_law_298 dL_law_301 dL_law_303 (by decide) dL_law_308 dL_law_310 (by decide) dL_law_313 dL_law_314 dL_law_315 dL_law_316 dL_law_318 dL_law_319 dL_law_320 (by decide) dL_law_325 (by decide) (fun H locs ls h hl => kk _ _ _ _ H locs ls _ _ k3 h hl (by omega) (by omega))
set_option maxHeartbeats 4000000 in
set_option maxRecDepth 100000 in
theorem lc_1_reestimate (hst : l.stackTraces = false) (hV : kOk V) (G : CallFix p m c cL_law 9 s args LW RL) (hC : cSt V s) (hB : eB V ≤ s.heap.size) (hX : va_X b LN xs s s.heap) (hbl : b < s.heap.size) (hbA : ¬ eA V b) (hn : n ≤ 600) (hr : rel n S M) (h : cH V s H locs (LWs V S M O OD)) (hi : i + 3 ≤ LN) (hLN : LN ≤ 1536) (hl : lv_has ls 9 (lv0 V b i)) (hRf : 30 ≤ R.frames) (hRl : 1500 ≤ R.locals) (hc : cells + 24 ≤ R.cells) (hs : slots + 3000 ≤ R.slots)
    (kk : ∀ (S : kCs) (M : kMs) (O : Nat → Int64) (OD : Nat → UInt64) (H : Heap) (locs : List Loc) (ls : Array Slot) (cells1 slots1 : Nat), rel (n + 1) S M → cH V s H locs (LWs V S M O OD) → lv_has ls 9 (lv0 V b i) → cells1 ≤ cells + 24 → slots1 ≤ slots + 3000 → W p l e R s m args below meth c H locs cells1 slots1 Q (F0 m 2868 ls [])) : W p l e R s m args below meth c H locs cells slots Q (F0 m 328 ls []) := by
  have hx := G.1
  have hcd := G.2.1
  obtain ⟨B, nx, sz, L0, L, ep, fp, s0, hd⟩ := hr
  obtain ⟨e1, hA, hg, hH, hSs, hLL, hTT, hEE, hXX⟩ := id hd
  obtain ⟨f0, hf0⟩ := hXX.2.2.1
  obtain ⟨g0, hg0⟩ := hXX.2.2.2.1
  obtain ⟨pp, hpp⟩ := hXX.2.2.2.2.1
  obtain ⟨cm, hcm⟩ := hXX.2.2.2.2.2.1
  obtain ⟨sg, hsg, hsg2⟩ := hLL.2.2.2
  have hx5 : nx < 60000 := by have := hH.2.2.1; omega
  have eS : setB S 0 B = S := rel_S hd
  replace h : cH V s H locs (LWs V (setB S 0 B) M O OD) := by rw [eS]; exact h
  refine lv_aload_n hx hcd dL_law_328 rfl (lv_at hl 4 rfl) ?_
  refine lv_aload_n hx hcd dL_law_329 rfl (lv_at hl 5 rfl) ?_
  refine lv_iload hx hcd dL_law_330 (lv_at hl 0 rfl) ?_
  refine lv_iconst (v := nI 1) hx hcd dL_law_332 (by decide) ?_
  refine w_iadd (v := nI (i + 1)) hx hcd dL_law_333 (nI_add _ _) ?_
  refine va_sld hx hcd hX hbl hbA h.2.2 (vp_in_nI (n := i + 1) (by omega) (by omega)) dL_law_334 ?_
  refine lv_aload_n hx hcd dL_law_335 rfl (lv_at hl 5 rfl) ?_
  refine lv_iload hx hcd dL_law_336 (lv_at hl 0 rfl) ?_
  refine lv_iconst (v := nI 2) hx hcd dL_law_338 (by decide) ?_
  refine w_iadd (v := nI (i + 2)) hx hcd dL_law_339 (nI_add _ _) ?_
  refine va_sld hx hcd hX hbl hbA h.2.2 (vp_in_nI (n := i + 2) (by omega) (by omega)) dL_law_340 ?_
  refine lv_aload_n hx hcd dL_law_341 rfl (lv_at hl 2 rfl) ?_
  replace h := cH_f h
  have hcs := cs_reestimate (x := (xs (nI (i + 1)).toNatClampNeg)) (y := (xs (nI (i + 2)).toNatClampNeg)) hd
  refine lw_S (F := lwF V) (u0 := (setB S 0 B, O)) (As := [.ref (eX V 96), .int (xs (nI (i + 1)).toNatClampNeg), .int (xs (nI (i + 2)).toNatClampNeg), .ref (eX V 600)]) (rest := []) G hC hB hV h (met_L_reestimate l _ (frV_ok _ _ _) (setB S 0 B) O (xs (nI (i + 1)).toNatClampNeg) (xs (nI (i + 2)).toNatClampNeg) (fun ws n => met_X3_reestimate l hst _ S B hA.1 nx sz hH.1 hH.2.1 hx5 hH.2.2.2.1 (hXX.1 _ (by omega)) (xs (nI (i + 1)).toNatClampNeg) (xs (nI (i + 2)).toNatClampNeg)) (fun E u hp => ?hE)) mw_836 (show kSw yL_reestimate cL_reestimate 5 [(0, 10, 13, 21), (0, 10, 17, 13), (0, 10, 21, 15)] 4 from ⟨mw_837, mw_55, mw_838, by decide, by decide, by decide +kernel⟩) ⟨rfl, rfl⟩ ⟨by show 9 + 1 ≤ R.frames; omega, by show 8 + (5 + 11) + 153 ≤ R.locals; omega⟩ rfl rfl hl.1 (Nat.le_of_ble_eq_true rfl) dL_law_342 ⟨by omega, by omega⟩ (fun k u H locs hp h => ?_)
  case hE =>
    rcases hp with ⟨e0, -⟩ | ⟨_, -, -, e0, -⟩ | ⟨_, _, -, -, -, -, -, -, e0, -⟩
    · exact Or.inl e0
    · exact Or.inr (Or.inl e0)
    · exact Or.inr (Or.inr (e0))
  refine lv_istore (lv' := [(6, .int k), (5, .int (nI i)), (4, .ref (eX V 601)), (3, .ref (eX V 600)), (2, .ref (eX V 500)), (1, .ref (eX V 96)), (0, .ref b)]) hx hcd dL_law_345 hl (by decide) rfl (fun ls hl => ?_)
  replace h := cH_m h
  refine lv_aload_n hx hcd dL_law_347 rfl (lv_at hl 4 rfl) ?_
  refine lv_aload_n hx hcd dL_law_348 rfl (lv_at hl 6 rfl) ?_
  refine lv_iload hx hcd dL_law_349 (lv_at hl 1 rfl) ?_
  refine lv_iconst (v := nI 1) hx hcd dL_law_351 (by decide) ?_
  refine w_iadd (v := nI (i + 1)) hx hcd dL_law_352 (nI_add _ _) ?_
  refine va_sld hx hcd hX hbl hbA h.2.2 (vp_in_nI (n := i + 1) (by omega) (by omega)) dL_law_353 ?_
  refine lv_aload_n hx hcd dL_law_354 rfl (lv_at hl 6 rfl) ?_
  refine lv_iload hx hcd dL_law_355 (lv_at hl 1 rfl) ?_
  refine lv_iconst (v := nI 2) hx hcd dL_law_357 (by decide) ?_
  refine w_iadd (v := nI (i + 2)) hx hcd dL_law_358 (nI_add _ _) ?_
  refine va_sld hx hcd hX hbl hbA h.2.2 (vp_in_nI (n := i + 2) (by omega) (by omega)) dL_law_359 ?_
  refine fk_Vi (As := [.int (xs (nI (i + 1)).toNatClampNeg), .int (xs (nI (i + 2)).toNatClampNeg)]) (rest := []) (b := eX V 500) G hC hB hV h (met_X4_reestimate l _ M B hg hA.1 0 sz hXX.2.1 (by decide) hH.2.2.2.2.2.1 hH.2.2.2.1 hA.2.1 hA.2.2.1 (xs (nI (i + 1)).toNatClampNeg) (xs (nI (i + 2)).toNatClampNeg)) mw_1560 (show kV yX4_reestimate cX4_reestimate 4 (some .int) 2 from ⟨mw_1561, mw_1562, mw_64, mw_1563, by decide, by decide, by decide +kernel⟩) ⟨rfl, rfl⟩ ⟨by show 2 + 1 ≤ R.frames; omega, by show 8 + (4 + 11) + 46 ≤ R.locals; omega⟩ (r_M hC h) rfl rfl hl.1 (Nat.le_of_ble_eq_true rfl) dL_law_360 ⟨by omega, by omega⟩ (fun r2 u2 H locs hq h => ?_)
  refine lv_istore (lv' := [(7, .int r2), (6, .int k), (5, .int (nI i)), (4, .ref (eX V 601)), (3, .ref (eX V 600)), (2, .ref (eX V 500)), (1, .ref (eX V 96)), (0, .ref b)]) hx hcd dL_law_363 hl (by decide) rfl (fun ls hl => ?_)
  have key : u2.1 3 = k ∧ (k = nI 0 → u.2 0 = r2.toInt64) ∧ rel (n + 1) u.1 u2 := by
    rcases hp with ⟨hk0, r, hp1, hu⟩ | ⟨hk0, hp1⟩ | ⟨hk0, hp1⟩ | ⟨hk0, hp1⟩
    · obtain ⟨q1, q2, q3⟩ := hcs.1 _ _ _ _ hp1 hq
      exact ⟨q1.trans hk0.symm, fun _ => by rw [hu, ← q2]; rfl, q3⟩
    · have q := hcs.2 _ _ _ _ hp1 hq
      rcases q with ⟨q1, q2, q3⟩ | ⟨q1, q2, q3⟩ | ⟨q1, q2, q3⟩
      · exact ⟨q2.trans hk0.symm, fun z => absurd (hk0.symm.trans z) (by decide), q3⟩
      · exact absurd q1 (by decide)
      · exact absurd q1 (by decide)
    · have q := hcs.2 _ _ _ _ hp1 hq
      rcases q with ⟨q1, q2, q3⟩ | ⟨q1, q2, q3⟩ | ⟨q1, q2, q3⟩
      · exact absurd q1 (by decide)
      · exact ⟨q2.trans hk0.symm, fun z => absurd (hk0.symm.trans z) (by decide), q3⟩
      · exact absurd q1 (by decide)
    · have q := hcs.2 _ _ _ _ hp1 hq
      rcases q with ⟨q1, q2, q3⟩ | ⟨q1, q2, q3⟩ | ⟨q1, q2, q3⟩
      · exact absurd q1 (by decide)
      · exact absurd q1 (by decide)
      · exact ⟨q2.trans hk0.symm, fun z => absurd (hk0.symm.trans z) (by decide), q3⟩
  obtain ⟨k1, k2, k3⟩ := key
  exact lt_i (t1 := 376) (t2 := 393) (t3 := 2868) hV G hC hB mw_1531 h hl k1 k2 (by omega) (by omega) (by omega) (by omega) dL_law_365 dL_law_366 dL_law_369 dL_law_371 (by decide) dL_law_376 dL_law_378 (by decide) dL_law_381 dL_law_382 dL_law_383 dL_law_384 dL_law_386 dL_law_387 dL_law_388 (by decide) dL_law_393 (by decide) (fun H locs ls h hl => kk _ _ _ _ H locs ls _ _ k3 h hl (by omega) (by omega))
set_option maxHeartbeats 4000000 in
set_option maxRecDepth 100000 in
theorem lc_2_block (hst : l.stackTraces = false) (hV : kOk V) (G : CallFix p m c cL_law 9 s args LW RL) (hC : cSt V s) (hB : eB V ≤ s.heap.size) (hX : va_X b LN xs s s.heap) (hbl : b < s.heap.size) (hbA : ¬ eA V b) (hn : n ≤ 600) (hr : rel n S M) (h : cH V s H locs (LWs V S M O OD)) (hi : i + 3 ≤ LN) (hLN : LN ≤ 1536) (hl : lv_has ls 9 (lv0 V b i)) (hRf : 30 ≤ R.frames) (hRl : 1500 ≤ R.locals) (hc : cells + 24 ≤ R.cells) (hs : slots + 3000 ≤ R.slots)
    (kk : ∀ (S : kCs) (M : kMs) (O : Nat → Int64) (OD : Nat → UInt64) (H : Heap) (locs : List Loc) (ls : Array Slot) (cells1 slots1 : Nat), rel (n + 1) S M → cH V s H locs (LWs V S M O OD) → lv_has ls 9 (lv0 V b i) → cells1 ≤ cells + 24 → slots1 ≤ slots + 3000 → W p l e R s m args below meth c H locs cells1 slots1 Q (F0 m 2868 ls [])) : W p l e R s m args below meth c H locs cells slots Q (F0 m 396 ls []) := by
  have hx := G.1
  have hcd := G.2.1
  obtain ⟨B, nx, sz, L0, L, ep, fp, s0, hd⟩ := hr
  obtain ⟨e1, hA, hg, hH, hSs, hLL, hTT, hEE, hXX⟩ := id hd
  obtain ⟨f0, hf0⟩ := hXX.2.2.1
  obtain ⟨g0, hg0⟩ := hXX.2.2.2.1
  obtain ⟨pp, hpp⟩ := hXX.2.2.2.2.1
  obtain ⟨cm, hcm⟩ := hXX.2.2.2.2.2.1
  obtain ⟨sg, hsg, hsg2⟩ := hLL.2.2.2
  have hx5 : nx < 60000 := by have := hH.2.2.1; omega
  have eS : setB S 0 B = S := rel_S hd
  replace h : cH V s H locs (LWs V (setB S 0 B) M O OD) := by rw [eS]; exact h
  refine lv_aload_n hx hcd dL_law_396 rfl (lv_at hl 4 rfl) ?_
  refine lv_aload_n hx hcd dL_law_397 rfl (lv_at hl 5 rfl) ?_
  refine lv_iload hx hcd dL_law_398 (lv_at hl 0 rfl) ?_
  refine lv_iconst (v := nI 1) hx hcd dL_law_400 (by decide) ?_
  refine w_iadd (v := nI (i + 1)) hx hcd dL_law_401 (nI_add _ _) ?_
  refine va_sld hx hcd hX hbl hbA h.2.2 (vp_in_nI (n := i + 1) (by omega) (by omega)) dL_law_402 ?_
  refine lv_aload_n hx hcd dL_law_403 rfl (lv_at hl 5 rfl) ?_
  refine lv_iload hx hcd dL_law_404 (lv_at hl 0 rfl) ?_
  refine lv_iconst (v := nI 2) hx hcd dL_law_406 (by decide) ?_
  refine w_iadd (v := nI (i + 2)) hx hcd dL_law_407 (nI_add _ _) ?_
  refine va_sld hx hcd hX hbl hbA h.2.2 (vp_in_nI (n := i + 2) (by omega) (by omega)) dL_law_408 ?_
  refine lv_aload_n hx hcd dL_law_409 rfl (lv_at hl 2 rfl) ?_
  replace h := cH_f h
  have hcs := cs_block (x := (xs (nI (i + 1)).toNatClampNeg)) (y := (xs (nI (i + 2)).toNatClampNeg)) hd
  refine lw_S (F := lwF V) (u0 := (setB S 0 B, O)) (As := [.ref (eX V 96), .int (xs (nI (i + 1)).toNatClampNeg), .int (xs (nI (i + 2)).toNatClampNeg), .ref (eX V 600)]) (rest := []) G hC hB hV h (met_L_block l _ (frV_ok _ _ _) (setB S 0 B) O (xs (nI (i + 1)).toNatClampNeg) (xs (nI (i + 2)).toNatClampNeg) (fun ws n => met_X3_block l hst _ S B hA.1 nx sz hH.1 hH.2.1 hx5 hH.2.2.2.1 (hXX.1 _ (by omega)) (xs (nI (i + 1)).toNatClampNeg) (xs (nI (i + 2)).toNatClampNeg)) (fun E u hp => ?hE)) mw_876 (show kSw yL_block cL_block 5 [(0, 10, 13, 21), (0, 10, 17, 13), (0, 10, 21, 15), (0, 10, 25, 26)] 4 from ⟨mw_877, mw_55, mw_878, by decide, by decide, by decide +kernel⟩) ⟨rfl, rfl⟩ ⟨by show 9 + 1 ≤ R.frames; omega, by show 8 + (5 + 11) + 153 ≤ R.locals; omega⟩ rfl rfl hl.1 (Nat.le_of_ble_eq_true rfl) dL_law_410 ⟨by omega, by omega⟩ (fun k u H locs hp h => ?_)
  case hE =>
    rcases hp with ⟨e0, -⟩ | ⟨_, -, -, e0, -⟩ | ⟨_, _, -, -, -, -, e0, -⟩ | ⟨_, _, -, -, -, -, -, e0, -⟩ | ⟨_, _, -, -, -, -, -, -, -, e0, -⟩
    · exact Or.inl e0
    · exact Or.inl e0
    · exact Or.inr (Or.inl e0)
    · exact Or.inr (Or.inr (Or.inl e0))
    · exact Or.inr (Or.inr (Or.inr (e0)))
  refine lv_istore (lv' := [(6, .int k), (5, .int (nI i)), (4, .ref (eX V 601)), (3, .ref (eX V 600)), (2, .ref (eX V 500)), (1, .ref (eX V 96)), (0, .ref b)]) hx hcd dL_law_413 hl (by decide) rfl (fun ls hl => ?_)
  replace h := cH_m h
  refine lv_aload_n hx hcd dL_law_415 rfl (lv_at hl 4 rfl) ?_
  refine lv_aload_n hx hcd dL_law_416 rfl (lv_at hl 6 rfl) ?_
  refine lv_iload hx hcd dL_law_417 (lv_at hl 1 rfl) ?_
  refine lv_iconst (v := nI 1) hx hcd dL_law_419 (by decide) ?_
  refine w_iadd (v := nI (i + 1)) hx hcd dL_law_420 (nI_add _ _) ?_
  refine va_sld hx hcd hX hbl hbA h.2.2 (vp_in_nI (n := i + 1) (by omega) (by omega)) dL_law_421 ?_
  refine lv_aload_n hx hcd dL_law_422 rfl (lv_at hl 6 rfl) ?_
  refine lv_iload hx hcd dL_law_423 (lv_at hl 1 rfl) ?_
  refine lv_iconst (v := nI 2) hx hcd dL_law_425 (by decide) ?_
  refine w_iadd (v := nI (i + 2)) hx hcd dL_law_426 (nI_add _ _) ?_
  refine va_sld hx hcd hX hbl hbA h.2.2 (vp_in_nI (n := i + 2) (by omega) (by omega)) dL_law_427 ?_
  refine fk_Vi (As := [.int (xs (nI (i + 1)).toNatClampNeg), .int (xs (nI (i + 2)).toNatClampNeg)]) (rest := []) (b := eX V 500) G hC hB hV h (met_X4_block l _ M B hg hA.1 0 sz hXX.2.1 (by decide) hH.2.2.2.2.2.1 hH.2.2.2.1 (xs (nI (i + 1)).toNatClampNeg) (xs (nI (i + 2)).toNatClampNeg)) mw_1583 (show kV yX4_block cX4_block 3 (some .int) 2 from ⟨mw_1584, mw_1585, mw_64, mw_1586, by decide, by decide, by decide +kernel⟩) ⟨rfl, rfl⟩ ⟨by show 3 + 1 ≤ R.frames; omega, by show 8 + (3 + 11) + 68 ≤ R.locals; omega⟩ (r_M hC h) rfl rfl hl.1 (Nat.le_of_ble_eq_true rfl) dL_law_428 ⟨by omega, by omega⟩ (fun r2 u2 H locs hq h => ?_)
  refine lv_istore (lv' := [(7, .int r2), (6, .int k), (5, .int (nI i)), (4, .ref (eX V 601)), (3, .ref (eX V 600)), (2, .ref (eX V 500)), (1, .ref (eX V 96)), (0, .ref b)]) hx hcd dL_law_431 hl (by decide) rfl (fun ls hl => ?_)
  have key : u2.1 3 = k ∧ (k = nI 0 → u.2 0 = r2.toInt64) ∧ rel (n + 1) u.1 u2 := by
    rcases hp with ⟨hk0, r, hp1, hu⟩ | ⟨hk0, hp1⟩ | ⟨hk0, hp1⟩ | ⟨hk0, hp1⟩ | ⟨hk0, hp1⟩
    · obtain ⟨q1, q2, q3⟩ := hcs.1 _ _ _ _ hp1 hq
      exact ⟨q1.trans hk0.symm, fun _ => by rw [hu, ← q2]; rfl, q3⟩
    · have q := hcs.2 _ _ _ _ hp1 hq
      rcases q with ⟨q1, q2, q3⟩ | ⟨q1, q2, q3⟩ | ⟨q1, q2, q3⟩ | ⟨q1, q2, q3⟩
      · exact ⟨q2.trans hk0.symm, fun z => absurd (hk0.symm.trans z) (by decide), q3⟩
      · exact absurd q1 (by decide)
      · exact absurd q1 (by decide)
      · exact absurd q1 (by decide)
    · have q := hcs.2 _ _ _ _ hp1 hq
      rcases q with ⟨q1, q2, q3⟩ | ⟨q1, q2, q3⟩ | ⟨q1, q2, q3⟩ | ⟨q1, q2, q3⟩
      · exact absurd q1 (by decide)
      · exact ⟨q2.trans hk0.symm, fun z => absurd (hk0.symm.trans z) (by decide), q3⟩
      · exact absurd q1 (by decide)
      · exact absurd q1 (by decide)
    · have q := hcs.2 _ _ _ _ hp1 hq
      rcases q with ⟨q1, q2, q3⟩ | ⟨q1, q2, q3⟩ | ⟨q1, q2, q3⟩ | ⟨q1, q2, q3⟩
      · exact absurd q1 (by decide)
      · exact absurd q1 (by decide)
      · exact ⟨q2.trans hk0.symm, fun z => absurd (hk0.symm.trans z) (by decide), q3⟩
      · exact absurd q1 (by decide)
    · have q := hcs.2 _ _ _ _ hp1 hq
      rcases q with ⟨q1, q2, q3⟩ | ⟨q1, q2, q3⟩ | ⟨q1, q2, q3⟩ | ⟨q1, q2, q3⟩
      · exact absurd q1 (by decide)
      · exact absurd q1 (by decide)
      · exact absurd q1 (by decide)
      · exact ⟨q2.trans hk0.symm, fun z => absurd (hk0.symm.trans z) (by decide), q3⟩
  obtain ⟨k1, k2, k3⟩ := key
  exact lt_i (t1 := 444) (t2 := 461) (t3 := 2868) hV G hC hB mw_1531 h hl k1 k2 (by omega) (by omega) (by omega) (by omega) dL_law_433 dL_law_434 dL_law_437 dL_law_439 (by decide) dL_law_444 dL_law_446 (by decide) dL_law_449 dL_law_450 dL_law_451 dL_law_452 dL_law_454 dL_law_455 dL_law_456 (by decide) dL_law_461 (by decide) (fun H locs ls h hl => kk _ _ _ _ H locs ls _ _ k3 h hl (by omega) (by omega))
set_option maxHeartbeats 4000000 in
set_option maxRecDepth 100000 in
theorem lc_3_unblock (hst : l.stackTraces = false) (hV : kOk V) (G : CallFix p m c cL_law 9 s args LW RL) (hC : cSt V s) (hB : eB V ≤ s.heap.size) (hX : va_X b LN xs s s.heap) (hbl : b < s.heap.size) (hbA : ¬ eA V b) (hn : n ≤ 600) (hr : rel n S M) (h : cH V s H locs (LWs V S M O OD)) (hi : i + 3 ≤ LN) (hLN : LN ≤ 1536) (hl : lv_has ls 9 (lv0 V b i)) (hRf : 30 ≤ R.frames) (hRl : 1500 ≤ R.locals) (hc : cells + 24 ≤ R.cells) (hs : slots + 3000 ≤ R.slots)
    (kk : ∀ (S : kCs) (M : kMs) (O : Nat → Int64) (OD : Nat → UInt64) (H : Heap) (locs : List Loc) (ls : Array Slot) (cells1 slots1 : Nat), rel (n + 1) S M → cH V s H locs (LWs V S M O OD) → lv_has ls 9 (lv0 V b i) → cells1 ≤ cells + 24 → slots1 ≤ slots + 3000 → W p l e R s m args below meth c H locs cells1 slots1 Q (F0 m 2868 ls [])) : W p l e R s m args below meth c H locs cells slots Q (F0 m 464 ls []) := by
  have hx := G.1
  have hcd := G.2.1
  obtain ⟨B, nx, sz, L0, L, ep, fp, s0, hd⟩ := hr
  obtain ⟨e1, hA, hg, hH, hSs, hLL, hTT, hEE, hXX⟩ := id hd
  obtain ⟨f0, hf0⟩ := hXX.2.2.1
  obtain ⟨g0, hg0⟩ := hXX.2.2.2.1
  obtain ⟨pp, hpp⟩ := hXX.2.2.2.2.1
  obtain ⟨cm, hcm⟩ := hXX.2.2.2.2.2.1
  obtain ⟨sg, hsg, hsg2⟩ := hLL.2.2.2
  have hx5 : nx < 60000 := by have := hH.2.2.1; omega
  have eS : setB S 0 B = S := rel_S hd
  replace h : cH V s H locs (LWs V (setB S 0 B) M O OD) := by rw [eS]; exact h
  refine lv_aload_n hx hcd dL_law_464 rfl (lv_at hl 4 rfl) ?_
  refine lv_aload_n hx hcd dL_law_465 rfl (lv_at hl 5 rfl) ?_
  refine lv_iload hx hcd dL_law_466 (lv_at hl 0 rfl) ?_
  refine lv_iconst (v := nI 1) hx hcd dL_law_468 (by decide) ?_
  refine w_iadd (v := nI (i + 1)) hx hcd dL_law_469 (nI_add _ _) ?_
  refine va_sld hx hcd hX hbl hbA h.2.2 (vp_in_nI (n := i + 1) (by omega) (by omega)) dL_law_470 ?_
  refine lv_aload_n hx hcd dL_law_471 rfl (lv_at hl 5 rfl) ?_
  refine lv_iload hx hcd dL_law_472 (lv_at hl 0 rfl) ?_
  refine lv_iconst (v := nI 2) hx hcd dL_law_474 (by decide) ?_
  refine w_iadd (v := nI (i + 2)) hx hcd dL_law_475 (nI_add _ _) ?_
  refine va_sld hx hcd hX hbl hbA h.2.2 (vp_in_nI (n := i + 2) (by omega) (by omega)) dL_law_476 ?_
  refine lv_aload_n hx hcd dL_law_477 rfl (lv_at hl 2 rfl) ?_
  replace h := cH_f h
  have hcs := cs_unblock (x := (xs (nI (i + 1)).toNatClampNeg)) (y := (xs (nI (i + 2)).toNatClampNeg)) hd
  refine lw_S (F := lwF V) (u0 := (setB S 0 B, O)) (As := [.ref (eX V 96), .int (xs (nI (i + 1)).toNatClampNeg), .int (xs (nI (i + 2)).toNatClampNeg), .ref (eX V 600)]) (rest := []) G hC hB hV h (met_L_unblock l _ (frV_ok _ _ _) (setB S 0 B) O (xs (nI (i + 1)).toNatClampNeg) (xs (nI (i + 2)).toNatClampNeg) (fun ws n => met_X3_unblock l hst _ S B hA.1 nx sz hH.1 hH.2.1 hx5 hH.2.2.2.1 (hXX.1 _ (by omega)) (xs (nI (i + 1)).toNatClampNeg) (xs (nI (i + 2)).toNatClampNeg)) (fun E u hp => ?hE)) mw_919 (show kSw yL_unblock cL_unblock 5 [(0, 10, 13, 21), (0, 10, 17, 15)] 4 from ⟨mw_920, mw_55, mw_921, by decide, by decide, by decide +kernel⟩) ⟨rfl, rfl⟩ ⟨by show 9 + 1 ≤ R.frames; omega, by show 8 + (5 + 11) + 153 ≤ R.locals; omega⟩ rfl rfl hl.1 (Nat.le_of_ble_eq_true rfl) dL_law_478 ⟨by omega, by omega⟩ (fun k u H locs hp h => ?_)
  case hE =>
    rcases hp with ⟨e0, -⟩ | ⟨_, -, -, e0, -⟩ | ⟨_, _, -, -, -, -, e0, -⟩
    · exact Or.inl e0
    · exact Or.inl e0
    · exact Or.inr (e0)
  refine lv_istore (lv' := [(6, .int k), (5, .int (nI i)), (4, .ref (eX V 601)), (3, .ref (eX V 600)), (2, .ref (eX V 500)), (1, .ref (eX V 96)), (0, .ref b)]) hx hcd dL_law_481 hl (by decide) rfl (fun ls hl => ?_)
  replace h := cH_m h
  refine lv_aload_n hx hcd dL_law_483 rfl (lv_at hl 4 rfl) ?_
  refine lv_aload_n hx hcd dL_law_484 rfl (lv_at hl 6 rfl) ?_
  refine lv_iload hx hcd dL_law_485 (lv_at hl 1 rfl) ?_
  refine lv_iconst (v := nI 1) hx hcd dL_law_487 (by decide) ?_
  refine w_iadd (v := nI (i + 1)) hx hcd dL_law_488 (nI_add _ _) ?_
  refine va_sld hx hcd hX hbl hbA h.2.2 (vp_in_nI (n := i + 1) (by omega) (by omega)) dL_law_489 ?_
  refine lv_aload_n hx hcd dL_law_490 rfl (lv_at hl 6 rfl) ?_
  refine lv_iload hx hcd dL_law_491 (lv_at hl 1 rfl) ?_
  refine lv_iconst (v := nI 2) hx hcd dL_law_493 (by decide) ?_
  refine w_iadd (v := nI (i + 2)) hx hcd dL_law_494 (nI_add _ _) ?_
  refine va_sld hx hcd hX hbl hbA h.2.2 (vp_in_nI (n := i + 2) (by omega) (by omega)) dL_law_495 ?_
  refine fk_Vi (As := [.int (xs (nI (i + 1)).toNatClampNeg), .int (xs (nI (i + 2)).toNatClampNeg)]) (rest := []) (b := eX V 500) G hC hB hV h (met_X4_unblock l _ M B hg hA.1 0 sz hXX.2.1 (by decide) hH.2.2.2.2.2.1 hH.2.2.2.1 (xs (nI (i + 1)).toNatClampNeg) (xs (nI (i + 2)).toNatClampNeg)) mw_1607 (show kV yX4_unblock cX4_unblock 3 (some .int) 2 from ⟨mw_1608, mw_1609, mw_64, mw_1610, by decide, by decide, by decide +kernel⟩) ⟨rfl, rfl⟩ ⟨by show 3 + 1 ≤ R.frames; omega, by show 8 + (3 + 11) + 67 ≤ R.locals; omega⟩ (r_M hC h) rfl rfl hl.1 (Nat.le_of_ble_eq_true rfl) dL_law_496 ⟨by omega, by omega⟩ (fun r2 u2 H locs hq h => ?_)
  refine lv_istore (lv' := [(7, .int r2), (6, .int k), (5, .int (nI i)), (4, .ref (eX V 601)), (3, .ref (eX V 600)), (2, .ref (eX V 500)), (1, .ref (eX V 96)), (0, .ref b)]) hx hcd dL_law_499 hl (by decide) rfl (fun ls hl => ?_)
  have key : u2.1 3 = k ∧ (k = nI 0 → u.2 0 = r2.toInt64) ∧ rel (n + 1) u.1 u2 := by
    rcases hp with ⟨hk0, r, hp1, hu⟩ | ⟨hk0, hp1⟩ | ⟨hk0, hp1⟩
    · obtain ⟨q1, q2, q3⟩ := hcs.1 _ _ _ _ hp1 hq
      exact ⟨q1.trans hk0.symm, fun _ => by rw [hu, ← q2]; rfl, q3⟩
    · have q := hcs.2 _ _ _ _ hp1 hq
      rcases q with ⟨q1, q2, q3⟩ | ⟨q1, q2, q3⟩
      · exact ⟨q2.trans hk0.symm, fun z => absurd (hk0.symm.trans z) (by decide), q3⟩
      · exact absurd q1 (by decide)
    · have q := hcs.2 _ _ _ _ hp1 hq
      rcases q with ⟨q1, q2, q3⟩ | ⟨q1, q2, q3⟩
      · exact absurd q1 (by decide)
      · exact ⟨q2.trans hk0.symm, fun z => absurd (hk0.symm.trans z) (by decide), q3⟩
  obtain ⟨k1, k2, k3⟩ := key
  exact lt_i (t1 := 512) (t2 := 529) (t3 := 2868) hV G hC hB mw_1531 h hl k1 k2 (by omega) (by omega) (by omega) (by omega) dL_law_501 dL_law_502 dL_law_505 dL_law_507 (by decide) dL_law_512 dL_law_514 (by decide) dL_law_517 dL_law_518 dL_law_519 dL_law_520 dL_law_522 dL_law_523 dL_law_524 (by decide) dL_law_529 (by decide) (fun H locs ls h hl => kk _ _ _ _ H locs ls _ _ k3 h hl (by omega) (by omega))
set_option maxHeartbeats 4000000 in
set_option maxRecDepth 100000 in
theorem lc_5_estimateOf (hst : l.stackTraces = false) (hV : kOk V) (G : CallFix p m c cL_law 9 s args LW RL) (hC : cSt V s) (hB : eB V ≤ s.heap.size) (hX : va_X b LN xs s s.heap) (hbl : b < s.heap.size) (hbA : ¬ eA V b) (hn : n ≤ 600) (hr : rel n S M) (h : cH V s H locs (LWs V S M O OD)) (hi : i + 3 ≤ LN) (hLN : LN ≤ 1536) (hl : lv_has ls 9 (lv0 V b i)) (hRf : 30 ≤ R.frames) (hRl : 1500 ≤ R.locals) (hc : cells + 24 ≤ R.cells) (hs : slots + 3000 ≤ R.slots)
    (kk : ∀ (S : kCs) (M : kMs) (O : Nat → Int64) (OD : Nat → UInt64) (H : Heap) (locs : List Loc) (ls : Array Slot) (cells1 slots1 : Nat), rel (n + 1) S M → cH V s H locs (LWs V S M O OD) → lv_has ls 9 (lv0 V b i) → cells1 ≤ cells + 24 → slots1 ≤ slots + 3000 → W p l e R s m args below meth c H locs cells1 slots1 Q (F0 m 2868 ls [])) : W p l e R s m args below meth c H locs cells slots Q (F0 m 545 ls []) := by
  have hx := G.1
  have hcd := G.2.1
  obtain ⟨B, nx, sz, L0, L, ep, fp, s0, hd⟩ := hr
  obtain ⟨e1, hA, hg, hH, hSs, hLL, hTT, hEE, hXX⟩ := id hd
  obtain ⟨f0, hf0⟩ := hXX.2.2.1
  obtain ⟨g0, hg0⟩ := hXX.2.2.2.1
  obtain ⟨pp, hpp⟩ := hXX.2.2.2.2.1
  obtain ⟨cm, hcm⟩ := hXX.2.2.2.2.2.1
  obtain ⟨sg, hsg, hsg2⟩ := hLL.2.2.2
  have hx5 : nx < 60000 := by have := hH.2.2.1; omega
  have eS : setB S 0 B = S := rel_S hd
  replace h : cH V s H locs (LWs V (setB S 0 B) M O OD) := by rw [eS]; exact h
  refine lv_aload_n hx hcd dL_law_545 rfl (lv_at hl 4 rfl) ?_
  refine lv_aload_n hx hcd dL_law_546 rfl (lv_at hl 5 rfl) ?_
  refine lv_iload hx hcd dL_law_547 (lv_at hl 0 rfl) ?_
  refine lv_iconst (v := nI 1) hx hcd dL_law_549 (by decide) ?_
  refine w_iadd (v := nI (i + 1)) hx hcd dL_law_550 (nI_add _ _) ?_
  refine va_sld hx hcd hX hbl hbA h.2.2 (vp_in_nI (n := i + 1) (by omega) (by omega)) dL_law_551 ?_
  refine lv_aload_n hx hcd dL_law_552 rfl (lv_at hl 2 rfl) ?_
  replace h := cH_f h
  have hcs := cs_estimateOf (x := (xs (nI (i + 1)).toNatClampNeg)) hd
  refine lw_S (F := lwF V) (u0 := (setB S 0 B, O)) (As := [.ref (eX V 96), .int (xs (nI (i + 1)).toNatClampNeg), .ref (eX V 600)]) (rest := []) G hC hB hV h (met_L_estimateOf l _ (frV_ok _ _ _) (setB S 0 B) O (xs (nI (i + 1)).toNatClampNeg) (fun ws n => met_X3_estimateOf l hst _ S B hA.1 (xs (nI (i + 1)).toNatClampNeg)) (fun E u hp => ?hE)) mw_934 (show kSw yL_estimateOf cL_estimateOf 4 [(0, 9, 12, 21)] 3 from ⟨mw_935, mw_55, mw_936, by decide, by decide, by decide +kernel⟩) ⟨rfl, rfl⟩ ⟨by show 9 + 1 ≤ R.frames; omega, by show 8 + (4 + 11) + 152 ≤ R.locals; omega⟩ rfl rfl hl.1 (Nat.le_of_ble_eq_true rfl) dL_law_553 ⟨by omega, by omega⟩ (fun k u H locs hp h => ?_)
  case hE =>
    rcases hp with ⟨e0, -⟩
    · exact e0
  refine lv_istore (lv' := [(6, .int k), (5, .int (nI i)), (4, .ref (eX V 601)), (3, .ref (eX V 600)), (2, .ref (eX V 500)), (1, .ref (eX V 96)), (0, .ref b)]) hx hcd dL_law_556 hl (by decide) rfl (fun ls hl => ?_)
  replace h := cH_m h
  refine lv_aload_n hx hcd dL_law_558 rfl (lv_at hl 4 rfl) ?_
  refine lv_aload_n hx hcd dL_law_559 rfl (lv_at hl 6 rfl) ?_
  refine lv_iload hx hcd dL_law_560 (lv_at hl 1 rfl) ?_
  refine lv_iconst (v := nI 1) hx hcd dL_law_562 (by decide) ?_
  refine w_iadd (v := nI (i + 1)) hx hcd dL_law_563 (nI_add _ _) ?_
  refine va_sld hx hcd hX hbl hbA h.2.2 (vp_in_nI (n := i + 1) (by omega) (by omega)) dL_law_564 ?_
  refine fk_Vi (As := [.int (xs (nI (i + 1)).toNatClampNeg)]) (rest := []) (b := eX V 500) G hC hB hV h (met_X4_estimateOf l _ M B hg hA.1 (xs (nI (i + 1)).toNatClampNeg)) mw_1615 (show kV yX4_estimateOf cX4_estimateOf 2 (some .int) 1 from ⟨mw_1616, mw_1617, mw_64, mw_1618, by decide, by decide, by decide +kernel⟩) ⟨rfl, rfl⟩ ⟨by show 3 + 1 ≤ R.frames; omega, by show 8 + (2 + 11) + 64 ≤ R.locals; omega⟩ (r_M hC h) rfl rfl hl.1 (Nat.le_of_ble_eq_true rfl) dL_law_565 ⟨by omega, by omega⟩ (fun r2 u2 H locs hq h => ?_)
  refine lv_istore (lv' := [(7, .int r2), (6, .int k), (5, .int (nI i)), (4, .ref (eX V 601)), (3, .ref (eX V 600)), (2, .ref (eX V 500)), (1, .ref (eX V 96)), (0, .ref b)]) hx hcd dL_law_568 hl (by decide) rfl (fun ls hl => ?_)
  have key : u2.1 3 = k ∧ (k = nI 0 → u.2 0 = r2.toInt64) ∧ rel (n + 1) u.1 u2 := by
    rcases hp with ⟨hk0, r, hp1, hu⟩ | ⟨hk0, hp1⟩
    · obtain ⟨q1, q2, q3⟩ := hcs.1 _ _ _ _ hp1 hq
      exact ⟨q1.trans hk0.symm, fun _ => by rw [hu, ← q2]; rfl, q3⟩
    · have q := hcs.2 _ _ _ _ hp1 hq
      exact ⟨q.2.1.trans hk0.symm, fun z => absurd (hk0.symm.trans z) (by decide), q.2.2⟩
  obtain ⟨k1, k2, k3⟩ := key
  exact lt_i (t1 := 581) (t2 := 598) (t3 := 2868) hV G hC hB mw_1531 h hl k1 k2 (by omega) (by omega) (by omega) (by omega) dL_law_570 dL_law_571 dL_law_574 dL_law_576 (by decide) dL_law_581 dL_law_583 (by decide) dL_law_586 dL_law_587 dL_law_588 dL_law_589 dL_law_591 dL_law_592 dL_law_593 (by decide) dL_law_598 (by decide) (fun H locs ls h hl => kk _ _ _ _ H locs ls _ _ k3 h hl (by omega) (by omega))
set_option maxHeartbeats 4000000 in
set_option maxRecDepth 100000 in
theorem lc_6_leftOf (hst : l.stackTraces = false) (hV : kOk V) (G : CallFix p m c cL_law 9 s args LW RL) (hC : cSt V s) (hB : eB V ≤ s.heap.size) (hX : va_X b LN xs s s.heap) (hbl : b < s.heap.size) (hbA : ¬ eA V b) (hn : n ≤ 600) (hr : rel n S M) (h : cH V s H locs (LWs V S M O OD)) (hi : i + 3 ≤ LN) (hLN : LN ≤ 1536) (hl : lv_has ls 9 (lv0 V b i)) (hRf : 30 ≤ R.frames) (hRl : 1500 ≤ R.locals) (hc : cells + 24 ≤ R.cells) (hs : slots + 3000 ≤ R.slots)
    (kk : ∀ (S : kCs) (M : kMs) (O : Nat → Int64) (OD : Nat → UInt64) (H : Heap) (locs : List Loc) (ls : Array Slot) (cells1 slots1 : Nat), rel (n + 1) S M → cH V s H locs (LWs V S M O OD) → lv_has ls 9 (lv0 V b i) → cells1 ≤ cells + 24 → slots1 ≤ slots + 3000 → W p l e R s m args below meth c H locs cells1 slots1 Q (F0 m 2868 ls [])) : W p l e R s m args below meth c H locs cells slots Q (F0 m 601 ls []) := by
  have hx := G.1
  have hcd := G.2.1
  obtain ⟨B, nx, sz, L0, L, ep, fp, s0, hd⟩ := hr
  obtain ⟨e1, hA, hg, hH, hSs, hLL, hTT, hEE, hXX⟩ := id hd
  obtain ⟨f0, hf0⟩ := hXX.2.2.1
  obtain ⟨g0, hg0⟩ := hXX.2.2.2.1
  obtain ⟨pp, hpp⟩ := hXX.2.2.2.2.1
  obtain ⟨cm, hcm⟩ := hXX.2.2.2.2.2.1
  obtain ⟨sg, hsg, hsg2⟩ := hLL.2.2.2
  have hx5 : nx < 60000 := by have := hH.2.2.1; omega
  have eS : setB S 0 B = S := rel_S hd
  replace h : cH V s H locs (LWs V (setB S 0 B) M O OD) := by rw [eS]; exact h
  refine lv_aload_n hx hcd dL_law_601 rfl (lv_at hl 4 rfl) ?_
  refine lv_aload_n hx hcd dL_law_602 rfl (lv_at hl 5 rfl) ?_
  refine lv_iload hx hcd dL_law_603 (lv_at hl 0 rfl) ?_
  refine lv_iconst (v := nI 1) hx hcd dL_law_605 (by decide) ?_
  refine w_iadd (v := nI (i + 1)) hx hcd dL_law_606 (nI_add _ _) ?_
  refine va_sld hx hcd hX hbl hbA h.2.2 (vp_in_nI (n := i + 1) (by omega) (by omega)) dL_law_607 ?_
  refine lv_aload_n hx hcd dL_law_608 rfl (lv_at hl 2 rfl) ?_
  replace h := cH_f h
  have hcs := cs_leftOf (x := (xs (nI (i + 1)).toNatClampNeg)) hd
  refine lw_S (F := lwF V) (u0 := (setB S 0 B, O)) (As := [.ref (eX V 96), .int (xs (nI (i + 1)).toNatClampNeg), .ref (eX V 600)]) (rest := []) G hC hB hV h (met_L_leftOf l _ (frV_ok _ _ _) (setB S 0 B) O (xs (nI (i + 1)).toNatClampNeg) (fun ws n => met_X3_leftOf l hst _ S B hA.1 (xs (nI (i + 1)).toNatClampNeg)) (fun E u hp => ?hE)) mw_941 (show kSw yL_leftOf cL_leftOf 4 [(0, 9, 12, 21)] 3 from ⟨mw_942, mw_55, mw_943, by decide, by decide, by decide +kernel⟩) ⟨rfl, rfl⟩ ⟨by show 9 + 1 ≤ R.frames; omega, by show 8 + (4 + 11) + 152 ≤ R.locals; omega⟩ rfl rfl hl.1 (Nat.le_of_ble_eq_true rfl) dL_law_609 ⟨by omega, by omega⟩ (fun k u H locs hp h => ?_)
  case hE =>
    rcases hp with ⟨e0, -⟩
    · exact e0
  refine lv_istore (lv' := [(6, .int k), (5, .int (nI i)), (4, .ref (eX V 601)), (3, .ref (eX V 600)), (2, .ref (eX V 500)), (1, .ref (eX V 96)), (0, .ref b)]) hx hcd dL_law_612 hl (by decide) rfl (fun ls hl => ?_)
  replace h := cH_m h
  refine lv_aload_n hx hcd dL_law_614 rfl (lv_at hl 4 rfl) ?_
  refine lv_aload_n hx hcd dL_law_615 rfl (lv_at hl 6 rfl) ?_
  refine lv_iload hx hcd dL_law_616 (lv_at hl 1 rfl) ?_
  refine lv_iconst (v := nI 1) hx hcd dL_law_618 (by decide) ?_
  refine w_iadd (v := nI (i + 1)) hx hcd dL_law_619 (nI_add _ _) ?_
  refine va_sld hx hcd hX hbl hbA h.2.2 (vp_in_nI (n := i + 1) (by omega) (by omega)) dL_law_620 ?_
  refine fk_Vi (As := [.int (xs (nI (i + 1)).toNatClampNeg)]) (rest := []) (b := eX V 500) G hC hB hV h (met_X4_leftOf l _ M B hg hA.1 (xs (nI (i + 1)).toNatClampNeg)) mw_1623 (show kV yX4_leftOf cX4_leftOf 2 (some .int) 1 from ⟨mw_1624, mw_1625, mw_64, mw_1626, by decide, by decide, by decide +kernel⟩) ⟨rfl, rfl⟩ ⟨by show 3 + 1 ≤ R.frames; omega, by show 8 + (2 + 11) + 64 ≤ R.locals; omega⟩ (r_M hC h) rfl rfl hl.1 (Nat.le_of_ble_eq_true rfl) dL_law_621 ⟨by omega, by omega⟩ (fun r2 u2 H locs hq h => ?_)
  refine lv_istore (lv' := [(7, .int r2), (6, .int k), (5, .int (nI i)), (4, .ref (eX V 601)), (3, .ref (eX V 600)), (2, .ref (eX V 500)), (1, .ref (eX V 96)), (0, .ref b)]) hx hcd dL_law_624 hl (by decide) rfl (fun ls hl => ?_)
  have key : u2.1 3 = k ∧ (k = nI 0 → u.2 0 = r2.toInt64) ∧ rel (n + 1) u.1 u2 := by
    rcases hp with ⟨hk0, r, hp1, hu⟩ | ⟨hk0, hp1⟩
    · obtain ⟨q1, q2, q3⟩ := hcs.1 _ _ _ _ hp1 hq
      exact ⟨q1.trans hk0.symm, fun _ => by rw [hu, ← q2]; rfl, q3⟩
    · have q := hcs.2 _ _ _ _ hp1 hq
      exact ⟨q.2.1.trans hk0.symm, fun z => absurd (hk0.symm.trans z) (by decide), q.2.2⟩
  obtain ⟨k1, k2, k3⟩ := key
  exact lt_i (t1 := 637) (t2 := 654) (t3 := 2868) hV G hC hB mw_1531 h hl k1 k2 (by omega) (by omega) (by omega) (by omega) dL_law_626 dL_law_627 dL_law_630 dL_law_632 (by decide) dL_law_637 dL_law_639 (by decide) dL_law_642 dL_law_643 dL_law_644 dL_law_645 dL_law_647 dL_law_648 dL_law_649 (by decide) dL_law_654 (by decide) (fun H locs ls h hl => kk _ _ _ _ H locs ls _ _ k3 h hl (by omega) (by omega))
set_option maxHeartbeats 4000000 in
set_option maxRecDepth 100000 in
theorem lc_7_workedOn (hst : l.stackTraces = false) (hV : kOk V) (G : CallFix p m c cL_law 9 s args LW RL) (hC : cSt V s) (hB : eB V ≤ s.heap.size) (hX : va_X b LN xs s s.heap) (hbl : b < s.heap.size) (hbA : ¬ eA V b) (hn : n ≤ 600) (hr : rel n S M) (h : cH V s H locs (LWs V S M O OD)) (hi : i + 3 ≤ LN) (hLN : LN ≤ 1536) (hl : lv_has ls 9 (lv0 V b i)) (hRf : 30 ≤ R.frames) (hRl : 1500 ≤ R.locals) (hc : cells + 24 ≤ R.cells) (hs : slots + 3000 ≤ R.slots)
    (kk : ∀ (S : kCs) (M : kMs) (O : Nat → Int64) (OD : Nat → UInt64) (H : Heap) (locs : List Loc) (ls : Array Slot) (cells1 slots1 : Nat), rel (n + 1) S M → cH V s H locs (LWs V S M O OD) → lv_has ls 9 (lv0 V b i) → cells1 ≤ cells + 24 → slots1 ≤ slots + 3000 → W p l e R s m args below meth c H locs cells1 slots1 Q (F0 m 2868 ls [])) : W p l e R s m args below meth c H locs cells slots Q (F0 m 657 ls []) := by
  have hx := G.1
  have hcd := G.2.1
  obtain ⟨B, nx, sz, L0, L, ep, fp, s0, hd⟩ := hr
  obtain ⟨e1, hA, hg, hH, hSs, hLL, hTT, hEE, hXX⟩ := id hd
  obtain ⟨f0, hf0⟩ := hXX.2.2.1
  obtain ⟨g0, hg0⟩ := hXX.2.2.2.1
  obtain ⟨pp, hpp⟩ := hXX.2.2.2.2.1
  obtain ⟨cm, hcm⟩ := hXX.2.2.2.2.2.1
  obtain ⟨sg, hsg, hsg2⟩ := hLL.2.2.2
  have hx5 : nx < 60000 := by have := hH.2.2.1; omega
  have eS : setB S 0 B = S := rel_S hd
  replace h : cH V s H locs (LWs V (setB S 0 B) M O OD) := by rw [eS]; exact h
  refine lv_aload_n hx hcd dL_law_657 rfl (lv_at hl 4 rfl) ?_
  refine lv_aload_n hx hcd dL_law_658 rfl (lv_at hl 5 rfl) ?_
  refine lv_iload hx hcd dL_law_659 (lv_at hl 0 rfl) ?_
  refine lv_iconst (v := nI 1) hx hcd dL_law_661 (by decide) ?_
  refine w_iadd (v := nI (i + 1)) hx hcd dL_law_662 (nI_add _ _) ?_
  refine va_sld hx hcd hX hbl hbA h.2.2 (vp_in_nI (n := i + 1) (by omega) (by omega)) dL_law_663 ?_
  refine lv_aload_n hx hcd dL_law_664 rfl (lv_at hl 2 rfl) ?_
  replace h := cH_f h
  have hcs := cs_workedOn (x := (xs (nI (i + 1)).toNatClampNeg)) hd
  refine lw_S (F := lwF V) (u0 := (setB S 0 B, O)) (As := [.ref (eX V 96), .int (xs (nI (i + 1)).toNatClampNeg), .ref (eX V 600)]) (rest := []) G hC hB hV h (met_L_workedOn l _ (frV_ok _ _ _) (setB S 0 B) O (xs (nI (i + 1)).toNatClampNeg) (fun ws n => met_X3_workedOn l hst _ S B hA.1 (xs (nI (i + 1)).toNatClampNeg)) (fun E u hp => ?hE)) mw_948 (show kSw yL_workedOn cL_workedOn 4 [(0, 9, 12, 21)] 3 from ⟨mw_949, mw_55, mw_950, by decide, by decide, by decide +kernel⟩) ⟨rfl, rfl⟩ ⟨by show 9 + 1 ≤ R.frames; omega, by show 8 + (4 + 11) + 152 ≤ R.locals; omega⟩ rfl rfl hl.1 (Nat.le_of_ble_eq_true rfl) dL_law_665 ⟨by omega, by omega⟩ (fun k u H locs hp h => ?_)
  case hE =>
    rcases hp with ⟨e0, -⟩
    · exact e0
  refine lv_istore (lv' := [(6, .int k), (5, .int (nI i)), (4, .ref (eX V 601)), (3, .ref (eX V 600)), (2, .ref (eX V 500)), (1, .ref (eX V 96)), (0, .ref b)]) hx hcd dL_law_668 hl (by decide) rfl (fun ls hl => ?_)
  replace h := cH_m h
  refine lv_aload_n hx hcd dL_law_670 rfl (lv_at hl 4 rfl) ?_
  refine lv_aload_n hx hcd dL_law_671 rfl (lv_at hl 6 rfl) ?_
  refine lv_iload hx hcd dL_law_672 (lv_at hl 1 rfl) ?_
  refine lv_iconst (v := nI 1) hx hcd dL_law_674 (by decide) ?_
  refine w_iadd (v := nI (i + 1)) hx hcd dL_law_675 (nI_add _ _) ?_
  refine va_sld hx hcd hX hbl hbA h.2.2 (vp_in_nI (n := i + 1) (by omega) (by omega)) dL_law_676 ?_
  refine fk_Vi (As := [.int (xs (nI (i + 1)).toNatClampNeg)]) (rest := []) (b := eX V 500) G hC hB hV h (met_X4_workedOn l _ M B hg hA.1 (xs (nI (i + 1)).toNatClampNeg)) mw_1627 (show kV yX4_workedOn cX4_workedOn 2 (some .int) 1 from ⟨mw_1628, mw_1629, mw_64, mw_1630, by decide, by decide, by decide +kernel⟩) ⟨rfl, rfl⟩ ⟨by show 3 + 1 ≤ R.frames; omega, by show 8 + (2 + 11) + 64 ≤ R.locals; omega⟩ (r_M hC h) rfl rfl hl.1 (Nat.le_of_ble_eq_true rfl) dL_law_677 ⟨by omega, by omega⟩ (fun r2 u2 H locs hq h => ?_)
  refine lv_istore (lv' := [(7, .int r2), (6, .int k), (5, .int (nI i)), (4, .ref (eX V 601)), (3, .ref (eX V 600)), (2, .ref (eX V 500)), (1, .ref (eX V 96)), (0, .ref b)]) hx hcd dL_law_680 hl (by decide) rfl (fun ls hl => ?_)
  have key : u2.1 3 = k ∧ (k = nI 0 → u.2 0 = r2.toInt64) ∧ rel (n + 1) u.1 u2 := by
    rcases hp with ⟨hk0, r, hp1, hu⟩ | ⟨hk0, hp1⟩
    · obtain ⟨q1, q2, q3⟩ := hcs.1 _ _ _ _ hp1 hq
      exact ⟨q1.trans hk0.symm, fun _ => by rw [hu, ← q2]; rfl, q3⟩
    · have q := hcs.2 _ _ _ _ hp1 hq
      exact ⟨q.2.1.trans hk0.symm, fun z => absurd (hk0.symm.trans z) (by decide), q.2.2⟩
  obtain ⟨k1, k2, k3⟩ := key
  exact lt_i (t1 := 693) (t2 := 710) (t3 := 2868) hV G hC hB mw_1531 h hl k1 k2 (by omega) (by omega) (by omega) (by omega) dL_law_682 dL_law_683 dL_law_686 dL_law_688 (by decide) dL_law_693 dL_law_695 (by decide) dL_law_698 dL_law_699 dL_law_700 dL_law_701 dL_law_703 dL_law_704 dL_law_705 (by decide) dL_law_710 (by decide) (fun H locs ls h hl => kk _ _ _ _ H locs ls _ _ k3 h hl (by omega) (by omega))
set_option maxHeartbeats 4000000 in
set_option maxRecDepth 100000 in
theorem lc_8_isDone (hst : l.stackTraces = false) (hV : kOk V) (G : CallFix p m c cL_law 9 s args LW RL) (hC : cSt V s) (hB : eB V ≤ s.heap.size) (hX : va_X b LN xs s s.heap) (hbl : b < s.heap.size) (hbA : ¬ eA V b) (hn : n ≤ 600) (hr : rel n S M) (h : cH V s H locs (LWs V S M O OD)) (hi : i + 3 ≤ LN) (hLN : LN ≤ 1536) (hl : lv_has ls 9 (lv0 V b i)) (hRf : 30 ≤ R.frames) (hRl : 1500 ≤ R.locals) (hc : cells + 24 ≤ R.cells) (hs : slots + 3000 ≤ R.slots)
    (kk : ∀ (S : kCs) (M : kMs) (O : Nat → Int64) (OD : Nat → UInt64) (H : Heap) (locs : List Loc) (ls : Array Slot) (cells1 slots1 : Nat), rel (n + 1) S M → cH V s H locs (LWs V S M O OD) → lv_has ls 9 (lv0 V b i) → cells1 ≤ cells + 24 → slots1 ≤ slots + 3000 → W p l e R s m args below meth c H locs cells1 slots1 Q (F0 m 2868 ls [])) : W p l e R s m args below meth c H locs cells slots Q (F0 m 713 ls []) := by
  have hx := G.1
  have hcd := G.2.1
  obtain ⟨B, nx, sz, L0, L, ep, fp, s0, hd⟩ := hr
  obtain ⟨e1, hA, hg, hH, hSs, hLL, hTT, hEE, hXX⟩ := id hd
  obtain ⟨f0, hf0⟩ := hXX.2.2.1
  obtain ⟨g0, hg0⟩ := hXX.2.2.2.1
  obtain ⟨pp, hpp⟩ := hXX.2.2.2.2.1
  obtain ⟨cm, hcm⟩ := hXX.2.2.2.2.2.1
  obtain ⟨sg, hsg, hsg2⟩ := hLL.2.2.2
  have hx5 : nx < 60000 := by have := hH.2.2.1; omega
  have eS : setB S 0 B = S := rel_S hd
  replace h : cH V s H locs (LWs V (setB S 0 B) M O OD) := by rw [eS]; exact h
  refine lv_aload_n hx hcd dL_law_713 rfl (lv_at hl 4 rfl) ?_
  refine lv_aload_n hx hcd dL_law_714 rfl (lv_at hl 5 rfl) ?_
  refine lv_iload hx hcd dL_law_715 (lv_at hl 0 rfl) ?_
  refine lv_iconst (v := nI 1) hx hcd dL_law_717 (by decide) ?_
  refine w_iadd (v := nI (i + 1)) hx hcd dL_law_718 (nI_add _ _) ?_
  refine va_sld hx hcd hX hbl hbA h.2.2 (vp_in_nI (n := i + 1) (by omega) (by omega)) dL_law_719 ?_
  refine lv_aload_n hx hcd dL_law_720 rfl (lv_at hl 2 rfl) ?_
  replace h := cH_f h
  have hcs := cs_isDone (x := (xs (nI (i + 1)).toNatClampNeg)) hd
  refine lw_S (F := lwF V) (u0 := (setB S 0 B, O)) (As := [.ref (eX V 96), .int (xs (nI (i + 1)).toNatClampNeg), .ref (eX V 600)]) (rest := []) G hC hB hV h (met_L_isDone l _ (frV_ok _ _ _) (setB S 0 B) O (xs (nI (i + 1)).toNatClampNeg) (fun ws n => met_X3_isDone l hst _ S B hA.1 (xs (nI (i + 1)).toNatClampNeg)) (fun E u hp => ?hE)) mw_955 (show kSw yL_isDone cL_isDone 4 [(0, 16, 19, 21)] 3 from ⟨mw_956, mw_55, mw_957, by decide, by decide, by decide +kernel⟩) ⟨rfl, rfl⟩ ⟨by show 9 + 1 ≤ R.frames; omega, by show 8 + (4 + 11) + 152 ≤ R.locals; omega⟩ rfl rfl hl.1 (Nat.le_of_ble_eq_true rfl) dL_law_721 ⟨by omega, by omega⟩ (fun k u H locs hp h => ?_)
  case hE =>
    rcases hp with ⟨e0, -⟩
    · exact e0
  refine lv_istore (lv' := [(6, .int k), (5, .int (nI i)), (4, .ref (eX V 601)), (3, .ref (eX V 600)), (2, .ref (eX V 500)), (1, .ref (eX V 96)), (0, .ref b)]) hx hcd dL_law_724 hl (by decide) rfl (fun ls hl => ?_)
  replace h := cH_m h
  refine lv_aload_n hx hcd dL_law_726 rfl (lv_at hl 4 rfl) ?_
  refine lv_aload_n hx hcd dL_law_727 rfl (lv_at hl 6 rfl) ?_
  refine lv_iload hx hcd dL_law_728 (lv_at hl 1 rfl) ?_
  refine lv_iconst (v := nI 1) hx hcd dL_law_730 (by decide) ?_
  refine w_iadd (v := nI (i + 1)) hx hcd dL_law_731 (nI_add _ _) ?_
  refine va_sld hx hcd hX hbl hbA h.2.2 (vp_in_nI (n := i + 1) (by omega) (by omega)) dL_law_732 ?_
  refine fk_Vi (As := [.int (xs (nI (i + 1)).toNatClampNeg)]) (rest := []) (b := eX V 500) G hC hB hV h (met_X4_isDone l _ M B hg hA.1 (xs (nI (i + 1)).toNatClampNeg)) mw_1631 (show kV yX4_isDone cX4_isDone 2 (some .boolean) 1 from ⟨mw_1632, mw_1633, mw_64, mw_1634, by decide, by decide, by decide +kernel⟩) ⟨rfl, rfl⟩ ⟨by show 3 + 1 ≤ R.frames; omega, by show 8 + (2 + 11) + 64 ≤ R.locals; omega⟩ (r_M hC h) rfl rfl hl.1 (Nat.le_of_ble_eq_true rfl) dL_law_733 ⟨by omega, by omega⟩ (fun r2 u2 H locs hq h => ?_)
  refine lv_istore (lv' := [(7, .int r2), (6, .int k), (5, .int (nI i)), (4, .ref (eX V 601)), (3, .ref (eX V 600)), (2, .ref (eX V 500)), (1, .ref (eX V 96)), (0, .ref b)]) hx hcd dL_law_736 hl (by decide) rfl (fun ls hl => ?_)
  have key : u2.1 3 = k ∧ (k = nI 0 → u.2 0 = r2.toInt64) ∧ rel (n + 1) u.1 u2 := by
    rcases hp with ⟨hk0, r, hp1, hu⟩ | ⟨hk0, hp1⟩
    · obtain ⟨q1, q2, q3⟩ := hcs.1 _ _ _ _ hp1 hq
      have h01 : r2 = 0 ∨ r2 = 1 := by rcases hq with ⟨_, _, _, e, _⟩ | ⟨_, e, _⟩ <;> first | (rw [e]; exact bz_01 _) | exact Or.inl e
      exact ⟨q1.trans hk0.symm, fun _ => by rw [hu, q2]; rcases h01 with q | q <;> rw [q] <;> rfl, q3⟩
    · have q := hcs.2 _ _ _ _ hp1 hq
      exact ⟨q.2.1.trans hk0.symm, fun z => absurd (hk0.symm.trans z) (by decide), q.2.2⟩
  obtain ⟨k1, k2, k3⟩ := key
  exact lt_z (t1 := 749) (t2 := 773) (t3 := 2868) hV G hC hB mw_1531 h hl k1 k2 (by rcases hq with ⟨_, _, _, e, _⟩ | ⟨_, e, _⟩ <;> first | (rw [e]; exact bz_01 _) | exact Or.inl e) (by omega) (by omega) (by omega) (by omega) dL_law_738 dL_law_739 dL_law_742 dL_law_744 (by decide) dL_law_749 dL_law_751 (by decide) dL_law_754 dL_law_755 dL_law_756 dL_law_757 dL_law_759 (by decide) dL_law_762 dL_law_763 (by decide) dL_law_766 dL_law_767 dL_law_768 (by decide) dL_law_773 (by decide) (fun H locs ls h hl => kk _ _ _ _ H locs ls _ _ k3 h hl (by omega) (by omega))
set_option maxHeartbeats 4000000 in
set_option maxRecDepth 100000 in
theorem lc_9_isBlocked (hst : l.stackTraces = false) (hV : kOk V) (G : CallFix p m c cL_law 9 s args LW RL) (hC : cSt V s) (hB : eB V ≤ s.heap.size) (hX : va_X b LN xs s s.heap) (hbl : b < s.heap.size) (hbA : ¬ eA V b) (hn : n ≤ 600) (hr : rel n S M) (h : cH V s H locs (LWs V S M O OD)) (hi : i + 3 ≤ LN) (hLN : LN ≤ 1536) (hl : lv_has ls 9 (lv0 V b i)) (hRf : 30 ≤ R.frames) (hRl : 1500 ≤ R.locals) (hc : cells + 24 ≤ R.cells) (hs : slots + 3000 ≤ R.slots)
    (kk : ∀ (S : kCs) (M : kMs) (O : Nat → Int64) (OD : Nat → UInt64) (H : Heap) (locs : List Loc) (ls : Array Slot) (cells1 slots1 : Nat), rel (n + 1) S M → cH V s H locs (LWs V S M O OD) → lv_has ls 9 (lv0 V b i) → cells1 ≤ cells + 24 → slots1 ≤ slots + 3000 → W p l e R s m args below meth c H locs cells1 slots1 Q (F0 m 2868 ls [])) : W p l e R s m args below meth c H locs cells slots Q (F0 m 776 ls []) := by
  have hx := G.1
  have hcd := G.2.1
  obtain ⟨B, nx, sz, L0, L, ep, fp, s0, hd⟩ := hr
  obtain ⟨e1, hA, hg, hH, hSs, hLL, hTT, hEE, hXX⟩ := id hd
  obtain ⟨f0, hf0⟩ := hXX.2.2.1
  obtain ⟨g0, hg0⟩ := hXX.2.2.2.1
  obtain ⟨pp, hpp⟩ := hXX.2.2.2.2.1
  obtain ⟨cm, hcm⟩ := hXX.2.2.2.2.2.1
  obtain ⟨sg, hsg, hsg2⟩ := hLL.2.2.2
  have hx5 : nx < 60000 := by have := hH.2.2.1; omega
  have eS : setB S 0 B = S := rel_S hd
  replace h : cH V s H locs (LWs V (setB S 0 B) M O OD) := by rw [eS]; exact h
  refine lv_aload_n hx hcd dL_law_776 rfl (lv_at hl 4 rfl) ?_
  refine lv_aload_n hx hcd dL_law_777 rfl (lv_at hl 5 rfl) ?_
  refine lv_iload hx hcd dL_law_778 (lv_at hl 0 rfl) ?_
  refine lv_iconst (v := nI 1) hx hcd dL_law_780 (by decide) ?_
  refine w_iadd (v := nI (i + 1)) hx hcd dL_law_781 (nI_add _ _) ?_
  refine va_sld hx hcd hX hbl hbA h.2.2 (vp_in_nI (n := i + 1) (by omega) (by omega)) dL_law_782 ?_
  refine lv_aload_n hx hcd dL_law_783 rfl (lv_at hl 2 rfl) ?_
  replace h := cH_f h
  have hcs := cs_isBlocked (x := (xs (nI (i + 1)).toNatClampNeg)) hd
  refine lw_S (F := lwF V) (u0 := (setB S 0 B, O)) (As := [.ref (eX V 96), .int (xs (nI (i + 1)).toNatClampNeg), .ref (eX V 600)]) (rest := []) G hC hB hV h (met_L_isBlocked l _ (frV_ok _ _ _) (setB S 0 B) O (xs (nI (i + 1)).toNatClampNeg) (fun ws n => met_X3_isBlocked l hst _ S B hA.1 (xs (nI (i + 1)).toNatClampNeg)) (fun E u hp => ?hE)) mw_962 (show kSw yL_isBlocked cL_isBlocked 4 [(0, 16, 19, 21)] 3 from ⟨mw_963, mw_55, mw_964, by decide, by decide, by decide +kernel⟩) ⟨rfl, rfl⟩ ⟨by show 9 + 1 ≤ R.frames; omega, by show 8 + (4 + 11) + 152 ≤ R.locals; omega⟩ rfl rfl hl.1 (Nat.le_of_ble_eq_true rfl) dL_law_784 ⟨by omega, by omega⟩ (fun k u H locs hp h => ?_)
  case hE =>
    rcases hp with ⟨e0, -⟩
    · exact e0
  refine lv_istore (lv' := [(6, .int k), (5, .int (nI i)), (4, .ref (eX V 601)), (3, .ref (eX V 600)), (2, .ref (eX V 500)), (1, .ref (eX V 96)), (0, .ref b)]) hx hcd dL_law_787 hl (by decide) rfl (fun ls hl => ?_)
  replace h := cH_m h
  refine lv_aload_n hx hcd dL_law_789 rfl (lv_at hl 4 rfl) ?_
  refine lv_aload_n hx hcd dL_law_790 rfl (lv_at hl 6 rfl) ?_
  refine lv_iload hx hcd dL_law_791 (lv_at hl 1 rfl) ?_
  refine lv_iconst (v := nI 1) hx hcd dL_law_793 (by decide) ?_
  refine w_iadd (v := nI (i + 1)) hx hcd dL_law_794 (nI_add _ _) ?_
  refine va_sld hx hcd hX hbl hbA h.2.2 (vp_in_nI (n := i + 1) (by omega) (by omega)) dL_law_795 ?_
  refine fk_Vi (As := [.int (xs (nI (i + 1)).toNatClampNeg)]) (rest := []) (b := eX V 500) G hC hB hV h (met_X4_isBlocked l _ M B hg hA.1 (xs (nI (i + 1)).toNatClampNeg)) mw_1635 (show kV yX4_isBlocked cX4_isBlocked 2 (some .boolean) 1 from ⟨mw_1636, mw_1637, mw_64, mw_1638, by decide, by decide, by decide +kernel⟩) ⟨rfl, rfl⟩ ⟨by show 3 + 1 ≤ R.frames; omega, by show 8 + (2 + 11) + 67 ≤ R.locals; omega⟩ (r_M hC h) rfl rfl hl.1 (Nat.le_of_ble_eq_true rfl) dL_law_796 ⟨by omega, by omega⟩ (fun r2 u2 H locs hq h => ?_)
  refine lv_istore (lv' := [(7, .int r2), (6, .int k), (5, .int (nI i)), (4, .ref (eX V 601)), (3, .ref (eX V 600)), (2, .ref (eX V 500)), (1, .ref (eX V 96)), (0, .ref b)]) hx hcd dL_law_799 hl (by decide) rfl (fun ls hl => ?_)
  have key : u2.1 3 = k ∧ (k = nI 0 → u.2 0 = r2.toInt64) ∧ rel (n + 1) u.1 u2 := by
    rcases hp with ⟨hk0, r, hp1, hu⟩ | ⟨hk0, hp1⟩
    · obtain ⟨q1, q2, q3⟩ := hcs.1 _ _ _ _ hp1 hq
      have h01 : r2 = 0 ∨ r2 = 1 := by rcases hq with ⟨_, _, _, e, _⟩ | ⟨_, e, _⟩ <;> first | (rw [e]; exact bz_01 _) | exact Or.inl e
      exact ⟨q1.trans hk0.symm, fun _ => by rw [hu, q2]; rcases h01 with q | q <;> rw [q] <;> rfl, q3⟩
    · have q := hcs.2 _ _ _ _ hp1 hq
      exact ⟨q.2.1.trans hk0.symm, fun z => absurd (hk0.symm.trans z) (by decide), q.2.2⟩
  obtain ⟨k1, k2, k3⟩ := key
  exact lt_z (t1 := 812) (t2 := 836) (t3 := 2868) hV G hC hB mw_1531 h hl k1 k2 (by rcases hq with ⟨_, _, _, e, _⟩ | ⟨_, e, _⟩ <;> first | (rw [e]; exact bz_01 _) | exact Or.inl e) (by omega) (by omega) (by omega) (by omega) dL_law_801 dL_law_802 dL_law_805 dL_law_807 (by decide) dL_law_812 dL_law_814 (by decide) dL_law_817 dL_law_818 dL_law_819 dL_law_820 dL_law_822 (by decide) dL_law_825 dL_law_826 (by decide) dL_law_829 dL_law_830 dL_law_831 (by decide) dL_law_836 (by decide) (fun H locs ls h hl => kk _ _ _ _ H locs ls _ _ k3 h hl (by omega) (by omega))
set_option maxHeartbeats 4000000 in
set_option maxRecDepth 100000 in
theorem lc_10_openBlockers (hst : l.stackTraces = false) (hV : kOk V) (G : CallFix p m c cL_law 9 s args LW RL) (hC : cSt V s) (hB : eB V ≤ s.heap.size) (hX : va_X b LN xs s s.heap) (hbl : b < s.heap.size) (hbA : ¬ eA V b) (hn : n ≤ 600) (hr : rel n S M) (h : cH V s H locs (LWs V S M O OD)) (hi : i + 3 ≤ LN) (hLN : LN ≤ 1536) (hl : lv_has ls 9 (lv0 V b i)) (hRf : 30 ≤ R.frames) (hRl : 1500 ≤ R.locals) (hc : cells + 24 ≤ R.cells) (hs : slots + 3000 ≤ R.slots)
    (kk : ∀ (S : kCs) (M : kMs) (O : Nat → Int64) (OD : Nat → UInt64) (H : Heap) (locs : List Loc) (ls : Array Slot) (cells1 slots1 : Nat), rel (n + 1) S M → cH V s H locs (LWs V S M O OD) → lv_has ls 9 (lv0 V b i) → cells1 ≤ cells + 24 → slots1 ≤ slots + 3000 → W p l e R s m args below meth c H locs cells1 slots1 Q (F0 m 2868 ls [])) : W p l e R s m args below meth c H locs cells slots Q (F0 m 839 ls []) := by
  have hx := G.1
  have hcd := G.2.1
  obtain ⟨B, nx, sz, L0, L, ep, fp, s0, hd⟩ := hr
  obtain ⟨e1, hA, hg, hH, hSs, hLL, hTT, hEE, hXX⟩ := id hd
  obtain ⟨f0, hf0⟩ := hXX.2.2.1
  obtain ⟨g0, hg0⟩ := hXX.2.2.2.1
  obtain ⟨pp, hpp⟩ := hXX.2.2.2.2.1
  obtain ⟨cm, hcm⟩ := hXX.2.2.2.2.2.1
  obtain ⟨sg, hsg, hsg2⟩ := hLL.2.2.2
  have hx5 : nx < 60000 := by have := hH.2.2.1; omega
  have eS : setB S 0 B = S := rel_S hd
  replace h : cH V s H locs (LWs V (setB S 0 B) M O OD) := by rw [eS]; exact h
  refine lv_aload_n hx hcd dL_law_839 rfl (lv_at hl 4 rfl) ?_
  refine lv_aload_n hx hcd dL_law_840 rfl (lv_at hl 5 rfl) ?_
  refine lv_iload hx hcd dL_law_841 (lv_at hl 0 rfl) ?_
  refine lv_iconst (v := nI 1) hx hcd dL_law_843 (by decide) ?_
  refine w_iadd (v := nI (i + 1)) hx hcd dL_law_844 (nI_add _ _) ?_
  refine va_sld hx hcd hX hbl hbA h.2.2 (vp_in_nI (n := i + 1) (by omega) (by omega)) dL_law_845 ?_
  refine lv_aload_n hx hcd dL_law_846 rfl (lv_at hl 2 rfl) ?_
  replace h := cH_f h
  have hcs := cs_openBlockers (x := (xs (nI (i + 1)).toNatClampNeg)) hd
  refine lw_S (F := lwF V) (u0 := (setB S 0 B, O)) (As := [.ref (eX V 96), .int (xs (nI (i + 1)).toNatClampNeg), .ref (eX V 600)]) (rest := []) G hC hB hV h (met_L_openBlockers l _ (frV_ok _ _ _) (setB S 0 B) O (xs (nI (i + 1)).toNatClampNeg) (fun ws n => met_X3_openBlockers l hst _ S B hA.1 (xs (nI (i + 1)).toNatClampNeg)) (fun E u hp => ?hE)) mw_973 (show kSw yL_openBlockers cL_openBlockers 4 [(0, 9, 12, 21)] 3 from ⟨mw_974, mw_55, mw_975, by decide, by decide, by decide +kernel⟩) ⟨rfl, rfl⟩ ⟨by show 9 + 1 ≤ R.frames; omega, by show 8 + (4 + 11) + 152 ≤ R.locals; omega⟩ rfl rfl hl.1 (Nat.le_of_ble_eq_true rfl) dL_law_847 ⟨by omega, by omega⟩ (fun k u H locs hp h => ?_)
  case hE =>
    rcases hp with ⟨e0, -⟩
    · exact e0
  refine lv_istore (lv' := [(6, .int k), (5, .int (nI i)), (4, .ref (eX V 601)), (3, .ref (eX V 600)), (2, .ref (eX V 500)), (1, .ref (eX V 96)), (0, .ref b)]) hx hcd dL_law_850 hl (by decide) rfl (fun ls hl => ?_)
  replace h := cH_m h
  refine lv_aload_n hx hcd dL_law_852 rfl (lv_at hl 4 rfl) ?_
  refine lv_aload_n hx hcd dL_law_853 rfl (lv_at hl 6 rfl) ?_
  refine lv_iload hx hcd dL_law_854 (lv_at hl 1 rfl) ?_
  refine lv_iconst (v := nI 1) hx hcd dL_law_856 (by decide) ?_
  refine w_iadd (v := nI (i + 1)) hx hcd dL_law_857 (nI_add _ _) ?_
  refine va_sld hx hcd hX hbl hbA h.2.2 (vp_in_nI (n := i + 1) (by omega) (by omega)) dL_law_858 ?_
  refine fk_Vi (As := [.int (xs (nI (i + 1)).toNatClampNeg)]) (rest := []) (b := eX V 500) G hC hB hV h (met_X4_openBlockers l _ M B hg hA.1 (xs (nI (i + 1)).toNatClampNeg)) mw_1643 (show kV yX4_openBlockers cX4_openBlockers 2 (some .int) 1 from ⟨mw_1644, mw_1645, mw_64, mw_1646, by decide, by decide, by decide +kernel⟩) ⟨rfl, rfl⟩ ⟨by show 3 + 1 ≤ R.frames; omega, by show 8 + (2 + 11) + 67 ≤ R.locals; omega⟩ (r_M hC h) rfl rfl hl.1 (Nat.le_of_ble_eq_true rfl) dL_law_859 ⟨by omega, by omega⟩ (fun r2 u2 H locs hq h => ?_)
  refine lv_istore (lv' := [(7, .int r2), (6, .int k), (5, .int (nI i)), (4, .ref (eX V 601)), (3, .ref (eX V 600)), (2, .ref (eX V 500)), (1, .ref (eX V 96)), (0, .ref b)]) hx hcd dL_law_862 hl (by decide) rfl (fun ls hl => ?_)
  have key : u2.1 3 = k ∧ (k = nI 0 → u.2 0 = r2.toInt64) ∧ rel (n + 1) u.1 u2 := by
    rcases hp with ⟨hk0, r, hp1, hu⟩ | ⟨hk0, hp1⟩
    · obtain ⟨q1, q2, q3⟩ := hcs.1 _ _ _ _ hp1 hq
      exact ⟨q1.trans hk0.symm, fun _ => by rw [hu, ← q2]; rfl, q3⟩
    · have q := hcs.2 _ _ _ _ hp1 hq
      exact ⟨q.2.1.trans hk0.symm, fun z => absurd (hk0.symm.trans z) (by decide), q.2.2⟩
  obtain ⟨k1, k2, k3⟩ := key
  exact lt_i (t1 := 875) (t2 := 892) (t3 := 2868) hV G hC hB mw_1531 h hl k1 k2 (by omega) (by omega) (by omega) (by omega) dL_law_864 dL_law_865 dL_law_868 dL_law_870 (by decide) dL_law_875 dL_law_877 (by decide) dL_law_880 dL_law_881 dL_law_882 dL_law_883 dL_law_885 dL_law_886 dL_law_887 (by decide) dL_law_892 (by decide) (fun H locs ls h hl => kk _ _ _ _ H locs ls _ _ k3 h hl (by omega) (by omega))
set_option maxHeartbeats 4000000 in
set_option maxRecDepth 100000 in
theorem lc_11_isBlocker (hst : l.stackTraces = false) (hV : kOk V) (G : CallFix p m c cL_law 9 s args LW RL) (hC : cSt V s) (hB : eB V ≤ s.heap.size) (hX : va_X b LN xs s s.heap) (hbl : b < s.heap.size) (hbA : ¬ eA V b) (hn : n ≤ 600) (hr : rel n S M) (h : cH V s H locs (LWs V S M O OD)) (hi : i + 3 ≤ LN) (hLN : LN ≤ 1536) (hl : lv_has ls 9 (lv0 V b i)) (hRf : 30 ≤ R.frames) (hRl : 1500 ≤ R.locals) (hc : cells + 24 ≤ R.cells) (hs : slots + 3000 ≤ R.slots)
    (kk : ∀ (S : kCs) (M : kMs) (O : Nat → Int64) (OD : Nat → UInt64) (H : Heap) (locs : List Loc) (ls : Array Slot) (cells1 slots1 : Nat), rel (n + 1) S M → cH V s H locs (LWs V S M O OD) → lv_has ls 9 (lv0 V b i) → cells1 ≤ cells + 24 → slots1 ≤ slots + 3000 → W p l e R s m args below meth c H locs cells1 slots1 Q (F0 m 2868 ls [])) : W p l e R s m args below meth c H locs cells slots Q (F0 m 895 ls []) := by
  have hx := G.1
  have hcd := G.2.1
  obtain ⟨B, nx, sz, L0, L, ep, fp, s0, hd⟩ := hr
  obtain ⟨e1, hA, hg, hH, hSs, hLL, hTT, hEE, hXX⟩ := id hd
  obtain ⟨f0, hf0⟩ := hXX.2.2.1
  obtain ⟨g0, hg0⟩ := hXX.2.2.2.1
  obtain ⟨pp, hpp⟩ := hXX.2.2.2.2.1
  obtain ⟨cm, hcm⟩ := hXX.2.2.2.2.2.1
  obtain ⟨sg, hsg, hsg2⟩ := hLL.2.2.2
  have hx5 : nx < 60000 := by have := hH.2.2.1; omega
  have eS : setB S 0 B = S := rel_S hd
  replace h : cH V s H locs (LWs V (setB S 0 B) M O OD) := by rw [eS]; exact h
  refine lv_aload_n hx hcd dL_law_895 rfl (lv_at hl 4 rfl) ?_
  refine lv_aload_n hx hcd dL_law_896 rfl (lv_at hl 5 rfl) ?_
  refine lv_iload hx hcd dL_law_897 (lv_at hl 0 rfl) ?_
  refine lv_iconst (v := nI 1) hx hcd dL_law_899 (by decide) ?_
  refine w_iadd (v := nI (i + 1)) hx hcd dL_law_900 (nI_add _ _) ?_
  refine va_sld hx hcd hX hbl hbA h.2.2 (vp_in_nI (n := i + 1) (by omega) (by omega)) dL_law_901 ?_
  refine lv_aload_n hx hcd dL_law_902 rfl (lv_at hl 5 rfl) ?_
  refine lv_iload hx hcd dL_law_903 (lv_at hl 0 rfl) ?_
  refine lv_iconst (v := nI 2) hx hcd dL_law_905 (by decide) ?_
  refine w_iadd (v := nI (i + 2)) hx hcd dL_law_906 (nI_add _ _) ?_
  refine va_sld hx hcd hX hbl hbA h.2.2 (vp_in_nI (n := i + 2) (by omega) (by omega)) dL_law_907 ?_
  refine lv_aload_n hx hcd dL_law_908 rfl (lv_at hl 2 rfl) ?_
  replace h := cH_f h
  have hcs := cs_isBlocker (x := (xs (nI (i + 1)).toNatClampNeg)) (y := (xs (nI (i + 2)).toNatClampNeg)) hd
  refine lw_S (F := lwF V) (u0 := (setB S 0 B, O)) (As := [.ref (eX V 96), .int (xs (nI (i + 1)).toNatClampNeg), .int (xs (nI (i + 2)).toNatClampNeg), .ref (eX V 600)]) (rest := []) G hC hB hV h (met_L_isBlocker l _ (frV_ok _ _ _) (setB S 0 B) O (xs (nI (i + 1)).toNatClampNeg) (xs (nI (i + 2)).toNatClampNeg) (fun ws n => met_X3_isBlocker l hst _ S B hA.1 (xs (nI (i + 1)).toNatClampNeg) (xs (nI (i + 2)).toNatClampNeg)) (fun E u hp => ?hE)) mw_980 (show kSw yL_isBlocker cL_isBlocker 5 [(0, 17, 20, 21)] 4 from ⟨mw_981, mw_55, mw_982, by decide, by decide, by decide +kernel⟩) ⟨rfl, rfl⟩ ⟨by show 9 + 1 ≤ R.frames; omega, by show 8 + (5 + 11) + 153 ≤ R.locals; omega⟩ rfl rfl hl.1 (Nat.le_of_ble_eq_true rfl) dL_law_909 ⟨by omega, by omega⟩ (fun k u H locs hp h => ?_)
  case hE =>
    rcases hp with ⟨e0, -⟩ | ⟨_, -, -, e0, -⟩
    · exact e0
    · exact e0
  refine lv_istore (lv' := [(6, .int k), (5, .int (nI i)), (4, .ref (eX V 601)), (3, .ref (eX V 600)), (2, .ref (eX V 500)), (1, .ref (eX V 96)), (0, .ref b)]) hx hcd dL_law_912 hl (by decide) rfl (fun ls hl => ?_)
  replace h := cH_m h
  refine lv_aload_n hx hcd dL_law_914 rfl (lv_at hl 4 rfl) ?_
  refine lv_aload_n hx hcd dL_law_915 rfl (lv_at hl 6 rfl) ?_
  refine lv_iload hx hcd dL_law_916 (lv_at hl 1 rfl) ?_
  refine lv_iconst (v := nI 1) hx hcd dL_law_918 (by decide) ?_
  refine w_iadd (v := nI (i + 1)) hx hcd dL_law_919 (nI_add _ _) ?_
  refine va_sld hx hcd hX hbl hbA h.2.2 (vp_in_nI (n := i + 1) (by omega) (by omega)) dL_law_920 ?_
  refine lv_aload_n hx hcd dL_law_921 rfl (lv_at hl 6 rfl) ?_
  refine lv_iload hx hcd dL_law_922 (lv_at hl 1 rfl) ?_
  refine lv_iconst (v := nI 2) hx hcd dL_law_924 (by decide) ?_
  refine w_iadd (v := nI (i + 2)) hx hcd dL_law_925 (nI_add _ _) ?_
  refine va_sld hx hcd hX hbl hbA h.2.2 (vp_in_nI (n := i + 2) (by omega) (by omega)) dL_law_926 ?_
  refine fk_Vi (As := [.int (xs (nI (i + 1)).toNatClampNeg), .int (xs (nI (i + 2)).toNatClampNeg)]) (rest := []) (b := eX V 500) G hC hB hV h (met_X4_isBlocker l _ M B hg hA.1 (xs (nI (i + 1)).toNatClampNeg) (xs (nI (i + 2)).toNatClampNeg)) mw_1647 (show kV yX4_isBlocker cX4_isBlocker 3 (some .boolean) 2 from ⟨mw_1648, mw_1649, mw_64, mw_1650, by decide, by decide, by decide +kernel⟩) ⟨rfl, rfl⟩ ⟨by show 4 + 1 ≤ R.frames; omega, by show 8 + (3 + 11) + 87 ≤ R.locals; omega⟩ (r_M hC h) rfl rfl hl.1 (Nat.le_of_ble_eq_true rfl) dL_law_927 ⟨by omega, by omega⟩ (fun r2 u2 H locs hq h => ?_)
  refine lv_istore (lv' := [(7, .int r2), (6, .int k), (5, .int (nI i)), (4, .ref (eX V 601)), (3, .ref (eX V 600)), (2, .ref (eX V 500)), (1, .ref (eX V 96)), (0, .ref b)]) hx hcd dL_law_930 hl (by decide) rfl (fun ls hl => ?_)
  have key : u2.1 3 = k ∧ (k = nI 0 → u.2 0 = r2.toInt64) ∧ rel (n + 1) u.1 u2 := by
    rcases hp with ⟨hk0, r, hp1, hu⟩ | ⟨hk0, hp1⟩
    · obtain ⟨q1, q2, q3⟩ := hcs.1 _ _ _ _ hp1 hq
      have h01 : r2 = 0 ∨ r2 = 1 := by rcases hq with ⟨_, _, _, _, _, _, e, _⟩ | ⟨_, e, _⟩ <;> first | (rw [e]; exact bz_01 _) | exact Or.inl e
      exact ⟨q1.trans hk0.symm, fun _ => by rw [hu, q2]; rcases h01 with q | q <;> rw [q] <;> rfl, q3⟩
    · have q := hcs.2 _ _ _ _ hp1 hq
      exact ⟨q.2.1.trans hk0.symm, fun z => absurd (hk0.symm.trans z) (by decide), q.2.2⟩
  obtain ⟨k1, k2, k3⟩ := key
  exact lt_z (t1 := 943) (t2 := 967) (t3 := 2868) hV G hC hB mw_1531 h hl k1 k2 (by rcases hq with ⟨_, _, _, _, _, _, e, _⟩ | ⟨_, e, _⟩ <;> first | (rw [e]; exact bz_01 _) | exact Or.inl e) (by omega) (by omega) (by omega) (by omega) dL_law_932 dL_law_933 dL_law_936 dL_law_938 (by decide) dL_law_943 dL_law_945 (by decide) dL_law_948 dL_law_949 dL_law_950 dL_law_951 dL_law_953 (by decide) dL_law_956 dL_law_957 (by decide) dL_law_960 dL_law_961 dL_law_962 (by decide) dL_law_967 (by decide) (fun H locs ls h hl => kk _ _ _ _ H locs ls _ _ k3 h hl (by omega) (by omega))
set_option maxHeartbeats 4000000 in
set_option maxRecDepth 100000 in
theorem lc_12_dependsOn (hst : l.stackTraces = false) (hV : kOk V) (G : CallFix p m c cL_law 9 s args LW RL) (hC : cSt V s) (hB : eB V ≤ s.heap.size) (hX : va_X b LN xs s s.heap) (hbl : b < s.heap.size) (hbA : ¬ eA V b) (hn : n ≤ 600) (hr : rel n S M) (h : cH V s H locs (LWs V S M O OD)) (hi : i + 3 ≤ LN) (hLN : LN ≤ 1536) (hl : lv_has ls 9 (lv0 V b i)) (hRf : 30 ≤ R.frames) (hRl : 1500 ≤ R.locals) (hc : cells + 24 ≤ R.cells) (hs : slots + 3000 ≤ R.slots)
    (kk : ∀ (S : kCs) (M : kMs) (O : Nat → Int64) (OD : Nat → UInt64) (H : Heap) (locs : List Loc) (ls : Array Slot) (cells1 slots1 : Nat), rel (n + 1) S M → cH V s H locs (LWs V S M O OD) → lv_has ls 9 (lv0 V b i) → cells1 ≤ cells + 24 → slots1 ≤ slots + 3000 → W p l e R s m args below meth c H locs cells1 slots1 Q (F0 m 2868 ls [])) : W p l e R s m args below meth c H locs cells slots Q (F0 m 970 ls []) := by
  have hx := G.1
  have hcd := G.2.1
  obtain ⟨B, nx, sz, L0, L, ep, fp, s0, hd⟩ := hr
  obtain ⟨e1, hA, hg, hH, hSs, hLL, hTT, hEE, hXX⟩ := id hd
  obtain ⟨f0, hf0⟩ := hXX.2.2.1
  obtain ⟨g0, hg0⟩ := hXX.2.2.2.1
  obtain ⟨pp, hpp⟩ := hXX.2.2.2.2.1
  obtain ⟨cm, hcm⟩ := hXX.2.2.2.2.2.1
  obtain ⟨sg, hsg, hsg2⟩ := hLL.2.2.2
  have hx5 : nx < 60000 := by have := hH.2.2.1; omega
  have eS : setB S 0 B = S := rel_S hd
  replace h : cH V s H locs (LWs V (setB S 0 B) M O OD) := by rw [eS]; exact h
  refine lv_aload_n hx hcd dL_law_970 rfl (lv_at hl 4 rfl) ?_
  refine lv_aload_n hx hcd dL_law_971 rfl (lv_at hl 5 rfl) ?_
  refine lv_iload hx hcd dL_law_972 (lv_at hl 0 rfl) ?_
  refine lv_iconst (v := nI 1) hx hcd dL_law_974 (by decide) ?_
  refine w_iadd (v := nI (i + 1)) hx hcd dL_law_975 (nI_add _ _) ?_
  refine va_sld hx hcd hX hbl hbA h.2.2 (vp_in_nI (n := i + 1) (by omega) (by omega)) dL_law_976 ?_
  refine lv_aload_n hx hcd dL_law_977 rfl (lv_at hl 5 rfl) ?_
  refine lv_iload hx hcd dL_law_978 (lv_at hl 0 rfl) ?_
  refine lv_iconst (v := nI 2) hx hcd dL_law_980 (by decide) ?_
  refine w_iadd (v := nI (i + 2)) hx hcd dL_law_981 (nI_add _ _) ?_
  refine va_sld hx hcd hX hbl hbA h.2.2 (vp_in_nI (n := i + 2) (by omega) (by omega)) dL_law_982 ?_
  refine lv_aload_n hx hcd dL_law_983 rfl (lv_at hl 2 rfl) ?_
  replace h := cH_f h
  have hcs := cs_dependsOn (x := (xs (nI (i + 1)).toNatClampNeg)) (y := (xs (nI (i + 2)).toNatClampNeg)) hd
  refine lw_S (F := lwF V) (u0 := (setB S 0 B, O)) (As := [.ref (eX V 96), .int (xs (nI (i + 1)).toNatClampNeg), .int (xs (nI (i + 2)).toNatClampNeg), .ref (eX V 600)]) (rest := []) G hC hB hV h (met_L_dependsOn l _ (frV_ok _ _ _) (setB S 0 B) O (xs (nI (i + 1)).toNatClampNeg) (xs (nI (i + 2)).toNatClampNeg) (fun ws n => met_X3_dependsOn l hst _ S B hA.1 (xs (nI (i + 1)).toNatClampNeg) (xs (nI (i + 2)).toNatClampNeg)) (fun E u hp => ?hE)) mw_987 (show kSw yL_dependsOn cL_dependsOn 5 [(0, 17, 20, 21)] 4 from ⟨mw_988, mw_55, mw_989, by decide, by decide, by decide +kernel⟩) ⟨rfl, rfl⟩ ⟨by show 9 + 1 ≤ R.frames; omega, by show 8 + (5 + 11) + 153 ≤ R.locals; omega⟩ rfl rfl hl.1 (Nat.le_of_ble_eq_true rfl) dL_law_984 ⟨by omega, by omega⟩ (fun k u H locs hp h => ?_)
  case hE =>
    rcases hp with ⟨e0, -⟩ | ⟨_, -, -, e0, -⟩
    · exact e0
    · exact e0
  refine lv_istore (lv' := [(6, .int k), (5, .int (nI i)), (4, .ref (eX V 601)), (3, .ref (eX V 600)), (2, .ref (eX V 500)), (1, .ref (eX V 96)), (0, .ref b)]) hx hcd dL_law_987 hl (by decide) rfl (fun ls hl => ?_)
  replace h := cH_m h
  refine lv_aload_n hx hcd dL_law_989 rfl (lv_at hl 4 rfl) ?_
  refine lv_aload_n hx hcd dL_law_990 rfl (lv_at hl 6 rfl) ?_
  refine lv_iload hx hcd dL_law_991 (lv_at hl 1 rfl) ?_
  refine lv_iconst (v := nI 1) hx hcd dL_law_993 (by decide) ?_
  refine w_iadd (v := nI (i + 1)) hx hcd dL_law_994 (nI_add _ _) ?_
  refine va_sld hx hcd hX hbl hbA h.2.2 (vp_in_nI (n := i + 1) (by omega) (by omega)) dL_law_995 ?_
  refine lv_aload_n hx hcd dL_law_996 rfl (lv_at hl 6 rfl) ?_
  refine lv_iload hx hcd dL_law_997 (lv_at hl 1 rfl) ?_
  refine lv_iconst (v := nI 2) hx hcd dL_law_999 (by decide) ?_
  refine w_iadd (v := nI (i + 2)) hx hcd dL_law_1000 (nI_add _ _) ?_
  refine va_sld hx hcd hX hbl hbA h.2.2 (vp_in_nI (n := i + 2) (by omega) (by omega)) dL_law_1001 ?_
  refine fk_Vi (As := [.int (xs (nI (i + 1)).toNatClampNeg), .int (xs (nI (i + 2)).toNatClampNeg)]) (rest := []) (b := eX V 500) G hC hB hV h (met_X4_dependsOn l _ M B hg hA.1 (xs (nI (i + 1)).toNatClampNeg) (xs (nI (i + 2)).toNatClampNeg)) mw_1655 (show kV yX4_dependsOn cX4_dependsOn 3 (some .boolean) 2 from ⟨mw_1656, mw_1657, mw_64, mw_1658, by decide, by decide, by decide +kernel⟩) ⟨rfl, rfl⟩ ⟨by show 4 + 1 ≤ R.frames; omega, by show 8 + (3 + 11) + 87 ≤ R.locals; omega⟩ (r_M hC h) rfl rfl hl.1 (Nat.le_of_ble_eq_true rfl) dL_law_1002 ⟨by omega, by omega⟩ (fun r2 u2 H locs hq h => ?_)
  refine lv_istore (lv' := [(7, .int r2), (6, .int k), (5, .int (nI i)), (4, .ref (eX V 601)), (3, .ref (eX V 600)), (2, .ref (eX V 500)), (1, .ref (eX V 96)), (0, .ref b)]) hx hcd dL_law_1005 hl (by decide) rfl (fun ls hl => ?_)
  have key : u2.1 3 = k ∧ (k = nI 0 → u.2 0 = r2.toInt64) ∧ rel (n + 1) u.1 u2 := by
    rcases hp with ⟨hk0, r, hp1, hu⟩ | ⟨hk0, hp1⟩
    · obtain ⟨q1, q2, q3⟩ := hcs.1 _ _ _ _ hp1 hq
      have h01 : r2 = 0 ∨ r2 = 1 := by rcases hq with ⟨_, _, _, _, _, _, e, _⟩ | ⟨_, e, _⟩ <;> first | (rw [e]; exact bz_01 _) | exact Or.inl e
      exact ⟨q1.trans hk0.symm, fun _ => by rw [hu, q2]; rcases h01 with q | q <;> rw [q] <;> rfl, q3⟩
    · have q := hcs.2 _ _ _ _ hp1 hq
      exact ⟨q.2.1.trans hk0.symm, fun z => absurd (hk0.symm.trans z) (by decide), q.2.2⟩
  obtain ⟨k1, k2, k3⟩ := key
  exact lt_z (t1 := 1018) (t2 := 1042) (t3 := 2868) hV G hC hB mw_1531 h hl k1 k2 (by rcases hq with ⟨_, _, _, _, _, _, e, _⟩ | ⟨_, e, _⟩ <;> first | (rw [e]; exact bz_01 _) | exact Or.inl e) (by omega) (by omega) (by omega) (by omega) dL_law_1007 dL_law_1008 dL_law_1011 dL_law_1013 (by decide) dL_law_1018 dL_law_1020 (by decide) dL_law_1023 dL_law_1024 dL_law_1025 dL_law_1026 dL_law_1028 (by decide) dL_law_1031 dL_law_1032 (by decide) dL_law_1035 dL_law_1036 dL_law_1037 (by decide) dL_law_1042 (by decide) (fun H locs ls h hl => kk _ _ _ _ H locs ls _ _ k3 h hl (by omega) (by omega))
set_option maxHeartbeats 4000000 in
set_option maxRecDepth 100000 in
theorem lc_13_dependsOnByClosure (hst : l.stackTraces = false) (hV : kOk V) (G : CallFix p m c cL_law 9 s args LW RL) (hC : cSt V s) (hB : eB V ≤ s.heap.size) (hX : va_X b LN xs s s.heap) (hbl : b < s.heap.size) (hbA : ¬ eA V b) (hn : n ≤ 600) (hr : rel n S M) (h : cH V s H locs (LWs V S M O OD)) (hi : i + 3 ≤ LN) (hLN : LN ≤ 1536) (hl : lv_has ls 9 (lv0 V b i)) (hRf : 30 ≤ R.frames) (hRl : 1500 ≤ R.locals) (hc : cells + 24 ≤ R.cells) (hs : slots + 3000 ≤ R.slots)
    (kk : ∀ (S : kCs) (M : kMs) (O : Nat → Int64) (OD : Nat → UInt64) (H : Heap) (locs : List Loc) (ls : Array Slot) (cells1 slots1 : Nat), rel (n + 1) S M → cH V s H locs (LWs V S M O OD) → lv_has ls 9 (lv0 V b i) → cells1 ≤ cells + 24 → slots1 ≤ slots + 3000 → W p l e R s m args below meth c H locs cells1 slots1 Q (F0 m 2868 ls [])) : W p l e R s m args below meth c H locs cells slots Q (F0 m 1045 ls []) := by
  have hx := G.1
  have hcd := G.2.1
  obtain ⟨B, nx, sz, L0, L, ep, fp, s0, hd⟩ := hr
  obtain ⟨e1, hA, hg, hH, hSs, hLL, hTT, hEE, hXX⟩ := id hd
  obtain ⟨f0, hf0⟩ := hXX.2.2.1
  obtain ⟨g0, hg0⟩ := hXX.2.2.2.1
  obtain ⟨pp, hpp⟩ := hXX.2.2.2.2.1
  obtain ⟨cm, hcm⟩ := hXX.2.2.2.2.2.1
  obtain ⟨sg, hsg, hsg2⟩ := hLL.2.2.2
  have hx5 : nx < 60000 := by have := hH.2.2.1; omega
  have eS : setB S 0 B = S := rel_S hd
  replace h : cH V s H locs (LWs V (setB S 0 B) M O OD) := by rw [eS]; exact h
  refine lv_aload_n hx hcd dL_law_1045 rfl (lv_at hl 4 rfl) ?_
  refine lv_aload_n hx hcd dL_law_1046 rfl (lv_at hl 5 rfl) ?_
  refine lv_iload hx hcd dL_law_1047 (lv_at hl 0 rfl) ?_
  refine lv_iconst (v := nI 1) hx hcd dL_law_1049 (by decide) ?_
  refine w_iadd (v := nI (i + 1)) hx hcd dL_law_1050 (nI_add _ _) ?_
  refine va_sld hx hcd hX hbl hbA h.2.2 (vp_in_nI (n := i + 1) (by omega) (by omega)) dL_law_1051 ?_
  refine lv_aload_n hx hcd dL_law_1052 rfl (lv_at hl 5 rfl) ?_
  refine lv_iload hx hcd dL_law_1053 (lv_at hl 0 rfl) ?_
  refine lv_iconst (v := nI 2) hx hcd dL_law_1055 (by decide) ?_
  refine w_iadd (v := nI (i + 2)) hx hcd dL_law_1056 (nI_add _ _) ?_
  refine va_sld hx hcd hX hbl hbA h.2.2 (vp_in_nI (n := i + 2) (by omega) (by omega)) dL_law_1057 ?_
  refine lv_aload_n hx hcd dL_law_1058 rfl (lv_at hl 2 rfl) ?_
  replace h := cH_f h
  have hcs := cs_dependsOnByClosure (x := (xs (nI (i + 1)).toNatClampNeg)) (y := (xs (nI (i + 2)).toNatClampNeg)) hd
  refine lw_S (F := lwF V) (u0 := (setB S 0 B, O)) (As := [.ref (eX V 96), .int (xs (nI (i + 1)).toNatClampNeg), .int (xs (nI (i + 2)).toNatClampNeg), .ref (eX V 600)]) (rest := []) G hC hB hV h (met_L_dependsOnByClosure l _ (frV_ok _ _ _) (setB S 0 B) O (xs (nI (i + 1)).toNatClampNeg) (xs (nI (i + 2)).toNatClampNeg) (fun ws n => met_X3_dependsOnByClosure l hst _ S B hA.1 (xs (nI (i + 1)).toNatClampNeg) (xs (nI (i + 2)).toNatClampNeg)) (fun E u hp => ?hE)) mw_994 (show kSw yL_dependsOnByClosure cL_dependsOnByClosure 5 [(0, 17, 20, 21)] 4 from ⟨mw_995, mw_55, mw_996, by decide, by decide, by decide +kernel⟩) ⟨rfl, rfl⟩ ⟨by show 9 + 1 ≤ R.frames; omega, by show 8 + (5 + 11) + 153 ≤ R.locals; omega⟩ rfl rfl hl.1 (Nat.le_of_ble_eq_true rfl) dL_law_1059 ⟨by omega, by omega⟩ (fun k u H locs hp h => ?_)
  case hE =>
    rcases hp with ⟨e0, -⟩ | ⟨_, -, -, e0, -⟩
    · exact e0
    · exact e0
  refine lv_istore (lv' := [(6, .int k), (5, .int (nI i)), (4, .ref (eX V 601)), (3, .ref (eX V 600)), (2, .ref (eX V 500)), (1, .ref (eX V 96)), (0, .ref b)]) hx hcd dL_law_1062 hl (by decide) rfl (fun ls hl => ?_)
  replace h := cH_m h
  refine lv_aload_n hx hcd dL_law_1064 rfl (lv_at hl 4 rfl) ?_
  refine lv_aload_n hx hcd dL_law_1065 rfl (lv_at hl 6 rfl) ?_
  refine lv_iload hx hcd dL_law_1066 (lv_at hl 1 rfl) ?_
  refine lv_iconst (v := nI 1) hx hcd dL_law_1068 (by decide) ?_
  refine w_iadd (v := nI (i + 1)) hx hcd dL_law_1069 (nI_add _ _) ?_
  refine va_sld hx hcd hX hbl hbA h.2.2 (vp_in_nI (n := i + 1) (by omega) (by omega)) dL_law_1070 ?_
  refine lv_aload_n hx hcd dL_law_1071 rfl (lv_at hl 6 rfl) ?_
  refine lv_iload hx hcd dL_law_1072 (lv_at hl 1 rfl) ?_
  refine lv_iconst (v := nI 2) hx hcd dL_law_1074 (by decide) ?_
  refine w_iadd (v := nI (i + 2)) hx hcd dL_law_1075 (nI_add _ _) ?_
  refine va_sld hx hcd hX hbl hbA h.2.2 (vp_in_nI (n := i + 2) (by omega) (by omega)) dL_law_1076 ?_
  refine fk_Vi (As := [.int (xs (nI (i + 1)).toNatClampNeg), .int (xs (nI (i + 2)).toNatClampNeg)]) (rest := []) (b := eX V 500) G hC hB hV h (met_X4_dependsOnByClosure l _ M B hg hA.1 (xs (nI (i + 1)).toNatClampNeg) (xs (nI (i + 2)).toNatClampNeg)) mw_1659 (show kV yX4_dependsOnByClosure cX4_dependsOnByClosure 3 (some .boolean) 2 from ⟨mw_1660, mw_1661, mw_64, mw_1662, by decide, by decide, by decide +kernel⟩) ⟨rfl, rfl⟩ ⟨by show 4 + 1 ≤ R.frames; omega, by show 8 + (3 + 11) + 87 ≤ R.locals; omega⟩ (r_M hC h) rfl rfl hl.1 (Nat.le_of_ble_eq_true rfl) dL_law_1077 ⟨by omega, by omega⟩ (fun r2 u2 H locs hq h => ?_)
  refine lv_istore (lv' := [(7, .int r2), (6, .int k), (5, .int (nI i)), (4, .ref (eX V 601)), (3, .ref (eX V 600)), (2, .ref (eX V 500)), (1, .ref (eX V 96)), (0, .ref b)]) hx hcd dL_law_1080 hl (by decide) rfl (fun ls hl => ?_)
  have key : u2.1 3 = k ∧ (k = nI 0 → u.2 0 = r2.toInt64) ∧ rel (n + 1) u.1 u2 := by
    rcases hp with ⟨hk0, r, hp1, hu⟩ | ⟨hk0, hp1⟩
    · obtain ⟨q1, q2, q3⟩ := hcs.1 _ _ _ _ hp1 hq
      have h01 : r2 = 0 ∨ r2 = 1 := by rcases hq with ⟨_, _, _, _, _, _, e, _⟩ | ⟨_, e, _⟩ <;> first | (rw [e]; exact bz_01 _) | exact Or.inl e
      exact ⟨q1.trans hk0.symm, fun _ => by rw [hu, q2]; rcases h01 with q | q <;> rw [q] <;> rfl, q3⟩
    · have q := hcs.2 _ _ _ _ hp1 hq
      exact ⟨q.2.1.trans hk0.symm, fun z => absurd (hk0.symm.trans z) (by decide), q.2.2⟩
  obtain ⟨k1, k2, k3⟩ := key
  exact lt_z (t1 := 1093) (t2 := 1117) (t3 := 2868) hV G hC hB mw_1531 h hl k1 k2 (by rcases hq with ⟨_, _, _, _, _, _, e, _⟩ | ⟨_, e, _⟩ <;> first | (rw [e]; exact bz_01 _) | exact Or.inl e) (by omega) (by omega) (by omega) (by omega) dL_law_1082 dL_law_1083 dL_law_1086 dL_law_1088 (by decide) dL_law_1093 dL_law_1095 (by decide) dL_law_1098 dL_law_1099 dL_law_1100 dL_law_1101 dL_law_1103 (by decide) dL_law_1106 dL_law_1107 (by decide) dL_law_1110 dL_law_1111 dL_law_1112 (by decide) dL_law_1117 (by decide) (fun H locs ls h hl => kk _ _ _ _ H locs ls _ _ k3 h hl (by omega) (by omega))
set_option maxHeartbeats 4000000 in
set_option maxRecDepth 100000 in
theorem lc_14_longestChain (hst : l.stackTraces = false) (hV : kOk V) (G : CallFix p m c cL_law 9 s args LW RL) (hC : cSt V s) (hB : eB V ≤ s.heap.size) (hX : va_X b LN xs s s.heap) (hbl : b < s.heap.size) (hbA : ¬ eA V b) (hn : n ≤ 600) (hr : rel n S M) (h : cH V s H locs (LWs V S M O OD)) (hi : i + 3 ≤ LN) (hLN : LN ≤ 1536) (hl : lv_has ls 9 (lv0 V b i)) (hRf : 30 ≤ R.frames) (hRl : 1500 ≤ R.locals) (hc : cells + 24 ≤ R.cells) (hs : slots + 3000 ≤ R.slots)
    (kk : ∀ (S : kCs) (M : kMs) (O : Nat → Int64) (OD : Nat → UInt64) (H : Heap) (locs : List Loc) (ls : Array Slot) (cells1 slots1 : Nat), rel (n + 1) S M → cH V s H locs (LWs V S M O OD) → lv_has ls 9 (lv0 V b i) → cells1 ≤ cells + 24 → slots1 ≤ slots + 3000 → W p l e R s m args below meth c H locs cells1 slots1 Q (F0 m 2868 ls [])) : W p l e R s m args below meth c H locs cells slots Q (F0 m 1120 ls []) := by
  have hx := G.1
  have hcd := G.2.1
  obtain ⟨B, nx, sz, L0, L, ep, fp, s0, hd⟩ := hr
  obtain ⟨e1, hA, hg, hH, hSs, hLL, hTT, hEE, hXX⟩ := id hd
  obtain ⟨f0, hf0⟩ := hXX.2.2.1
  obtain ⟨g0, hg0⟩ := hXX.2.2.2.1
  obtain ⟨pp, hpp⟩ := hXX.2.2.2.2.1
  obtain ⟨cm, hcm⟩ := hXX.2.2.2.2.2.1
  obtain ⟨sg, hsg, hsg2⟩ := hLL.2.2.2
  have hx5 : nx < 60000 := by have := hH.2.2.1; omega
  have eS : setB S 0 B = S := rel_S hd
  replace h : cH V s H locs (LWs V (setB S 0 B) M O OD) := by rw [eS]; exact h
  refine lv_aload_n hx hcd dL_law_1120 rfl (lv_at hl 4 rfl) ?_
  refine lv_aload_n hx hcd dL_law_1121 rfl (lv_at hl 5 rfl) ?_
  refine lv_iload hx hcd dL_law_1122 (lv_at hl 0 rfl) ?_
  refine lv_iconst (v := nI 1) hx hcd dL_law_1124 (by decide) ?_
  refine w_iadd (v := nI (i + 1)) hx hcd dL_law_1125 (nI_add _ _) ?_
  refine va_sld hx hcd hX hbl hbA h.2.2 (vp_in_nI (n := i + 1) (by omega) (by omega)) dL_law_1126 ?_
  refine lv_aload_n hx hcd dL_law_1127 rfl (lv_at hl 2 rfl) ?_
  replace h := cH_f h
  have hcs := cs_longestChain (x := (xs (nI (i + 1)).toNatClampNeg)) hd f0
  refine lw_S (F := lwF V) (u0 := (setB S 0 B, O)) (As := [.ref (eX V 96), .int (xs (nI (i + 1)).toNatClampNeg), .ref (eX V 600)]) (rest := []) G hC hB hV h (met_L_longestChain l _ (frV_ok _ _ _) (setB S 0 B) O (xs (nI (i + 1)).toNatClampNeg) (fun ws n => met_X3_longestChain l hst _ S B hA.1 (xs (nI (i + 1)).toNatClampNeg)) (fun E u hp => ?hE)) mw_1001 (show kSw yL_longestChain cL_longestChain 4 [(0, 9, 12, 21)] 3 from ⟨mw_1002, mw_55, mw_1003, by decide, by decide, by decide +kernel⟩) ⟨rfl, rfl⟩ ⟨by show 9 + 1 ≤ R.frames; omega, by show 8 + (4 + 11) + 152 ≤ R.locals; omega⟩ rfl rfl hl.1 (Nat.le_of_ble_eq_true rfl) dL_law_1128 ⟨by omega, by omega⟩ (fun k u H locs hp h => ?_)
  case hE =>
    rcases hp with ⟨e0, -⟩
    · exact e0
  refine lv_istore (lv' := [(6, .int k), (5, .int (nI i)), (4, .ref (eX V 601)), (3, .ref (eX V 600)), (2, .ref (eX V 500)), (1, .ref (eX V 96)), (0, .ref b)]) hx hcd dL_law_1131 hl (by decide) rfl (fun ls hl => ?_)
  replace h := cH_m h
  refine lv_aload_n hx hcd dL_law_1133 rfl (lv_at hl 4 rfl) ?_
  refine lv_aload_n hx hcd dL_law_1134 rfl (lv_at hl 6 rfl) ?_
  refine lv_iload hx hcd dL_law_1135 (lv_at hl 1 rfl) ?_
  refine lv_iconst (v := nI 1) hx hcd dL_law_1137 (by decide) ?_
  refine w_iadd (v := nI (i + 1)) hx hcd dL_law_1138 (nI_add _ _) ?_
  refine va_sld hx hcd hX hbl hbA h.2.2 (vp_in_nI (n := i + 1) (by omega) (by omega)) dL_law_1139 ?_
  refine fk_Vi (As := [.int (xs (nI (i + 1)).toNatClampNeg)]) (rest := []) (b := eX V 500) G hC hB hV h (met_X4_longestChain l _ M B hg hA.1 (xs (nI (i + 1)).toNatClampNeg) f0 hf0) mw_1663 (show kV yX4_longestChain cX4_longestChain 2 (some .int) 1 from ⟨mw_1664, mw_1665, mw_64, mw_1666, by decide, by decide, by decide +kernel⟩) ⟨rfl, rfl⟩ ⟨by show 3 + 1 ≤ R.frames; omega, by show 8 + (2 + 11) + 67 ≤ R.locals; omega⟩ (r_M hC h) rfl rfl hl.1 (Nat.le_of_ble_eq_true rfl) dL_law_1140 ⟨by omega, by omega⟩ (fun r2 u2 H locs hq h => ?_)
  refine lv_istore (lv' := [(7, .int r2), (6, .int k), (5, .int (nI i)), (4, .ref (eX V 601)), (3, .ref (eX V 600)), (2, .ref (eX V 500)), (1, .ref (eX V 96)), (0, .ref b)]) hx hcd dL_law_1143 hl (by decide) rfl (fun ls hl => ?_)
  have key : u2.1 3 = k ∧ (k = nI 0 → u.2 0 = r2.toInt64) ∧ rel (n + 1) u.1 u2 := by
    rcases hp with ⟨hk0, r, hp1, hu⟩ | ⟨hk0, hp1⟩
    · obtain ⟨q1, q2, q3⟩ := hcs.1 _ _ _ _ hp1 hq
      exact ⟨q1.trans hk0.symm, fun _ => by rw [hu, ← q2]; rfl, q3⟩
    · have q := hcs.2 _ _ _ _ hp1 hq
      exact ⟨q.2.1.trans hk0.symm, fun z => absurd (hk0.symm.trans z) (by decide), q.2.2⟩
  obtain ⟨k1, k2, k3⟩ := key
  exact lt_i (t1 := 1156) (t2 := 1173) (t3 := 2868) hV G hC hB mw_1531 h hl k1 k2 (by omega) (by omega) (by omega) (by omega) dL_law_1145 dL_law_1146 dL_law_1149 dL_law_1151 (by decide) dL_law_1156 dL_law_1158 (by decide) dL_law_1161 dL_law_1162 dL_law_1163 dL_law_1164 dL_law_1166 dL_law_1167 dL_law_1168 (by decide) dL_law_1173 (by decide) (fun H locs ls h hl => kk _ _ _ _ H locs ls _ _ k3 h hl (by omega) (by omega))
set_option maxHeartbeats 4000000 in
set_option maxRecDepth 100000 in
theorem lc_15_storyInOrder (hst : l.stackTraces = false) (hV : kOk V) (G : CallFix p m c cL_law 9 s args LW RL) (hC : cSt V s) (hB : eB V ≤ s.heap.size) (hX : va_X b LN xs s s.heap) (hbl : b < s.heap.size) (hbA : ¬ eA V b) (hn : n ≤ 600) (hr : rel n S M) (h : cH V s H locs (LWs V S M O OD)) (hi : i + 3 ≤ LN) (hLN : LN ≤ 1536) (hl : lv_has ls 9 (lv0 V b i)) (hRf : 30 ≤ R.frames) (hRl : 1500 ≤ R.locals) (hc : cells + 24 ≤ R.cells) (hs : slots + 3000 ≤ R.slots)
    (kk : ∀ (S : kCs) (M : kMs) (O : Nat → Int64) (OD : Nat → UInt64) (H : Heap) (locs : List Loc) (ls : Array Slot) (cells1 slots1 : Nat), rel (n + 1) S M → cH V s H locs (LWs V S M O OD) → lv_has ls 9 (lv0 V b i) → cells1 ≤ cells + 24 → slots1 ≤ slots + 3000 → W p l e R s m args below meth c H locs cells1 slots1 Q (F0 m 2868 ls [])) : W p l e R s m args below meth c H locs cells slots Q (F0 m 1176 ls []) := by
  have hx := G.1
  have hcd := G.2.1
  obtain ⟨B, nx, sz, L0, L, ep, fp, s0, hd⟩ := hr
  obtain ⟨e1, hA, hg, hH, hSs, hLL, hTT, hEE, hXX⟩ := id hd
  obtain ⟨f0, hf0⟩ := hXX.2.2.1
  obtain ⟨g0, hg0⟩ := hXX.2.2.2.1
  obtain ⟨pp, hpp⟩ := hXX.2.2.2.2.1
  obtain ⟨cm, hcm⟩ := hXX.2.2.2.2.2.1
  obtain ⟨sg, hsg, hsg2⟩ := hLL.2.2.2
  have hx5 : nx < 60000 := by have := hH.2.2.1; omega
  have eS : setB S 0 B = S := rel_S hd
  replace h : cH V s H locs (LWs V (setB S 0 B) M O OD) := by rw [eS]; exact h
  refine lv_aload_n hx hcd dL_law_1176 rfl (lv_at hl 4 rfl) ?_
  refine lv_aload_n hx hcd dL_law_1177 rfl (lv_at hl 5 rfl) ?_
  refine lv_iload hx hcd dL_law_1178 (lv_at hl 0 rfl) ?_
  refine lv_iconst (v := nI 1) hx hcd dL_law_1180 (by decide) ?_
  refine w_iadd (v := nI (i + 1)) hx hcd dL_law_1181 (nI_add _ _) ?_
  refine va_sld hx hcd hX hbl hbA h.2.2 (vp_in_nI (n := i + 1) (by omega) (by omega)) dL_law_1182 ?_
  refine lv_aload_n hx hcd dL_law_1183 rfl (lv_at hl 2 rfl) ?_
  replace h := cH_f h
  have hcs := cs_storyInOrder (x := (xs (nI (i + 1)).toNatClampNeg)) hd
  refine lw_S (F := lwF V) (u0 := (setB S 0 B, O)) (As := [.ref (eX V 96), .int (xs (nI (i + 1)).toNatClampNeg), .ref (eX V 600)]) (rest := []) G hC hB hV h (met_L_storyInOrder l _ (frV_ok _ _ _) (setB S 0 B) O (xs (nI (i + 1)).toNatClampNeg) (fun ws n => met_X3_storyInOrder l hst _ S B hA.1 (xs (nI (i + 1)).toNatClampNeg)) (fun E u hp => ?hE)) mw_1012 (show kSw yL_storyInOrder cL_storyInOrder 4 [(0, 9, 12, 66)] 3 from ⟨mw_1013, mw_55, mw_1014, by decide, by decide, by decide +kernel⟩) ⟨rfl, rfl⟩ ⟨by show 8 + 1 ≤ R.frames; omega, by show 8 + (4 + 11) + 132 ≤ R.locals; omega⟩ rfl rfl hl.1 (Nat.le_of_ble_eq_true rfl) dL_law_1184 ⟨by omega, by omega⟩ (fun k u H locs hp h => ?_)
  case hE =>
    rcases hp with ⟨e0, -⟩
    · exact e0
  refine lv_istore (lv' := [(6, .int k), (5, .int (nI i)), (4, .ref (eX V 601)), (3, .ref (eX V 600)), (2, .ref (eX V 500)), (1, .ref (eX V 96)), (0, .ref b)]) hx hcd dL_law_1187 hl (by decide) rfl (fun ls hl => ?_)
  replace h := cH_m h
  refine lv_aload_n hx hcd dL_law_1189 rfl (lv_at hl 4 rfl) ?_
  refine lv_aload_n hx hcd dL_law_1190 rfl (lv_at hl 6 rfl) ?_
  refine lv_iload hx hcd dL_law_1191 (lv_at hl 1 rfl) ?_
  refine lv_iconst (v := nI 1) hx hcd dL_law_1193 (by decide) ?_
  refine w_iadd (v := nI (i + 1)) hx hcd dL_law_1194 (nI_add _ _) ?_
  refine va_sld hx hcd hX hbl hbA h.2.2 (vp_in_nI (n := i + 1) (by omega) (by omega)) dL_law_1195 ?_
  refine fk_Vi (As := [.int (xs (nI (i + 1)).toNatClampNeg)]) (rest := []) (b := eX V 500) G hC hB hV h (met_X4_storyInOrder l _ M B hg hA.1 (xs (nI (i + 1)).toNatClampNeg) (bA_R hA)) mw_1674 (show kV yX4_storyInOrder cX4_storyInOrder 5 (some .int) 1 from ⟨mw_1675, mw_1676, mw_64, mw_1677, by decide, by decide, by decide +kernel⟩) ⟨rfl, rfl⟩ ⟨by show 2 + 1 ≤ R.frames; omega, by show 8 + (5 + 11) + 43 ≤ R.locals; omega⟩ (r_M hC h) rfl rfl hl.1 (Nat.le_of_ble_eq_true rfl) dL_law_1196 ⟨by omega, by omega⟩ (fun r2 u2 H locs hq h => ?_)
  refine lv_istore (lv' := [(7, .int r2), (6, .int k), (5, .int (nI i)), (4, .ref (eX V 601)), (3, .ref (eX V 600)), (2, .ref (eX V 500)), (1, .ref (eX V 96)), (0, .ref b)]) hx hcd dL_law_1199 hl (by decide) rfl (fun ls hl => ?_)
  have key : u2.1 3 = k ∧ (k = nI 0 → u.2 0 = r2.toInt64) ∧ rel (n + 1) u.1 u2 := by
    rcases hp with ⟨hk0, r, hp1, hu⟩ | ⟨hk0, hp1⟩
    · obtain ⟨q1, q2, q3⟩ := hcs.1 _ _ _ _ hp1 hq
      exact ⟨q1.trans hk0.symm, fun _ => by rw [hu, ← q2]; rfl, q3⟩
    · have q := hcs.2 _ _ _ _ hp1 hq
      exact ⟨q.2.1.trans hk0.symm, fun z => absurd (hk0.symm.trans z) (by decide), q.2.2⟩
  obtain ⟨k1, k2, k3⟩ := key
  exact lt_i (t1 := 1212) (t2 := 1229) (t3 := 2868) hV G hC hB mw_1531 h hl k1 k2 (by omega) (by omega) (by omega) (by omega) dL_law_1201 dL_law_1202 dL_law_1205 dL_law_1207 (by decide) dL_law_1212 dL_law_1214 (by decide) dL_law_1217 dL_law_1218 dL_law_1219 dL_law_1220 dL_law_1222 dL_law_1223 dL_law_1224 (by decide) dL_law_1229 (by decide) (fun H locs ls h hl => kk _ _ _ _ H locs ls _ _ k3 h hl (by omega) (by omega))
end LC
