/-! THE LAW: cases of its switch. -/
section LC
variable {p : Program} {l : Launch} {e : Env} {R : Room} {s : State} {m : MethodId} {args : Array Value} {below : List Frame} {meth : Method} {c : Code} {H : Heap} {locs : List Loc} {cells slots : Nat} {Q : State → Prop}
variable {ls : Array Slot} {V : kEnv} {S : kCs} {M : kMs} {O : Nat → Int64} {OD : Nat → UInt64} {n b LN i : Nat} {xs : Nat → Int32}
set_option maxHeartbeats 4000000 in
set_option maxRecDepth 100000 in
theorem lc_0_addStory (hst : l.stackTraces = false) (hV : kOk V) (G : CallFix p m c cL_law 9 s args LW RL) (hC : cSt V s) (hB : eB V ≤ s.heap.size) (hX : va_X b LN xs s s.heap) (hbl : b < s.heap.size) (hbA : ¬ eA V b) (hn : n ≤ 600) (hr : rel n S M) (h : cH V s H locs (LWs V S M O OD)) (hi : i + 3 ≤ LN) (hLN : LN ≤ 1536) (hl : lv_has ls 9 (lv0 V b i)) (hRf : 30 ≤ R.frames) (hRl : 1500 ≤ R.locals) (hc : cells + 24 ≤ R.cells) (hs : slots + 3000 ≤ R.slots)
    (kk : ∀ (S : kCs) (M : kMs) (O : Nat → Int64) (OD : Nat → UInt64) (H : Heap) (locs : List Loc) (ls : Array Slot) (cells1 slots1 : Nat), rel (n + 1) S M → cH V s H locs (LWs V S M O OD) → lv_has ls 9 (lv0 V b i) → cells1 ≤ cells + 24 → slots1 ≤ slots + 3000 → W p l e R s m args below meth c H locs cells1 slots1 Q (F0 m 2868 ls [])) : W p l e R s m args below meth c H locs cells slots Q (F0 m 272 ls []) := by
  have hx := G.1
  have hcd := G.2.1
  obtain ⟨B, nx, sz, L0, L, ep, fp, s0, hd⟩ := hr
  obtain ⟨e1, hA, hg, hH, hSs, hLL, hTT, hEE, hXX⟩ := id hd
  obtain ⟨f0, hf0⟩ := hXX.2.2.1
  obtain ⟨g0, hg0⟩ := hXX.2.2.2.1
  obtain ⟨pp, hpp⟩ := hXX.2.2.2.2.1
  obtain ⟨cm, hcm⟩ := hXX.2.2.2.2.2.1
  obtain ⟨sg, hsg, hsg2⟩ := hLL.2.2.2
  have hx5 : nx < 60000 := by have := hH.2.2.1; omega
  have eS : setB S 0 B = S := rel_S hd
  replace h : cH V s H locs (LWs V (setB S 0 B) M O OD) := by rw [eS]; exact h
  have hpl : (B.2 2).testBit (B.2 0) = false := by
    cases z : (B.2 2).testBit (B.2 0) with
    | false => rfl
    | true => exact absurd (hA.2.2.2.2.2.1 _ z) (Nat.lt_irrefl _)
  refine lv_aload_n hx hcd dL_law_272 rfl (lv_at hl 4 rfl) ?_
  refine lv_aload_n hx hcd dL_law_273 rfl (lv_at hl 5 rfl) ?_
  refine lv_iload hx hcd dL_law_274 (lv_at hl 0 rfl) ?_
  refine lv_iconst (v := nI 1) hx hcd dL_law_276 (by decide) ?_
  refine w_iadd (v := nI (i + 1)) hx hcd dL_law_277 (nI_add _ _) ?_
  refine va_sld hx hcd hX hbl hbA h.2.2 (vp_in_nI (n := i + 1) (by omega) (by omega)) dL_law_278 ?_
  refine lv_aload_n hx hcd dL_law_279 rfl (lv_at hl 2 rfl) ?_
  replace h := cH_f h
  have hcs := cs_addStory (x := (xs (nI (i + 1)).toNatClampNeg)) hd
  refine lw_S (F := lwF V) (u0 := (setB S 0 B, O)) (As := [.ref (eX V 96), .int (xs (nI (i + 1)).toNatClampNeg), .ref (eX V 600)]) (rest := []) G hC hB hV h (met_L_addStory l _ (frV_ok _ _ _) (setB S 0 B) O (xs (nI (i + 1)).toNatClampNeg) (fun ws n => met_X3_addStory l hst _ S B hA.1 nx sz hH.1 hH.2.1 hx5 hH.2.2.2.1 (hXX.1 _ (by omega)) (xs (nI (i + 1)).toNatClampNeg)) (fun E u hp => ?hE)) mw_779 (show kSw yL_addStory cL_addStory 4 [(0, 9, 12, 13), (0, 9, 15, 15)] 3 from ⟨mw_780, mw_55, mw_781, by decide, by decide, by decide +kernel⟩) ⟨rfl, rfl⟩ ⟨by show 9 + 1 ≤ R.frames; omega, by show 8 + (4 + 11) + 152 ≤ R.locals; omega⟩ rfl rfl hl.1 (Nat.le_of_ble_eq_true rfl) dL_law_280 ⟨by omega, by omega⟩ (fun k u H locs hp h => ?_)
  case hE =>
    rcases hp with ⟨e0, -⟩ | ⟨_, -, -, -, -, e0, -⟩
    · rw [e0]; exact Or.inl rfl
    · rw [e0]; exact Or.inr (rfl)
  refine lv_istore (lv' := [(6, .int k), (5, .int (nI i)), (4, .ref (eX V 601)), (3, .ref (eX V 600)), (2, .ref (eX V 500)), (1, .ref (eX V 96)), (0, .ref b)]) hx hcd dL_law_283 hl (by decide) rfl (fun ls hl => ?_)
  replace h := cH_m h
  refine lv_aload_n hx hcd dL_law_285 rfl (lv_at hl 4 rfl) ?_
  refine lv_aload_n hx hcd dL_law_286 rfl (lv_at hl 6 rfl) ?_
  refine lv_iload hx hcd dL_law_287 (lv_at hl 1 rfl) ?_
  refine lv_iconst (v := nI 1) hx hcd dL_law_289 (by decide) ?_
  refine w_iadd (v := nI (i + 1)) hx hcd dL_law_290 (nI_add _ _) ?_
  refine va_sld hx hcd hX hbl hbA h.2.2 (vp_in_nI (n := i + 1) (by omega) (by omega)) dL_law_291 ?_
  refine fk_Vi (As := [.int (xs (nI (i + 1)).toNatClampNeg)]) (rest := []) (b := eX V 500) G hC hB hV h (met_X4_addStory l _ M B hg hA.1 0 sz hXX.2.1 (by decide) hH.2.2.2.2.2.1 hH.2.2.2.1 hpl (xs (nI (i + 1)).toNatClampNeg)) mw_1535 (show kV yX4_addStory cX4_addStory 3 (some .int) 1 from ⟨mw_1536, mw_1537, mw_64, mw_1538, by decide, by decide, by decide +kernel⟩) ⟨rfl, rfl⟩ ⟨by show 2 + 1 ≤ R.frames; omega, by show 8 + (3 + 11) + 46 ≤ R.locals; omega⟩ (r_M hC h) rfl rfl hl.1 (Nat.le_of_ble_eq_true rfl) dL_law_292 ⟨by omega, by omega⟩ (fun r2 u2 H locs hq h => ?_)
  refine lv_istore (lv' := [(7, .int r2), (6, .int k), (5, .int (nI i)), (4, .ref (eX V 601)), (3, .ref (eX V 600)), (2, .ref (eX V 500)), (1, .ref (eX V 96)), (0, .ref b)]) hx hcd dL_law_295 hl (by decide) rfl (fun ls hl => ?_)
  have key : u2.1 3 = k ∧ (k = nI 0 → u.2 0 = r2.toInt64) ∧ rel (n + 1) u.1 u2 := by
    rcases hp with ⟨hk0, r, hp1, hu⟩ | ⟨hk0, hp1⟩ | ⟨hk0, hp1⟩
    · obtain ⟨q1, q2, q3⟩ := hcs.1 _ _ _ _ hp1 hq
      exact ⟨q1.trans hk0.symm, fun _ => by rw [hu, ← q2]; rfl, q3⟩
    · have q := hcs.2 _ _ _ _ hp1 hq
      rcases q with ⟨q1, q2, q3⟩ | ⟨q1, q2, q3⟩
      · exact ⟨q2.trans hk0.symm, fun z => absurd (hk0.symm.trans z) (by decide), q3⟩
      · exact absurd q1 (by decide)
    · have q := hcs.2 _ _ _ _ hp1 hq
      rcases q with ⟨q1, q2, q3⟩ | ⟨q1, q2, q3⟩
      · exact absurd q1 (by decide)
      · exact ⟨q2.trans hk0.symm, fun z => absurd (hk0.symm.trans z) (by decide), q3⟩
  obtain ⟨k1, k2, k3⟩ := key
  exact lt_i (t1 := 308) (t2 := 325) (t3 := 2868) hV G hC hB mw_1531 h hl k1 k2 (by omega) (by omega) (by omega) (by omega) dL_law_297 dL_law_298 dL_law_301 dL_law_303 (by decide) dL_law_308 dL_law_310 (by decide) dL_law_313 dL_law_314 dL_law_315 dL_law_316 dL_law_318 dL_law_319 dL_law_320 (by decide) dL_law_325 (by decide) (fun H locs ls h hl => kk _ _ _ _ H locs ls _ _ k3 h hl (by omega) (by omega))
set_option maxHeartbeats 4000000 in
set_option maxRecDepth 100000 in
theorem lc_1_reestimate (hst : l.stackTraces = false) (hV : kOk V) (G : CallFix p m c cL_law 9 s args LW RL) (hC : cSt V s) (hB : eB V ≤ s.heap.size) (hX : va_X b LN xs s s.heap) (hbl : b < s.heap.size) (hbA : ¬ eA V b) (hn : n ≤ 600) (hr : rel n S M) (h : cH V s H locs (LWs V S M O OD)) (hi : i + 3 ≤ LN) (hLN : LN ≤ 1536) (hl : lv_has ls 9 (lv0 V b i)) (hRf : 30 ≤ R.frames) (hRl : 1500 ≤ R.locals) (hc : cells + 24 ≤ R.cells) (hs : slots + 3000 ≤ R.slots)
    (kk : ∀ (S : kCs) (M : kMs) (O : Nat → Int64) (OD : Nat → UInt64) (H : Heap) (locs : List Loc) (ls : Array Slot) (cells1 slots1 : Nat), rel (n + 1) S M → cH V s H locs (LWs V S M O OD) → lv_has ls 9 (lv0 V b i) → cells1 ≤ cells + 24 → slots1 ≤ slots + 3000 → W p l e R s m args below meth c H locs cells1 slots1 Q (F0 m 2868 ls [])) : W p l e R s m args below meth c H locs cells slots Q (F0 m 328 ls []) := by
  have hx := G.1
  have hcd := G.2.1
  obtain ⟨B, nx, sz, L0, L, ep, fp, s0, hd⟩ := hr
  obtain ⟨e1, hA, hg, hH, hSs, hLL, hTT, hEE, hXX⟩ := id hd
  obtain ⟨f0, hf0⟩ := hXX.2.2.1
  obtain ⟨g0, hg0⟩ := hXX.2.2.2.1
  obtain ⟨pp, hpp⟩ := hXX.2.2.2.2.1
  obtain ⟨cm, hcm⟩ := hXX.2.2.2.2.2.1
  obtain ⟨sg, hsg, hsg2⟩ := hLL.2.2.2
  have hx5 : nx < 60000 := by have := hH.2.2.1; omega
  have eS : setB S 0 B = S := rel_S hd
  replace h : cH V s H locs (LWs V (setB S 0 B) M O OD) := by rw [eS]; exact h
  refine lv_aload_n hx hcd dL_law_328 rfl (lv_at hl 4 rfl) ?_
  refine lv_aload_n hx hcd dL_law_329 rfl (lv_at hl 5 rfl) ?_
  refine lv_iload hx hcd dL_law_330 (lv_at hl 0 rfl) ?_
  refine lv_iconst (v := nI 1) hx hcd dL_law_332 (by decide) ?_
  refine w_iadd (v := nI (i + 1)) hx hcd dL_law_333 (nI_add _ _) ?_
  refine va_sld hx hcd hX hbl hbA h.2.2 (vp_in_nI (n := i + 1) (by omega) (by omega)) dL_law_334 ?_
  refine lv_aload_n hx hcd dL_law_335 rfl (lv_at hl 5 rfl) ?_
  refine lv_iload hx hcd dL_law_336 (lv_at hl 0 rfl) ?_
  refine lv_iconst (v := nI 2) hx hcd dL_law_338 (by decide) ?_
  refine w_iadd (v := nI (i + 2)) hx hcd dL_law_339 (nI_add _ _) ?_
  refine va_sld hx hcd hX hbl hbA h.2.2 (vp_in_nI (n := i + 2) (by omega) (by omega)) dL_law_340 ?_
  refine lv_aload_n hx hcd dL_law_341 rfl (lv_at hl 2 rfl) ?_
  replace h := cH_f h
  have hcs := cs_reestimate (x := (xs (nI (i + 1)).toNatClampNeg)) (y := (xs (nI (i + 2)).toNatClampNeg)) hd
  refine lw_S (F := lwF V) (u0 := (setB S 0 B, O)) (As := [.ref (eX V 96), .int (xs (nI (i + 1)).toNatClampNeg), .int (xs (nI (i + 2)).toNatClampNeg), .ref (eX V 600)]) (rest := []) G hC hB hV h (met_L_reestimate l _ (frV_ok _ _ _) (setB S 0 B) O (xs (nI (i + 1)).toNatClampNeg) (xs (nI (i + 2)).toNatClampNeg) (fun ws n => met_X3_reestimate l hst _ S B hA.1 nx sz hH.1 hH.2.1 hx5 hH.2.2.2.1 (hXX.1 _ (by omega)) (xs (nI (i + 1)).toNatClampNeg) (xs (nI (i + 2)).toNatClampNeg)) (fun E u hp => ?hE)) mw_836 (show kSw yL_reestimate cL_reestimate 5 [(0, 10, 13, 21), (0, 10, 17, 13), (0, 10, 21, 15)] 4 from ⟨mw_837, mw_55, mw_838, by decide, by decide, by decide +kernel⟩) ⟨rfl, rfl⟩ ⟨by show 9 + 1 ≤ R.frames; omega, by show 8 + (5 + 11) + 153 ≤ R.locals; omega⟩ rfl rfl hl.1 (Nat.le_of_ble_eq_true rfl) dL_law_342 ⟨by omega, by omega⟩ (fun k u H locs hp h => ?_)
  case hE =>
    rcases hp with ⟨e0, -⟩ | ⟨_, -, -, e0, -⟩ | ⟨_, _, -, -, -, -, -, -, e0, -⟩
    · rw [e0]; exact Or.inl rfl
    · rw [e0]; exact Or.inr (Or.inl rfl)
    · rw [e0]; exact Or.inr (Or.inr (rfl))
  refine lv_istore (lv' := [(6, .int k), (5, .int (nI i)), (4, .ref (eX V 601)), (3, .ref (eX V 600)), (2, .ref (eX V 500)), (1, .ref (eX V 96)), (0, .ref b)]) hx hcd dL_law_345 hl (by decide) rfl (fun ls hl => ?_)
  replace h := cH_m h
  refine lv_aload_n hx hcd dL_law_347 rfl (lv_at hl 4 rfl) ?_
  refine lv_aload_n hx hcd dL_law_348 rfl (lv_at hl 6 rfl) ?_
  refine lv_iload hx hcd dL_law_349 (lv_at hl 1 rfl) ?_
  refine lv_iconst (v := nI 1) hx hcd dL_law_351 (by decide) ?_
  refine w_iadd (v := nI (i + 1)) hx hcd dL_law_352 (nI_add _ _) ?_
  refine va_sld hx hcd hX hbl hbA h.2.2 (vp_in_nI (n := i + 1) (by omega) (by omega)) dL_law_353 ?_
  refine lv_aload_n hx hcd dL_law_354 rfl (lv_at hl 6 rfl) ?_
  refine lv_iload hx hcd dL_law_355 (lv_at hl 1 rfl) ?_
  refine lv_iconst (v := nI 2) hx hcd dL_law_357 (by decide) ?_
  refine w_iadd (v := nI (i + 2)) hx hcd dL_law_358 (nI_add _ _) ?_
  refine va_sld hx hcd hX hbl hbA h.2.2 (vp_in_nI (n := i + 2) (by omega) (by omega)) dL_law_359 ?_
  refine fk_Vi (As := [.int (xs (nI (i + 1)).toNatClampNeg), .int (xs (nI (i + 2)).toNatClampNeg)]) (rest := []) (b := eX V 500) G hC hB hV h (met_X4_reestimate l _ M B hg hA.1 0 sz hXX.2.1 (by decide) hH.2.2.2.2.2.1 hH.2.2.2.1 hA.2.1 hA.2.2.1 (xs (nI (i + 1)).toNatClampNeg) (xs (nI (i + 2)).toNatClampNeg)) mw_1560 (show kV yX4_reestimate cX4_reestimate 4 (some .int) 2 from ⟨mw_1561, mw_1562, mw_64, mw_1563, by decide, by decide, by decide +kernel⟩) ⟨rfl, rfl⟩ ⟨by show 2 + 1 ≤ R.frames; omega, by show 8 + (4 + 11) + 46 ≤ R.locals; omega⟩ (r_M hC h) rfl rfl hl.1 (Nat.le_of_ble_eq_true rfl) dL_law_360 ⟨by omega, by omega⟩ (fun r2 u2 H locs hq h => ?_)
  refine lv_istore (lv' := [(7, .int r2), (6, .int k), (5, .int (nI i)), (4, .ref (eX V 601)), (3, .ref (eX V 600)), (2, .ref (eX V 500)), (1, .ref (eX V 96)), (0, .ref b)]) hx hcd dL_law_363 hl (by decide) rfl (fun ls hl => ?_)
  have key : u2.1 3 = k ∧ (k = nI 0 → u.2 0 = r2.toInt64) ∧ rel (n + 1) u.1 u2 := by
    rcases hp with ⟨hk0, r, hp1, hu⟩ | ⟨hk0, hp1⟩ | ⟨hk0, hp1⟩ | ⟨hk0, hp1⟩
    · obtain ⟨q1, q2, q3⟩ := hcs.1 _ _ _ _ hp1 hq
      exact ⟨q1.trans hk0.symm, fun _ => by rw [hu, ← q2]; rfl, q3⟩
    · have q := hcs.2 _ _ _ _ hp1 hq
      rcases q with ⟨q1, q2, q3⟩ | ⟨q1, q2, q3⟩ | ⟨q1, q2, q3⟩
      · exact ⟨q2.trans hk0.symm, fun z => absurd (hk0.symm.trans z) (by decide), q3⟩
      · exact absurd q1 (by decide)
      · exact absurd q1 (by decide)
    · have q := hcs.2 _ _ _ _ hp1 hq
      rcases q with ⟨q1, q2, q3⟩ | ⟨q1, q2, q3⟩ | ⟨q1, q2, q3⟩
      · exact absurd q1 (by decide)
      · exact ⟨q2.trans hk0.symm, fun z => absurd (hk0.symm.trans z) (by decide), q3⟩
      · exact absurd q1 (by decide)
    · have q := hcs.2 _ _ _ _ hp1 hq
      rcases q with ⟨q1, q2, q3⟩ | ⟨q1, q2, q3⟩ | ⟨q1, q2, q3⟩
      · exact absurd q1 (by decide)
      · exact absurd q1 (by decide)
      · exact ⟨q2.trans hk0.symm, fun z => absurd (hk0.symm.trans z) (by decide), q3⟩
  obtain ⟨k1, k2, k3⟩ := key
  exact lt_i (t1 := 376) (t2 := 393) (t3 := 2868) hV G hC hB mw_1531 h hl k1 k2 (by omega) (by omega) (by omega) (by omega) dL_law_365 dL_law_366 dL_law_369 dL_law_371 (by decide) dL_law_376 dL_law_378 (by decide) dL_law_381 dL_law_382 dL_law_383 dL_law_384 dL_law_386 dL_law_387 dL_law_388 (by decide) dL_law_393 (by decide) (fun H locs ls h hl => kk _ _ _ _ H locs ls _ _ k3 h hl (by omega) (by omega))
end LC
