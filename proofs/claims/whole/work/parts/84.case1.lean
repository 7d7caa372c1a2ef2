/-! THE LAW: cases of its switch. -/
section LC
variable {p : Program} {l : Launch} {e : Env} {R : Room} {s : State} {m : MethodId} {args : Array Value} {below : List Frame} {meth : Method} {c : Code} {H : Heap} {locs : List Loc} {cells slots : Nat} {Q : State → Prop}
variable {ls : Array Slot} {V : kEnv} {S : kCs} {M : kMs} {O : Nat → Int64} {OD : Nat → UInt64} {n b LN i : Nat} {xs : Nat → Int32}
set_option maxHeartbeats 4000000 in
set_option maxRecDepth 100000 in
theorem lc_16_addDeveloper (hst : l.stackTraces = false) (hV : kOk V) (G : CallFix p m c cL_law 9 s args LW RL) (hC : cSt V s) (hB : eB V ≤ s.heap.size) (hX : va_X b LN xs s s.heap) (hbl : b < s.heap.size) (hbA : ¬ eA V b) (hn : n ≤ 600) (hr : rel n S M) (h : cH V s H locs (LWs V S M O OD)) (hi : i + 3 ≤ LN) (hLN : LN ≤ 1536) (hl : lv_has ls 9 (lv0 V b i)) (hRf : 30 ≤ R.frames) (hRl : 1500 ≤ R.locals) (hc : cells + 24 ≤ R.cells) (hs : slots + 3000 ≤ R.slots)
    (kk : ∀ (S : kCs) (M : kMs) (O : Nat → Int64) (OD : Nat → UInt64) (H : Heap) (locs : List Loc) (ls : Array Slot) (cells1 slots1 : Nat), rel (n + 1) S M → cH V s H locs (LWs V S M O OD) → lv_has ls 9 (lv0 V b i) → cells1 ≤ cells + 24 → slots1 ≤ slots + 3000 → W p l e R s m args below meth c H locs cells1 slots1 Q (F0 m 2868 ls [])) : W p l e R s m args below meth c H locs cells slots Q (F0 m 1232 ls []) := by
  have hx := G.1
  have hcd := G.2.1
  obtain ⟨B, nx, sz, L0, L, ep, fp, s0, hd⟩ := hr
  obtain ⟨e1, hA, hg, hH, hSs, hLL, hTT, hEE, hXX⟩ := id hd
  obtain ⟨f0, hf0⟩ := hXX.2.2.1
  obtain ⟨g0, hg0⟩ := hXX.2.2.2.1
  obtain ⟨pp, hpp⟩ := hXX.2.2.2.2.1
  obtain ⟨cm, hcm⟩ := hXX.2.2.2.2.2.1
  obtain ⟨sg, hsg, hsg2⟩ := hLL.2.2.2
  have hx5 : nx < 60000 := by have := hH.2.2.1; omega
  have eS : setB S 0 B = S := rel_S hd
  replace h : cH V s H locs (LWs V (setB S 0 B) M O OD) := by rw [eS]; exact h
  refine lv_aload_n hx hcd dL_law_1232 rfl (lv_at hl 4 rfl) ?_
  refine lv_aload_n hx hcd dL_law_1233 rfl (lv_at hl 5 rfl) ?_
  refine lv_iload hx hcd dL_law_1234 (lv_at hl 0 rfl) ?_
  refine lv_iconst (v := nI 1) hx hcd dL_law_1236 (by decide) ?_
  refine w_iadd (v := nI (i + 1)) hx hcd dL_law_1237 (nI_add _ _) ?_
  refine va_sld hx hcd hX hbl hbA h.2.2 (vp_in_nI (n := i + 1) (by omega) (by omega)) dL_law_1238 ?_
  refine lv_aload_n hx hcd dL_law_1239 rfl (lv_at hl 2 rfl) ?_
  replace h := cH_f h
  have hcs := cs_addDeveloper (x := (xs (nI (i + 1)).toNatClampNeg)) hd
  refine lw_S (F := lwF V) (u0 := (setB S 0 B, O)) (As := [.ref (eX V 96), .int (xs (nI (i + 1)).toNatClampNeg), .ref (eX V 600)]) (rest := []) G hC hB hV h (met_L_addDeveloper l _ (frV_ok _ _ _) (setB S 0 B) O (xs (nI (i + 1)).toNatClampNeg) (fun ws n => met_X3_addDeveloper l hst _ S B hA.1 nx sz hH.1 hH.2.1 hx5 hH.2.2.2.1 (hXX.1 _ (by omega)) (xs (nI (i + 1)).toNatClampNeg)) (fun E u hp => ?hE)) mw_1047 (show kSw yL_addDeveloper cL_addDeveloper 4 [(0, 9, 12, 13), (0, 9, 15, 15)] 3 from ⟨mw_1048, mw_55, mw_1049, by decide, by decide, by decide +kernel⟩) ⟨rfl, rfl⟩ ⟨by show 9 + 1 ≤ R.frames; omega, by show 8 + (4 + 11) + 152 ≤ R.locals; omega⟩ rfl rfl hl.1 (Nat.le_of_ble_eq_true rfl) dL_law_1240 ⟨by omega, by omega⟩ (fun k u H locs hp h => ?_)
  case hE =>
    rcases hp with ⟨e0, -⟩ | ⟨_, -, -, -, -, e0, -⟩
    · exact Or.inl e0
    · exact Or.inr (e0)
  refine lv_istore (lv' := [(6, .int k), (5, .int (nI i)), (4, .ref (eX V 601)), (3, .ref (eX V 600)), (2, .ref (eX V 500)), (1, .ref (eX V 96)), (0, .ref b)]) hx hcd dL_law_1243 hl (by decide) rfl (fun ls hl => ?_)
  replace h := cH_m h
  refine lv_aload_n hx hcd dL_law_1245 rfl (lv_at hl 4 rfl) ?_
  refine lv_aload_n hx hcd dL_law_1246 rfl (lv_at hl 6 rfl) ?_
  refine lv_iload hx hcd dL_law_1247 (lv_at hl 1 rfl) ?_
  refine lv_iconst (v := nI 1) hx hcd dL_law_1249 (by decide) ?_
  refine w_iadd (v := nI (i + 1)) hx hcd dL_law_1250 (nI_add _ _) ?_
  refine va_sld hx hcd hX hbl hbA h.2.2 (vp_in_nI (n := i + 1) (by omega) (by omega)) dL_law_1251 ?_
  refine fk_Vi (As := [.int (xs (nI (i + 1)).toNatClampNeg)]) (rest := []) (b := eX V 500) G hC hB hV h (met_X4_addDeveloper l _ M B hg hA.1 0 sz hXX.2.1 (by decide) hH.2.2.2.2.2.1 hH.2.2.2.1 (hA.2.2.1 _ (Nat.le_refl _)) (xs (nI (i + 1)).toNatClampNeg)) mw_1678 (show kV yX4_addDeveloper cX4_addDeveloper 3 (some .int) 1 from ⟨mw_1679, mw_1680, mw_64, mw_1681, by decide, by decide, by decide +kernel⟩) ⟨rfl, rfl⟩ ⟨by show 2 + 1 ≤ R.frames; omega, by show 8 + (3 + 11) + 46 ≤ R.locals; omega⟩ (r_M hC h) rfl rfl hl.1 (Nat.le_of_ble_eq_true rfl) dL_law_1252 ⟨by omega, by omega⟩ (fun r2 u2 H locs hq h => ?_)
  refine lv_istore (lv' := [(7, .int r2), (6, .int k), (5, .int (nI i)), (4, .ref (eX V 601)), (3, .ref (eX V 600)), (2, .ref (eX V 500)), (1, .ref (eX V 96)), (0, .ref b)]) hx hcd dL_law_1255 hl (by decide) rfl (fun ls hl => ?_)
  have key : u2.1 3 = k ∧ (k = nI 0 → u.2 0 = r2.toInt64) ∧ rel (n + 1) u.1 u2 := by
    rcases hp with ⟨hk0, r, hp1, hu⟩ | ⟨hk0, hp1⟩ | ⟨hk0, hp1⟩
    · obtain ⟨q1, q2, q3⟩ := hcs.1 _ _ _ _ hp1 hq
      exact ⟨q1.trans hk0.symm, fun _ => by rw [hu, ← q2]; rfl, q3⟩
    · have q := hcs.2 _ _ _ _ hp1 hq
      rcases q with ⟨q1, q2, q3⟩ | ⟨q1, q2, q3⟩
      · exact ⟨q2.trans hk0.symm, fun z => absurd (hk0.symm.trans z) (by decide), q3⟩
      · exact absurd q1 (by decide)
    · have q := hcs.2 _ _ _ _ hp1 hq
      rcases q with ⟨q1, q2, q3⟩ | ⟨q1, q2, q3⟩
      · exact absurd q1 (by decide)
      · exact ⟨q2.trans hk0.symm, fun z => absurd (hk0.symm.trans z) (by decide), q3⟩
  obtain ⟨k1, k2, k3⟩ := key
  exact lt_i (t1 := 1268) (t2 := 1285) (t3 := 2868) hV G hC hB mw_1531 h hl k1 k2 (by omega) (by omega) (by omega) (by omega) dL_law_1257 dL_law_1258 dL_law_1261 dL_law_1263 (by decide) dL_law_1268 dL_law_1270 (by decide) dL_law_1273 dL_law_1274 dL_law_1275 dL_law_1276 dL_law_1278 dL_law_1279 dL_law_1280 (by decide) dL_law_1285 (by decide) (fun H locs ls h hl => kk _ _ _ _ H locs ls _ _ k3 h hl (by omega) (by omega))
set_option maxHeartbeats 4000000 in
set_option maxRecDepth 100000 in
theorem lc_17_assign (hst : l.stackTraces = false) (hV : kOk V) (G : CallFix p m c cL_law 9 s args LW RL) (hC : cSt V s) (hB : eB V ≤ s.heap.size) (hX : va_X b LN xs s s.heap) (hbl : b < s.heap.size) (hbA : ¬ eA V b) (hn : n ≤ 600) (hr : rel n S M) (h : cH V s H locs (LWs V S M O OD)) (hi : i + 3 ≤ LN) (hLN : LN ≤ 1536) (hl : lv_has ls 9 (lv0 V b i)) (hRf : 30 ≤ R.frames) (hRl : 1500 ≤ R.locals) (hc : cells + 24 ≤ R.cells) (hs : slots + 3000 ≤ R.slots)
    (kk : ∀ (S : kCs) (M : kMs) (O : Nat → Int64) (OD : Nat → UInt64) (H : Heap) (locs : List Loc) (ls : Array Slot) (cells1 slots1 : Nat), rel (n + 1) S M → cH V s H locs (LWs V S M O OD) → lv_has ls 9 (lv0 V b i) → cells1 ≤ cells + 24 → slots1 ≤ slots + 3000 → W p l e R s m args below meth c H locs cells1 slots1 Q (F0 m 2868 ls [])) : W p l e R s m args below meth c H locs cells slots Q (F0 m 1288 ls []) := by
  have hx := G.1
  have hcd := G.2.1
  obtain ⟨B, nx, sz, L0, L, ep, fp, s0, hd⟩ := hr
  obtain ⟨e1, hA, hg, hH, hSs, hLL, hTT, hEE, hXX⟩ := id hd
  obtain ⟨f0, hf0⟩ := hXX.2.2.1
  obtain ⟨g0, hg0⟩ := hXX.2.2.2.1
  obtain ⟨pp, hpp⟩ := hXX.2.2.2.2.1
  obtain ⟨cm, hcm⟩ := hXX.2.2.2.2.2.1
  obtain ⟨sg, hsg, hsg2⟩ := hLL.2.2.2
  have hx5 : nx < 60000 := by have := hH.2.2.1; omega
  have eS : setB S 0 B = S := rel_S hd
  replace h : cH V s H locs (LWs V (setB S 0 B) M O OD) := by rw [eS]; exact h
  refine lv_aload_n hx hcd dL_law_1288 rfl (lv_at hl 4 rfl) ?_
  refine lv_aload_n hx hcd dL_law_1289 rfl (lv_at hl 5 rfl) ?_
  refine lv_iload hx hcd dL_law_1290 (lv_at hl 0 rfl) ?_
  refine lv_iconst (v := nI 1) hx hcd dL_law_1292 (by decide) ?_
  refine w_iadd (v := nI (i + 1)) hx hcd dL_law_1293 (nI_add _ _) ?_
  refine va_sld hx hcd hX hbl hbA h.2.2 (vp_in_nI (n := i + 1) (by omega) (by omega)) dL_law_1294 ?_
  refine lv_aload_n hx hcd dL_law_1295 rfl (lv_at hl 5 rfl) ?_
  refine lv_iload hx hcd dL_law_1296 (lv_at hl 0 rfl) ?_
  refine lv_iconst (v := nI 2) hx hcd dL_law_1298 (by decide) ?_
  refine w_iadd (v := nI (i + 2)) hx hcd dL_law_1299 (nI_add _ _) ?_
  refine va_sld hx hcd hX hbl hbA h.2.2 (vp_in_nI (n := i + 2) (by omega) (by omega)) dL_law_1300 ?_
  refine lv_aload_n hx hcd dL_law_1301 rfl (lv_at hl 2 rfl) ?_
  replace h := cH_f h
  have hcs := cs_assign (x := (xs (nI (i + 1)).toNatClampNeg)) (y := (xs (nI (i + 2)).toNatClampNeg)) hd
  refine lw_S (F := lwF V) (u0 := (setB S 0 B, O)) (As := [.ref (eX V 96), .int (xs (nI (i + 1)).toNatClampNeg), .int (xs (nI (i + 2)).toNatClampNeg), .ref (eX V 600)]) (rest := []) G hC hB hV h (met_L_assign l _ (frV_ok _ _ _) (setB S 0 B) O (xs (nI (i + 1)).toNatClampNeg) (xs (nI (i + 2)).toNatClampNeg) (fun ws n => met_X3_assign l hst _ S B hA.1 nx sz hH.1 hH.2.1 hx5 hH.2.2.2.1 (hXX.1 _ (by omega)) (xs (nI (i + 1)).toNatClampNeg) (xs (nI (i + 2)).toNatClampNeg)) (fun E u hp => ?hE)) mw_1066 (show kSw yL_assign cL_assign 5 [(0, 17, 20, 21), (0, 17, 24, 26), (0, 17, 28, 15)] 4 from ⟨mw_1067, mw_55, mw_1068, by decide, by decide, by decide +kernel⟩) ⟨rfl, rfl⟩ ⟨by show 9 + 1 ≤ R.frames; omega, by show 8 + (5 + 11) + 153 ≤ R.locals; omega⟩ rfl rfl hl.1 (Nat.le_of_ble_eq_true rfl) dL_law_1302 ⟨by omega, by omega⟩ (fun k u H locs hp h => ?_)
  case hE =>
    rcases hp with ⟨e0, -⟩ | ⟨_, -, -, e0, -⟩ | ⟨_, _, -, -, -, -, e0, -⟩ | ⟨_, _, -, -, -, -, -, e0, -⟩
    · exact Or.inl e0
    · exact Or.inl e0
    · exact Or.inr (Or.inl e0)
    · exact Or.inr (Or.inr (e0))
  refine lv_istore (lv' := [(6, .int k), (5, .int (nI i)), (4, .ref (eX V 601)), (3, .ref (eX V 600)), (2, .ref (eX V 500)), (1, .ref (eX V 96)), (0, .ref b)]) hx hcd dL_law_1305 hl (by decide) rfl (fun ls hl => ?_)
  replace h := cH_m h
  refine lv_aload_n hx hcd dL_law_1307 rfl (lv_at hl 4 rfl) ?_
  refine lv_aload_n hx hcd dL_law_1308 rfl (lv_at hl 6 rfl) ?_
  refine lv_iload hx hcd dL_law_1309 (lv_at hl 1 rfl) ?_
  refine lv_iconst (v := nI 1) hx hcd dL_law_1311 (by decide) ?_
  refine w_iadd (v := nI (i + 1)) hx hcd dL_law_1312 (nI_add _ _) ?_
  refine va_sld hx hcd hX hbl hbA h.2.2 (vp_in_nI (n := i + 1) (by omega) (by omega)) dL_law_1313 ?_
  refine lv_aload_n hx hcd dL_law_1314 rfl (lv_at hl 6 rfl) ?_
  refine lv_iload hx hcd dL_law_1315 (lv_at hl 1 rfl) ?_
  refine lv_iconst (v := nI 2) hx hcd dL_law_1317 (by decide) ?_
  refine w_iadd (v := nI (i + 2)) hx hcd dL_law_1318 (nI_add _ _) ?_
  refine va_sld hx hcd hX hbl hbA h.2.2 (vp_in_nI (n := i + 2) (by omega) (by omega)) dL_law_1319 ?_
  refine fk_Vi (As := [.int (xs (nI (i + 1)).toNatClampNeg), .int (xs (nI (i + 2)).toNatClampNeg)]) (rest := []) (b := eX V 500) G hC hB hV h (met_X4_assign l _ M B hg hA.1 0 sz hXX.2.1 (by decide) hH.2.2.2.2.2.1 hH.2.2.2.1 (xs (nI (i + 1)).toNatClampNeg) (xs (nI (i + 2)).toNatClampNeg)) mw_1682 (show kV yX4_assign cX4_assign 3 (some .boolean) 2 from ⟨mw_1683, mw_1684, mw_64, mw_1685, by decide, by decide, by decide +kernel⟩) ⟨rfl, rfl⟩ ⟨by show 3 + 1 ≤ R.frames; omega, by show 8 + (3 + 11) + 67 ≤ R.locals; omega⟩ (r_M hC h) rfl rfl hl.1 (Nat.le_of_ble_eq_true rfl) dL_law_1320 ⟨by omega, by omega⟩ (fun r2 u2 H locs hq h => ?_)
  refine lv_istore (lv' := [(7, .int r2), (6, .int k), (5, .int (nI i)), (4, .ref (eX V 601)), (3, .ref (eX V 600)), (2, .ref (eX V 500)), (1, .ref (eX V 96)), (0, .ref b)]) hx hcd dL_law_1323 hl (by decide) rfl (fun ls hl => ?_)
  have key : u2.1 3 = k ∧ (k = nI 0 → u.2 0 = r2.toInt64) ∧ rel (n + 1) u.1 u2 := by
    rcases hp with ⟨hk0, r, hp1, hu⟩ | ⟨hk0, hp1⟩ | ⟨hk0, hp1⟩ | ⟨hk0, hp1⟩
    · obtain ⟨q1, q2, q3⟩ := hcs.1 _ _ _ _ hp1 hq
      have h01 : r2 = 0 ∨ r2 = 1 := by rcases hq with ⟨_, _, _, _, _, _, _, _, e, _⟩ | ⟨_, e, _⟩ | ⟨_, _, _, _, _, _, _, e, _⟩ | ⟨_, _, _, _, _, _, _, _, e, _⟩ <;> first | (rw [e]; exact bz_01 _) | exact Or.inl e
      exact ⟨q1.trans hk0.symm, fun _ => by rw [hu, q2]; rcases h01 with q | q <;> rw [q] <;> rfl, q3⟩
    · have q := hcs.2 _ _ _ _ hp1 hq
      rcases q with ⟨q1, q2, q3⟩ | ⟨q1, q2, q3⟩ | ⟨q1, q2, q3⟩
      · exact ⟨q2.trans hk0.symm, fun z => absurd (hk0.symm.trans z) (by decide), q3⟩
      · exact absurd q1 (by decide)
      · exact absurd q1 (by decide)
    · have q := hcs.2 _ _ _ _ hp1 hq
      rcases q with ⟨q1, q2, q3⟩ | ⟨q1, q2, q3⟩ | ⟨q1, q2, q3⟩
      · exact absurd q1 (by decide)
      · exact ⟨q2.trans hk0.symm, fun z => absurd (hk0.symm.trans z) (by decide), q3⟩
      · exact absurd q1 (by decide)
    · have q := hcs.2 _ _ _ _ hp1 hq
      rcases q with ⟨q1, q2, q3⟩ | ⟨q1, q2, q3⟩ | ⟨q1, q2, q3⟩
      · exact absurd q1 (by decide)
      · exact absurd q1 (by decide)
      · exact ⟨q2.trans hk0.symm, fun z => absurd (hk0.symm.trans z) (by decide), q3⟩
  obtain ⟨k1, k2, k3⟩ := key
  exact lt_z (t1 := 1336) (t2 := 1360) (t3 := 2868) hV G hC hB mw_1531 h hl k1 k2 (by rcases hq with ⟨_, _, _, _, _, _, _, _, e, _⟩ | ⟨_, e, _⟩ | ⟨_, _, _, _, _, _, _, e, _⟩ | ⟨_, _, _, _, _, _, _, _, e, _⟩ <;> first | (rw [e]; exact bz_01 _) | exact Or.inl e) (by omega) (by omega) (by omega) (by omega) dL_law_1325 dL_law_1326 dL_law_1329 dL_law_1331 (by decide) dL_law_1336 dL_law_1338 (by decide) dL_law_1341 dL_law_1342 dL_law_1343 dL_law_1344 dL_law_1346 (by decide) dL_law_1349 dL_law_1350 (by decide) dL_law_1353 dL_law_1354 dL_law_1355 (by decide) dL_law_1360 (by decide) (fun H locs ls h hl => kk _ _ _ _ H locs ls _ _ k3 h hl (by omega) (by omega))
set_option maxHeartbeats 4000000 in
set_option maxRecDepth 100000 in
theorem lc_18_unassign (hst : l.stackTraces = false) (hV : kOk V) (G : CallFix p m c cL_law 9 s args LW RL) (hC : cSt V s) (hB : eB V ≤ s.heap.size) (hX : va_X b LN xs s s.heap) (hbl : b < s.heap.size) (hbA : ¬ eA V b) (hn : n ≤ 600) (hr : rel n S M) (h : cH V s H locs (LWs V S M O OD)) (hi : i + 3 ≤ LN) (hLN : LN ≤ 1536) (hl : lv_has ls 9 (lv0 V b i)) (hRf : 30 ≤ R.frames) (hRl : 1500 ≤ R.locals) (hc : cells + 24 ≤ R.cells) (hs : slots + 3000 ≤ R.slots)
    (kk : ∀ (S : kCs) (M : kMs) (O : Nat → Int64) (OD : Nat → UInt64) (H : Heap) (locs : List Loc) (ls : Array Slot) (cells1 slots1 : Nat), rel (n + 1) S M → cH V s H locs (LWs V S M O OD) → lv_has ls 9 (lv0 V b i) → cells1 ≤ cells + 24 → slots1 ≤ slots + 3000 → W p l e R s m args below meth c H locs cells1 slots1 Q (F0 m 2868 ls [])) : W p l e R s m args below meth c H locs cells slots Q (F0 m 1363 ls []) := by
  have hx := G.1
  have hcd := G.2.1
  obtain ⟨B, nx, sz, L0, L, ep, fp, s0, hd⟩ := hr
  obtain ⟨e1, hA, hg, hH, hSs, hLL, hTT, hEE, hXX⟩ := id hd
  obtain ⟨f0, hf0⟩ := hXX.2.2.1
  obtain ⟨g0, hg0⟩ := hXX.2.2.2.1
  obtain ⟨pp, hpp⟩ := hXX.2.2.2.2.1
  obtain ⟨cm, hcm⟩ := hXX.2.2.2.2.2.1
  obtain ⟨sg, hsg, hsg2⟩ := hLL.2.2.2
  have hx5 : nx < 60000 := by have := hH.2.2.1; omega
  have eS : setB S 0 B = S := rel_S hd
  replace h : cH V s H locs (LWs V (setB S 0 B) M O OD) := by rw [eS]; exact h
  refine lv_aload_n hx hcd dL_law_1363 rfl (lv_at hl 4 rfl) ?_
  refine lv_aload_n hx hcd dL_law_1364 rfl (lv_at hl 5 rfl) ?_
  refine lv_iload hx hcd dL_law_1365 (lv_at hl 0 rfl) ?_
  refine lv_iconst (v := nI 1) hx hcd dL_law_1367 (by decide) ?_
  refine w_iadd (v := nI (i + 1)) hx hcd dL_law_1368 (nI_add _ _) ?_
  refine va_sld hx hcd hX hbl hbA h.2.2 (vp_in_nI (n := i + 1) (by omega) (by omega)) dL_law_1369 ?_
  refine lv_aload_n hx hcd dL_law_1370 rfl (lv_at hl 2 rfl) ?_
  replace h := cH_f h
  have hcs := cs_unassign (x := (xs (nI (i + 1)).toNatClampNeg)) hd
  refine lw_S (F := lwF V) (u0 := (setB S 0 B, O)) (As := [.ref (eX V 96), .int (xs (nI (i + 1)).toNatClampNeg), .ref (eX V 600)]) (rest := []) G hC hB hV h (met_L_unassign l _ (frV_ok _ _ _) (setB S 0 B) O (xs (nI (i + 1)).toNatClampNeg) (fun ws n => met_X3_unassign l hst _ S B hA.1 nx sz hH.1 hH.2.1 hx5 hH.2.2.2.1 (hXX.1 _ (by omega)) (xs (nI (i + 1)).toNatClampNeg)) (fun E u hp => ?hE)) mw_1090 (show kSw yL_unassign cL_unassign 4 [(0, 9, 12, 21), (0, 9, 15, 15)] 3 from ⟨mw_1091, mw_55, mw_1092, by decide, by decide, by decide +kernel⟩) ⟨rfl, rfl⟩ ⟨by show 9 + 1 ≤ R.frames; omega, by show 8 + (4 + 11) + 152 ≤ R.locals; omega⟩ rfl rfl hl.1 (Nat.le_of_ble_eq_true rfl) dL_law_1371 ⟨by omega, by omega⟩ (fun k u H locs hp h => ?_)
  case hE =>
    rcases hp with ⟨e0, -⟩ | ⟨_, -, -, e0, -⟩
    · exact Or.inl e0
    · exact Or.inr (e0)
  refine lv_istore (lv' := [(6, .int k), (5, .int (nI i)), (4, .ref (eX V 601)), (3, .ref (eX V 600)), (2, .ref (eX V 500)), (1, .ref (eX V 96)), (0, .ref b)]) hx hcd dL_law_1374 hl (by decide) rfl (fun ls hl => ?_)
  replace h := cH_m h
  refine lv_aload_n hx hcd dL_law_1376 rfl (lv_at hl 4 rfl) ?_
  refine lv_aload_n hx hcd dL_law_1377 rfl (lv_at hl 6 rfl) ?_
  refine lv_iload hx hcd dL_law_1378 (lv_at hl 1 rfl) ?_
  refine lv_iconst (v := nI 1) hx hcd dL_law_1380 (by decide) ?_
  refine w_iadd (v := nI (i + 1)) hx hcd dL_law_1381 (nI_add _ _) ?_
  refine va_sld hx hcd hX hbl hbA h.2.2 (vp_in_nI (n := i + 1) (by omega) (by omega)) dL_law_1382 ?_
  refine fk_Vi (As := [.int (xs (nI (i + 1)).toNatClampNeg)]) (rest := []) (b := eX V 500) G hC hB hV h (met_X4_unassign l _ M B hg hA.1 0 sz hXX.2.1 (by decide) hH.2.2.2.2.2.1 hH.2.2.2.1 hA.2.1 (xs (nI (i + 1)).toNatClampNeg)) mw_1694 (show kV yX4_unassign cX4_unassign 3 (some .int) 1 from ⟨mw_1695, mw_1696, mw_64, mw_1697, by decide, by decide, by decide +kernel⟩) ⟨rfl, rfl⟩ ⟨by show 2 + 1 ≤ R.frames; omega, by show 8 + (3 + 11) + 46 ≤ R.locals; omega⟩ (r_M hC h) rfl rfl hl.1 (Nat.le_of_ble_eq_true rfl) dL_law_1383 ⟨by omega, by omega⟩ (fun r2 u2 H locs hq h => ?_)
  refine lv_istore (lv' := [(7, .int r2), (6, .int k), (5, .int (nI i)), (4, .ref (eX V 601)), (3, .ref (eX V 600)), (2, .ref (eX V 500)), (1, .ref (eX V 96)), (0, .ref b)]) hx hcd dL_law_1386 hl (by decide) rfl (fun ls hl => ?_)
  have key : u2.1 3 = k ∧ (k = nI 0 → u.2 0 = r2.toInt64) ∧ rel (n + 1) u.1 u2 := by
    rcases hp with ⟨hk0, r, hp1, hu⟩ | ⟨hk0, hp1⟩ | ⟨hk0, hp1⟩
    · obtain ⟨q1, q2, q3⟩ := hcs.1 _ _ _ _ hp1 hq
      exact ⟨q1.trans hk0.symm, fun _ => by rw [hu, ← q2]; rfl, q3⟩
    · have q := hcs.2 _ _ _ _ hp1 hq
      rcases q with ⟨q1, q2, q3⟩ | ⟨q1, q2, q3⟩
      · exact ⟨q2.trans hk0.symm, fun z => absurd (hk0.symm.trans z) (by decide), q3⟩
      · exact absurd q1 (by decide)
    · have q := hcs.2 _ _ _ _ hp1 hq
      rcases q with ⟨q1, q2, q3⟩ | ⟨q1, q2, q3⟩
      · exact absurd q1 (by decide)
      · exact ⟨q2.trans hk0.symm, fun z => absurd (hk0.symm.trans z) (by decide), q3⟩
  obtain ⟨k1, k2, k3⟩ := key
  exact lt_i (t1 := 1399) (t2 := 1416) (t3 := 2868) hV G hC hB mw_1531 h hl k1 k2 (by omega) (by omega) (by omega) (by omega) dL_law_1388 dL_law_1389 dL_law_1392 dL_law_1394 (by decide) dL_law_1399 dL_law_1401 (by decide) dL_law_1404 dL_law_1405 dL_law_1406 dL_law_1407 dL_law_1409 dL_law_1410 dL_law_1411 (by decide) dL_law_1416 (by decide) (fun H locs ls h hl => kk _ _ _ _ H locs ls _ _ k3 h hl (by omega) (by omega))
set_option maxHeartbeats 4000000 in
set_option maxRecDepth 100000 in
theorem lc_20_speedOf (hst : l.stackTraces = false) (hV : kOk V) (G : CallFix p m c cL_law 9 s args LW RL) (hC : cSt V s) (hB : eB V ≤ s.heap.size) (hX : va_X b LN xs s s.heap) (hbl : b < s.heap.size) (hbA : ¬ eA V b) (hn : n ≤ 600) (hr : rel n S M) (h : cH V s H locs (LWs V S M O OD)) (hi : i + 3 ≤ LN) (hLN : LN ≤ 1536) (hl : lv_has ls 9 (lv0 V b i)) (hRf : 30 ≤ R.frames) (hRl : 1500 ≤ R.locals) (hc : cells + 24 ≤ R.cells) (hs : slots + 3000 ≤ R.slots)
    (kk : ∀ (S : kCs) (M : kMs) (O : Nat → Int64) (OD : Nat → UInt64) (H : Heap) (locs : List Loc) (ls : Array Slot) (cells1 slots1 : Nat), rel (n + 1) S M → cH V s H locs (LWs V S M O OD) → lv_has ls 9 (lv0 V b i) → cells1 ≤ cells + 24 → slots1 ≤ slots + 3000 → W p l e R s m args below meth c H locs cells1 slots1 Q (F0 m 2868 ls [])) : W p l e R s m args below meth c H locs cells slots Q (F0 m 1432 ls []) := by
  have hx := G.1
  have hcd := G.2.1
  obtain ⟨B, nx, sz, L0, L, ep, fp, s0, hd⟩ := hr
  obtain ⟨e1, hA, hg, hH, hSs, hLL, hTT, hEE, hXX⟩ := id hd
  obtain ⟨f0, hf0⟩ := hXX.2.2.1
  obtain ⟨g0, hg0⟩ := hXX.2.2.2.1
  obtain ⟨pp, hpp⟩ := hXX.2.2.2.2.1
  obtain ⟨cm, hcm⟩ := hXX.2.2.2.2.2.1
  obtain ⟨sg, hsg, hsg2⟩ := hLL.2.2.2
  have hx5 : nx < 60000 := by have := hH.2.2.1; omega
  have eS : setB S 0 B = S := rel_S hd
  replace h : cH V s H locs (LWs V (setB S 0 B) M O OD) := by rw [eS]; exact h
  refine lv_aload_n hx hcd dL_law_1432 rfl (lv_at hl 4 rfl) ?_
  refine lv_aload_n hx hcd dL_law_1433 rfl (lv_at hl 5 rfl) ?_
  refine lv_iload hx hcd dL_law_1434 (lv_at hl 0 rfl) ?_
  refine lv_iconst (v := nI 1) hx hcd dL_law_1436 (by decide) ?_
  refine w_iadd (v := nI (i + 1)) hx hcd dL_law_1437 (nI_add _ _) ?_
  refine va_sld hx hcd hX hbl hbA h.2.2 (vp_in_nI (n := i + 1) (by omega) (by omega)) dL_law_1438 ?_
  refine lv_aload_n hx hcd dL_law_1439 rfl (lv_at hl 2 rfl) ?_
  replace h := cH_f h
  have hcs := cs_speedOf (x := (xs (nI (i + 1)).toNatClampNeg)) hd
  refine lw_S (F := lwF V) (u0 := (setB S 0 B, O)) (As := [.ref (eX V 96), .int (xs (nI (i + 1)).toNatClampNeg), .ref (eX V 600)]) (rest := []) G hC hB hV h (met_L_speedOf l _ (frV_ok _ _ _) (setB S 0 B) O (xs (nI (i + 1)).toNatClampNeg) (fun ws n => met_X3_speedOf l hst _ S B hA.1 (xs (nI (i + 1)).toNatClampNeg)) (fun E u hp => ?hE)) mw_1105 (show kSw yL_speedOf cL_speedOf 4 [(0, 9, 12, 21)] 3 from ⟨mw_1106, mw_55, mw_1107, by decide, by decide, by decide +kernel⟩) ⟨rfl, rfl⟩ ⟨by show 9 + 1 ≤ R.frames; omega, by show 8 + (4 + 11) + 152 ≤ R.locals; omega⟩ rfl rfl hl.1 (Nat.le_of_ble_eq_true rfl) dL_law_1440 ⟨by omega, by omega⟩ (fun k u H locs hp h => ?_)
  case hE =>
    rcases hp with ⟨e0, -⟩
    · exact e0
  refine lv_istore (lv' := [(6, .int k), (5, .int (nI i)), (4, .ref (eX V 601)), (3, .ref (eX V 600)), (2, .ref (eX V 500)), (1, .ref (eX V 96)), (0, .ref b)]) hx hcd dL_law_1443 hl (by decide) rfl (fun ls hl => ?_)
  replace h := cH_m h
  refine lv_aload_n hx hcd dL_law_1445 rfl (lv_at hl 4 rfl) ?_
  refine lv_aload_n hx hcd dL_law_1446 rfl (lv_at hl 6 rfl) ?_
  refine lv_iload hx hcd dL_law_1447 (lv_at hl 1 rfl) ?_
  refine lv_iconst (v := nI 1) hx hcd dL_law_1449 (by decide) ?_
  refine w_iadd (v := nI (i + 1)) hx hcd dL_law_1450 (nI_add _ _) ?_
  refine va_sld hx hcd hX hbl hbA h.2.2 (vp_in_nI (n := i + 1) (by omega) (by omega)) dL_law_1451 ?_
  refine fk_Vi (As := [.int (xs (nI (i + 1)).toNatClampNeg)]) (rest := []) (b := eX V 500) G hC hB hV h (met_X4_speedOf l _ M B hg hA.1 (xs (nI (i + 1)).toNatClampNeg)) mw_1702 (show kV yX4_speedOf cX4_speedOf 2 (some .int) 1 from ⟨mw_1703, mw_1704, mw_64, mw_1705, by decide, by decide, by decide +kernel⟩) ⟨rfl, rfl⟩ ⟨by show 2 + 1 ≤ R.frames; omega, by show 8 + (2 + 11) + 43 ≤ R.locals; omega⟩ (r_M hC h) rfl rfl hl.1 (Nat.le_of_ble_eq_true rfl) dL_law_1452 ⟨by omega, by omega⟩ (fun r2 u2 H locs hq h => ?_)
  refine lv_istore (lv' := [(7, .int r2), (6, .int k), (5, .int (nI i)), (4, .ref (eX V 601)), (3, .ref (eX V 600)), (2, .ref (eX V 500)), (1, .ref (eX V 96)), (0, .ref b)]) hx hcd dL_law_1455 hl (by decide) rfl (fun ls hl => ?_)
  have key : u2.1 3 = k ∧ (k = nI 0 → u.2 0 = r2.toInt64) ∧ rel (n + 1) u.1 u2 := by
    rcases hp with ⟨hk0, r, hp1, hu⟩ | ⟨hk0, hp1⟩
    · obtain ⟨q1, q2, q3⟩ := hcs.1 _ _ _ _ hp1 hq
      exact ⟨q1.trans hk0.symm, fun _ => by rw [hu, ← q2]; rfl, q3⟩
    · have q := hcs.2 _ _ _ _ hp1 hq
      exact ⟨q.2.1.trans hk0.symm, fun z => absurd (hk0.symm.trans z) (by decide), q.2.2⟩
  obtain ⟨k1, k2, k3⟩ := key
  exact lt_i (t1 := 1468) (t2 := 1485) (t3 := 2868) hV G hC hB mw_1531 h hl k1 k2 (by omega) (by omega) (by omega) (by omega) dL_law_1457 dL_law_1458 dL_law_1461 dL_law_1463 (by decide) dL_law_1468 dL_law_1470 (by decide) dL_law_1473 dL_law_1474 dL_law_1475 dL_law_1476 dL_law_1478 dL_law_1479 dL_law_1480 (by decide) dL_law_1485 (by decide) (fun H locs ls h hl => kk _ _ _ _ H locs ls _ _ k3 h hl (by omega) (by omega))
set_option maxHeartbeats 4000000 in
set_option maxRecDepth 100000 in
theorem lc_21_storyOf (hst : l.stackTraces = false) (hV : kOk V) (G : CallFix p m c cL_law 9 s args LW RL) (hC : cSt V s) (hB : eB V ≤ s.heap.size) (hX : va_X b LN xs s s.heap) (hbl : b < s.heap.size) (hbA : ¬ eA V b) (hn : n ≤ 600) (hr : rel n S M) (h : cH V s H locs (LWs V S M O OD)) (hi : i + 3 ≤ LN) (hLN : LN ≤ 1536) (hl : lv_has ls 9 (lv0 V b i)) (hRf : 30 ≤ R.frames) (hRl : 1500 ≤ R.locals) (hc : cells + 24 ≤ R.cells) (hs : slots + 3000 ≤ R.slots)
    (kk : ∀ (S : kCs) (M : kMs) (O : Nat → Int64) (OD : Nat → UInt64) (H : Heap) (locs : List Loc) (ls : Array Slot) (cells1 slots1 : Nat), rel (n + 1) S M → cH V s H locs (LWs V S M O OD) → lv_has ls 9 (lv0 V b i) → cells1 ≤ cells + 24 → slots1 ≤ slots + 3000 → W p l e R s m args below meth c H locs cells1 slots1 Q (F0 m 2868 ls [])) : W p l e R s m args below meth c H locs cells slots Q (F0 m 1488 ls []) := by
  have hx := G.1
  have hcd := G.2.1
  obtain ⟨B, nx, sz, L0, L, ep, fp, s0, hd⟩ := hr
  obtain ⟨e1, hA, hg, hH, hSs, hLL, hTT, hEE, hXX⟩ := id hd
  obtain ⟨f0, hf0⟩ := hXX.2.2.1
  obtain ⟨g0, hg0⟩ := hXX.2.2.2.1
  obtain ⟨pp, hpp⟩ := hXX.2.2.2.2.1
  obtain ⟨cm, hcm⟩ := hXX.2.2.2.2.2.1
  obtain ⟨sg, hsg, hsg2⟩ := hLL.2.2.2
  have hx5 : nx < 60000 := by have := hH.2.2.1; omega
  have eS : setB S 0 B = S := rel_S hd
  replace h : cH V s H locs (LWs V (setB S 0 B) M O OD) := by rw [eS]; exact h
  refine lv_aload_n hx hcd dL_law_1488 rfl (lv_at hl 4 rfl) ?_
  refine lv_aload_n hx hcd dL_law_1489 rfl (lv_at hl 5 rfl) ?_
  refine lv_iload hx hcd dL_law_1490 (lv_at hl 0 rfl) ?_
  refine lv_iconst (v := nI 1) hx hcd dL_law_1492 (by decide) ?_
  refine w_iadd (v := nI (i + 1)) hx hcd dL_law_1493 (nI_add _ _) ?_
  refine va_sld hx hcd hX hbl hbA h.2.2 (vp_in_nI (n := i + 1) (by omega) (by omega)) dL_law_1494 ?_
  refine lv_aload_n hx hcd dL_law_1495 rfl (lv_at hl 2 rfl) ?_
  replace h := cH_f h
  have hcs := cs_storyOf (x := (xs (nI (i + 1)).toNatClampNeg)) hd
  refine lw_S (F := lwF V) (u0 := (setB S 0 B, O)) (As := [.ref (eX V 96), .int (xs (nI (i + 1)).toNatClampNeg), .ref (eX V 600)]) (rest := []) G hC hB hV h (met_L_storyOf l _ (frV_ok _ _ _) (setB S 0 B) O (xs (nI (i + 1)).toNatClampNeg) (fun ws n => met_X3_storyOf l hst _ S B hA.1 (xs (nI (i + 1)).toNatClampNeg)) (fun E u hp => ?hE)) mw_1112 (show kSw yL_storyOf cL_storyOf 4 [(0, 9, 12, 21), (0, 9, 15, 66)] 3 from ⟨mw_1113, mw_55, mw_1114, by decide, by decide, by decide +kernel⟩) ⟨rfl, rfl⟩ ⟨by show 9 + 1 ≤ R.frames; omega, by show 8 + (4 + 11) + 153 ≤ R.locals; omega⟩ rfl rfl hl.1 (Nat.le_of_ble_eq_true rfl) dL_law_1496 ⟨by omega, by omega⟩ (fun k u H locs hp h => ?_)
  case hE =>
    rcases hp with ⟨e0, -⟩ | ⟨_, -, -, e0, -⟩
    · exact Or.inl e0
    · exact Or.inr (e0)
  refine lv_istore (lv' := [(6, .int k), (5, .int (nI i)), (4, .ref (eX V 601)), (3, .ref (eX V 600)), (2, .ref (eX V 500)), (1, .ref (eX V 96)), (0, .ref b)]) hx hcd dL_law_1499 hl (by decide) rfl (fun ls hl => ?_)
  replace h := cH_m h
  refine lv_aload_n hx hcd dL_law_1501 rfl (lv_at hl 4 rfl) ?_
  refine lv_aload_n hx hcd dL_law_1502 rfl (lv_at hl 6 rfl) ?_
  refine lv_iload hx hcd dL_law_1503 (lv_at hl 1 rfl) ?_
  refine lv_iconst (v := nI 1) hx hcd dL_law_1505 (by decide) ?_
  refine w_iadd (v := nI (i + 1)) hx hcd dL_law_1506 (nI_add _ _) ?_
  refine va_sld hx hcd hX hbl hbA h.2.2 (vp_in_nI (n := i + 1) (by omega) (by omega)) dL_law_1507 ?_
  refine fk_Vi (As := [.int (xs (nI (i + 1)).toNatClampNeg)]) (rest := []) (b := eX V 500) G hC hB hV h (met_X4_storyOf l _ M B hg hA.1 (xs (nI (i + 1)).toNatClampNeg)) mw_1706 (show kV yX4_storyOf cX4_storyOf 2 (some .int) 1 from ⟨mw_1707, mw_1708, mw_64, mw_1709, by decide, by decide, by decide +kernel⟩) ⟨rfl, rfl⟩ ⟨by show 2 + 1 ≤ R.frames; omega, by show 8 + (2 + 11) + 43 ≤ R.locals; omega⟩ (r_M hC h) rfl rfl hl.1 (Nat.le_of_ble_eq_true rfl) dL_law_1508 ⟨by omega, by omega⟩ (fun r2 u2 H locs hq h => ?_)
  refine lv_istore (lv' := [(7, .int r2), (6, .int k), (5, .int (nI i)), (4, .ref (eX V 601)), (3, .ref (eX V 600)), (2, .ref (eX V 500)), (1, .ref (eX V 96)), (0, .ref b)]) hx hcd dL_law_1511 hl (by decide) rfl (fun ls hl => ?_)
  have key : u2.1 3 = k ∧ (k = nI 0 → u.2 0 = r2.toInt64) ∧ rel (n + 1) u.1 u2 := by
    rcases hp with ⟨hk0, r, hp1, hu⟩ | ⟨hk0, hp1⟩ | ⟨hk0, hp1⟩
    · obtain ⟨q1, q2, q3⟩ := hcs.1 _ _ _ _ hp1 hq
      exact ⟨q1.trans hk0.symm, fun _ => by rw [hu, ← q2]; rfl, q3⟩
    · have q := hcs.2 _ _ _ _ hp1 hq
      rcases q with ⟨q1, q2, q3⟩ | ⟨q1, q2, q3⟩
      · exact ⟨q2.trans hk0.symm, fun z => absurd (hk0.symm.trans z) (by decide), q3⟩
      · exact absurd q1 (by decide)
    · have q := hcs.2 _ _ _ _ hp1 hq
      rcases q with ⟨q1, q2, q3⟩ | ⟨q1, q2, q3⟩
      · exact absurd q1 (by decide)
      · exact ⟨q2.trans hk0.symm, fun z => absurd (hk0.symm.trans z) (by decide), q3⟩
  obtain ⟨k1, k2, k3⟩ := key
  exact lt_i (t1 := 1524) (t2 := 1541) (t3 := 2868) hV G hC hB mw_1531 h hl k1 k2 (by omega) (by omega) (by omega) (by omega) dL_law_1513 dL_law_1514 dL_law_1517 dL_law_1519 (by decide) dL_law_1524 dL_law_1526 (by decide) dL_law_1529 dL_law_1530 dL_law_1531 dL_law_1532 dL_law_1534 dL_law_1535 dL_law_1536 (by decide) dL_law_1541 (by decide) (fun H locs ls h hl => kk _ _ _ _ H locs ls _ _ k3 h hl (by omega) (by omega))
set_option maxHeartbeats 4000000 in
set_option maxRecDepth 100000 in
theorem lc_22_developerOf (hst : l.stackTraces = false) (hV : kOk V) (G : CallFix p m c cL_law 9 s args LW RL) (hC : cSt V s) (hB : eB V ≤ s.heap.size) (hX : va_X b LN xs s s.heap) (hbl : b < s.heap.size) (hbA : ¬ eA V b) (hn : n ≤ 600) (hr : rel n S M) (h : cH V s H locs (LWs V S M O OD)) (hi : i + 3 ≤ LN) (hLN : LN ≤ 1536) (hl : lv_has ls 9 (lv0 V b i)) (hRf : 30 ≤ R.frames) (hRl : 1500 ≤ R.locals) (hc : cells + 24 ≤ R.cells) (hs : slots + 3000 ≤ R.slots)
    (kk : ∀ (S : kCs) (M : kMs) (O : Nat → Int64) (OD : Nat → UInt64) (H : Heap) (locs : List Loc) (ls : Array Slot) (cells1 slots1 : Nat), rel (n + 1) S M → cH V s H locs (LWs V S M O OD) → lv_has ls 9 (lv0 V b i) → cells1 ≤ cells + 24 → slots1 ≤ slots + 3000 → W p l e R s m args below meth c H locs cells1 slots1 Q (F0 m 2868 ls [])) : W p l e R s m args below meth c H locs cells slots Q (F0 m 1544 ls []) := by
  have hx := G.1
  have hcd := G.2.1
  obtain ⟨B, nx, sz, L0, L, ep, fp, s0, hd⟩ := hr
  obtain ⟨e1, hA, hg, hH, hSs, hLL, hTT, hEE, hXX⟩ := id hd
  obtain ⟨f0, hf0⟩ := hXX.2.2.1
  obtain ⟨g0, hg0⟩ := hXX.2.2.2.1
  obtain ⟨pp, hpp⟩ := hXX.2.2.2.2.1
  obtain ⟨cm, hcm⟩ := hXX.2.2.2.2.2.1
  obtain ⟨sg, hsg, hsg2⟩ := hLL.2.2.2
  have hx5 : nx < 60000 := by have := hH.2.2.1; omega
  have eS : setB S 0 B = S := rel_S hd
  replace h : cH V s H locs (LWs V (setB S 0 B) M O OD) := by rw [eS]; exact h
  refine lv_aload_n hx hcd dL_law_1544 rfl (lv_at hl 4 rfl) ?_
  refine lv_aload_n hx hcd dL_law_1545 rfl (lv_at hl 5 rfl) ?_
  refine lv_iload hx hcd dL_law_1546 (lv_at hl 0 rfl) ?_
  refine lv_iconst (v := nI 1) hx hcd dL_law_1548 (by decide) ?_
  refine w_iadd (v := nI (i + 1)) hx hcd dL_law_1549 (nI_add _ _) ?_
  refine va_sld hx hcd hX hbl hbA h.2.2 (vp_in_nI (n := i + 1) (by omega) (by omega)) dL_law_1550 ?_
  refine lv_aload_n hx hcd dL_law_1551 rfl (lv_at hl 2 rfl) ?_
  replace h := cH_f h
  have hcs := cs_developerOf (x := (xs (nI (i + 1)).toNatClampNeg)) hd
  refine lw_S (F := lwF V) (u0 := (setB S 0 B, O)) (As := [.ref (eX V 96), .int (xs (nI (i + 1)).toNatClampNeg), .ref (eX V 600)]) (rest := []) G hC hB hV h (met_L_developerOf l _ (frV_ok _ _ _) (setB S 0 B) O (xs (nI (i + 1)).toNatClampNeg) (fun ws n => met_X3_developerOf l hst _ S B hA.1 (xs (nI (i + 1)).toNatClampNeg)) (fun E u hp => ?hE)) mw_1119 (show kSw yL_developerOf cL_developerOf 4 [(0, 9, 12, 21), (0, 9, 15, 66)] 3 from ⟨mw_1120, mw_55, mw_1121, by decide, by decide, by decide +kernel⟩) ⟨rfl, rfl⟩ ⟨by show 9 + 1 ≤ R.frames; omega, by show 8 + (4 + 11) + 153 ≤ R.locals; omega⟩ rfl rfl hl.1 (Nat.le_of_ble_eq_true rfl) dL_law_1552 ⟨by omega, by omega⟩ (fun k u H locs hp h => ?_)
  case hE =>
    rcases hp with ⟨e0, -⟩ | ⟨_, -, -, e0, -⟩
    · exact Or.inl e0
    · exact Or.inr (e0)
  refine lv_istore (lv' := [(6, .int k), (5, .int (nI i)), (4, .ref (eX V 601)), (3, .ref (eX V 600)), (2, .ref (eX V 500)), (1, .ref (eX V 96)), (0, .ref b)]) hx hcd dL_law_1555 hl (by decide) rfl (fun ls hl => ?_)
  replace h := cH_m h
  refine lv_aload_n hx hcd dL_law_1557 rfl (lv_at hl 4 rfl) ?_
  refine lv_aload_n hx hcd dL_law_1558 rfl (lv_at hl 6 rfl) ?_
  refine lv_iload hx hcd dL_law_1559 (lv_at hl 1 rfl) ?_
  refine lv_iconst (v := nI 1) hx hcd dL_law_1561 (by decide) ?_
  refine w_iadd (v := nI (i + 1)) hx hcd dL_law_1562 (nI_add _ _) ?_
  refine va_sld hx hcd hX hbl hbA h.2.2 (vp_in_nI (n := i + 1) (by omega) (by omega)) dL_law_1563 ?_
  refine fk_Vi (As := [.int (xs (nI (i + 1)).toNatClampNeg)]) (rest := []) (b := eX V 500) G hC hB hV h (met_X4_developerOf l _ M B hg hA.1 (xs (nI (i + 1)).toNatClampNeg)) mw_1710 (show kV yX4_developerOf cX4_developerOf 2 (some .int) 1 from ⟨mw_1711, mw_1712, mw_64, mw_1713, by decide, by decide, by decide +kernel⟩) ⟨rfl, rfl⟩ ⟨by show 2 + 1 ≤ R.frames; omega, by show 8 + (2 + 11) + 43 ≤ R.locals; omega⟩ (r_M hC h) rfl rfl hl.1 (Nat.le_of_ble_eq_true rfl) dL_law_1564 ⟨by omega, by omega⟩ (fun r2 u2 H locs hq h => ?_)
  refine lv_istore (lv' := [(7, .int r2), (6, .int k), (5, .int (nI i)), (4, .ref (eX V 601)), (3, .ref (eX V 600)), (2, .ref (eX V 500)), (1, .ref (eX V 96)), (0, .ref b)]) hx hcd dL_law_1567 hl (by decide) rfl (fun ls hl => ?_)
  have key : u2.1 3 = k ∧ (k = nI 0 → u.2 0 = r2.toInt64) ∧ rel (n + 1) u.1 u2 := by
    rcases hp with ⟨hk0, r, hp1, hu⟩ | ⟨hk0, hp1⟩ | ⟨hk0, hp1⟩
    · obtain ⟨q1, q2, q3⟩ := hcs.1 _ _ _ _ hp1 hq
      exact ⟨q1.trans hk0.symm, fun _ => by rw [hu, ← q2]; rfl, q3⟩
    · have q := hcs.2 _ _ _ _ hp1 hq
      rcases q with ⟨q1, q2, q3⟩ | ⟨q1, q2, q3⟩
      · exact ⟨q2.trans hk0.symm, fun z => absurd (hk0.symm.trans z) (by decide), q3⟩
      · exact absurd q1 (by decide)
    · have q := hcs.2 _ _ _ _ hp1 hq
      rcases q with ⟨q1, q2, q3⟩ | ⟨q1, q2, q3⟩
      · exact absurd q1 (by decide)
      · exact ⟨q2.trans hk0.symm, fun z => absurd (hk0.symm.trans z) (by decide), q3⟩
  obtain ⟨k1, k2, k3⟩ := key
  exact lt_i (t1 := 1580) (t2 := 1597) (t3 := 2868) hV G hC hB mw_1531 h hl k1 k2 (by omega) (by omega) (by omega) (by omega) dL_law_1569 dL_law_1570 dL_law_1573 dL_law_1575 (by decide) dL_law_1580 dL_law_1582 (by decide) dL_law_1585 dL_law_1586 dL_law_1587 dL_law_1588 dL_law_1590 dL_law_1591 dL_law_1592 (by decide) dL_law_1597 (by decide) (fun H locs ls h hl => kk _ _ _ _ H locs ls _ _ k3 h hl (by omega) (by omega))
set_option maxHeartbeats 4000000 in
set_option maxRecDepth 100000 in
theorem lc_23_plan (hst : l.stackTraces = false) (hV : kOk V) (G : CallFix p m c cL_law 9 s args LW RL) (hC : cSt V s) (hB : eB V ≤ s.heap.size) (hX : va_X b LN xs s s.heap) (hbl : b < s.heap.size) (hbA : ¬ eA V b) (hn : n ≤ 600) (hr : rel n S M) (h : cH V s H locs (LWs V S M O OD)) (hi : i + 3 ≤ LN) (hLN : LN ≤ 1536) (hl : lv_has ls 9 (lv0 V b i)) (hRf : 30 ≤ R.frames) (hRl : 1500 ≤ R.locals) (hc : cells + 24 ≤ R.cells) (hs : slots + 3000 ≤ R.slots)
    (kk : ∀ (S : kCs) (M : kMs) (O : Nat → Int64) (OD : Nat → UInt64) (H : Heap) (locs : List Loc) (ls : Array Slot) (cells1 slots1 : Nat), rel (n + 1) S M → cH V s H locs (LWs V S M O OD) → lv_has ls 9 (lv0 V b i) → cells1 ≤ cells + 24 → slots1 ≤ slots + 3000 → W p l e R s m args below meth c H locs cells1 slots1 Q (F0 m 2868 ls [])) : W p l e R s m args below meth c H locs cells slots Q (F0 m 1600 ls []) := by
  have hx := G.1
  have hcd := G.2.1
  obtain ⟨B, nx, sz, L0, L, ep, fp, s0, hd⟩ := hr
  obtain ⟨e1, hA, hg, hH, hSs, hLL, hTT, hEE, hXX⟩ := id hd
  obtain ⟨f0, hf0⟩ := hXX.2.2.1
  obtain ⟨g0, hg0⟩ := hXX.2.2.2.1
  obtain ⟨pp, hpp⟩ := hXX.2.2.2.2.1
  obtain ⟨cm, hcm⟩ := hXX.2.2.2.2.2.1
  obtain ⟨sg, hsg, hsg2⟩ := hLL.2.2.2
  have hx5 : nx < 60000 := by have := hH.2.2.1; omega
  have eS : setB S 0 B = S := rel_S hd
  replace h : cH V s H locs (LWs V (setB S 0 B) M O OD) := by rw [eS]; exact h
  refine lv_aload_n hx hcd dL_law_1600 rfl (lv_at hl 4 rfl) ?_
  refine lv_aload_n hx hcd dL_law_1601 rfl (lv_at hl 5 rfl) ?_
  refine lv_iload hx hcd dL_law_1602 (lv_at hl 0 rfl) ?_
  refine lv_iconst (v := nI 1) hx hcd dL_law_1604 (by decide) ?_
  refine w_iadd (v := nI (i + 1)) hx hcd dL_law_1605 (nI_add _ _) ?_
  refine va_sld hx hcd hX hbl hbA h.2.2 (vp_in_nI (n := i + 1) (by omega) (by omega)) dL_law_1606 ?_
  refine lv_aload_n hx hcd dL_law_1607 rfl (lv_at hl 2 rfl) ?_
  replace h := cH_f h
  have hcs := cs_plan (x := (xs (nI (i + 1)).toNatClampNeg)) hd
  refine lw_S (F := lwF V) (u0 := (setB S 0 B, O)) (As := [.ref (eX V 96), .int (xs (nI (i + 1)).toNatClampNeg), .ref (eX V 600)]) (rest := []) G hC hB hV h (met_L_plan l _ (frV_ok _ _ _) (setB S 0 B) O (xs (nI (i + 1)).toNatClampNeg) (fun ws n => met_X3_plan l hst _ S B hA.1 nx sz hH.1 hH.2.1 hx5 hH.2.2.2.1 (hXX.1 _ (by omega)) (xs (nI (i + 1)).toNatClampNeg)) (fun E u hp => ?hE)) mw_1127 (show kSw yL_plan cL_plan 4 [(0, 9, 12, 21), (0, 9, 15, 15)] 3 from ⟨mw_1128, mw_55, mw_1129, by decide, by decide, by decide +kernel⟩) ⟨rfl, rfl⟩ ⟨by show 9 + 1 ≤ R.frames; omega, by show 8 + (4 + 11) + 152 ≤ R.locals; omega⟩ rfl rfl hl.1 (Nat.le_of_ble_eq_true rfl) dL_law_1608 ⟨by omega, by omega⟩ (fun k u H locs hp h => ?_)
  case hE =>
    rcases hp with ⟨e0, -⟩ | ⟨_, -, -, e0, -⟩
    · exact Or.inl e0
    · exact Or.inr (e0)
  refine lv_istore (lv' := [(6, .int k), (5, .int (nI i)), (4, .ref (eX V 601)), (3, .ref (eX V 600)), (2, .ref (eX V 500)), (1, .ref (eX V 96)), (0, .ref b)]) hx hcd dL_law_1611 hl (by decide) rfl (fun ls hl => ?_)
  replace h := cH_m h
  refine lv_aload_n hx hcd dL_law_1613 rfl (lv_at hl 4 rfl) ?_
  refine lv_aload_n hx hcd dL_law_1614 rfl (lv_at hl 6 rfl) ?_
  refine lv_iload hx hcd dL_law_1615 (lv_at hl 1 rfl) ?_
  refine lv_iconst (v := nI 1) hx hcd dL_law_1617 (by decide) ?_
  refine w_iadd (v := nI (i + 1)) hx hcd dL_law_1618 (nI_add _ _) ?_
  refine va_sld hx hcd hX hbl hbA h.2.2 (vp_in_nI (n := i + 1) (by omega) (by omega)) dL_law_1619 ?_
  refine fk_Vi (As := [.int (xs (nI (i + 1)).toNatClampNeg)]) (rest := []) (b := eX V 500) G hC hB hV h (met_X4_plan l _ M B hg hA.1 0 sz hXX.2.1 (by decide) hH.2.2.2.2.2.1 hH.2.2.2.1 (xs (nI (i + 1)).toNatClampNeg)) mw_1714 (show kV yX4_plan cX4_plan 2 (some .int) 1 from ⟨mw_1715, mw_1716, mw_64, mw_1717, by decide, by decide, by decide +kernel⟩) ⟨rfl, rfl⟩ ⟨by show 2 + 1 ≤ R.frames; omega, by show 8 + (2 + 11) + 46 ≤ R.locals; omega⟩ (r_M hC h) rfl rfl hl.1 (Nat.le_of_ble_eq_true rfl) dL_law_1620 ⟨by omega, by omega⟩ (fun r2 u2 H locs hq h => ?_)
  refine lv_istore (lv' := [(7, .int r2), (6, .int k), (5, .int (nI i)), (4, .ref (eX V 601)), (3, .ref (eX V 600)), (2, .ref (eX V 500)), (1, .ref (eX V 96)), (0, .ref b)]) hx hcd dL_law_1623 hl (by decide) rfl (fun ls hl => ?_)
  have key : u2.1 3 = k ∧ (k = nI 0 → u.2 0 = r2.toInt64) ∧ rel (n + 1) u.1 u2 := by
    rcases hp with ⟨hk0, r, hp1, hu⟩ | ⟨hk0, hp1⟩ | ⟨hk0, hp1⟩
    · obtain ⟨q1, q2, q3⟩ := hcs.1 _ _ _ _ hp1 hq
      exact ⟨q1.trans hk0.symm, fun _ => by rw [hu, ← q2]; rfl, q3⟩
    · have q := hcs.2 _ _ _ _ hp1 hq
      rcases q with ⟨q1, q2, q3⟩ | ⟨q1, q2, q3⟩
      · exact ⟨q2.trans hk0.symm, fun z => absurd (hk0.symm.trans z) (by decide), q3⟩
      · exact absurd q1 (by decide)
    · have q := hcs.2 _ _ _ _ hp1 hq
      rcases q with ⟨q1, q2, q3⟩ | ⟨q1, q2, q3⟩
      · exact absurd q1 (by decide)
      · exact ⟨q2.trans hk0.symm, fun z => absurd (hk0.symm.trans z) (by decide), q3⟩
  obtain ⟨k1, k2, k3⟩ := key
  exact lt_i (t1 := 1636) (t2 := 1653) (t3 := 2868) hV G hC hB mw_1531 h hl k1 k2 (by omega) (by omega) (by omega) (by omega) dL_law_1625 dL_law_1626 dL_law_1629 dL_law_1631 (by decide) dL_law_1636 dL_law_1638 (by decide) dL_law_1641 dL_law_1642 dL_law_1643 dL_law_1644 dL_law_1646 dL_law_1647 dL_law_1648 (by decide) dL_law_1653 (by decide) (fun H locs ls h hl => kk _ _ _ _ H locs ls _ _ k3 h hl (by omega) (by omega))
set_option maxHeartbeats 4000000 in
set_option maxRecDepth 100000 in
theorem lc_24_unplan (hst : l.stackTraces = false) (hV : kOk V) (G : CallFix p m c cL_law 9 s args LW RL) (hC : cSt V s) (hB : eB V ≤ s.heap.size) (hX : va_X b LN xs s s.heap) (hbl : b < s.heap.size) (hbA : ¬ eA V b) (hn : n ≤ 600) (hr : rel n S M) (h : cH V s H locs (LWs V S M O OD)) (hi : i + 3 ≤ LN) (hLN : LN ≤ 1536) (hl : lv_has ls 9 (lv0 V b i)) (hRf : 30 ≤ R.frames) (hRl : 1500 ≤ R.locals) (hc : cells + 24 ≤ R.cells) (hs : slots + 3000 ≤ R.slots)
    (kk : ∀ (S : kCs) (M : kMs) (O : Nat → Int64) (OD : Nat → UInt64) (H : Heap) (locs : List Loc) (ls : Array Slot) (cells1 slots1 : Nat), rel (n + 1) S M → cH V s H locs (LWs V S M O OD) → lv_has ls 9 (lv0 V b i) → cells1 ≤ cells + 24 → slots1 ≤ slots + 3000 → W p l e R s m args below meth c H locs cells1 slots1 Q (F0 m 2868 ls [])) : W p l e R s m args below meth c H locs cells slots Q (F0 m 1656 ls []) := by
  have hx := G.1
  have hcd := G.2.1
  obtain ⟨B, nx, sz, L0, L, ep, fp, s0, hd⟩ := hr
  obtain ⟨e1, hA, hg, hH, hSs, hLL, hTT, hEE, hXX⟩ := id hd
  obtain ⟨f0, hf0⟩ := hXX.2.2.1
  obtain ⟨g0, hg0⟩ := hXX.2.2.2.1
  obtain ⟨pp, hpp⟩ := hXX.2.2.2.2.1
  obtain ⟨cm, hcm⟩ := hXX.2.2.2.2.2.1
  obtain ⟨sg, hsg, hsg2⟩ := hLL.2.2.2
  have hx5 : nx < 60000 := by have := hH.2.2.1; omega
  have eS : setB S 0 B = S := rel_S hd
  replace h : cH V s H locs (LWs V (setB S 0 B) M O OD) := by rw [eS]; exact h
  refine lv_aload_n hx hcd dL_law_1656 rfl (lv_at hl 4 rfl) ?_
  refine lv_aload_n hx hcd dL_law_1657 rfl (lv_at hl 5 rfl) ?_
  refine lv_iload hx hcd dL_law_1658 (lv_at hl 0 rfl) ?_
  refine lv_iconst (v := nI 1) hx hcd dL_law_1660 (by decide) ?_
  refine w_iadd (v := nI (i + 1)) hx hcd dL_law_1661 (nI_add _ _) ?_
  refine va_sld hx hcd hX hbl hbA h.2.2 (vp_in_nI (n := i + 1) (by omega) (by omega)) dL_law_1662 ?_
  refine lv_aload_n hx hcd dL_law_1663 rfl (lv_at hl 2 rfl) ?_
  replace h := cH_f h
  have hcs := cs_unplan (x := (xs (nI (i + 1)).toNatClampNeg)) hd
  refine lw_S (F := lwF V) (u0 := (setB S 0 B, O)) (As := [.ref (eX V 96), .int (xs (nI (i + 1)).toNatClampNeg), .ref (eX V 600)]) (rest := []) G hC hB hV h (met_L_unplan l _ (frV_ok _ _ _) (setB S 0 B) O (xs (nI (i + 1)).toNatClampNeg) (fun ws n => met_X3_unplan l hst _ S B hA.1 nx sz hH.1 hH.2.1 hx5 hH.2.2.2.1 (hXX.1 _ (by omega)) (xs (nI (i + 1)).toNatClampNeg)) (fun E u hp => ?hE)) mw_1143 (show kSw yL_unplan cL_unplan 4 [(0, 9, 12, 21), (0, 9, 15, 15)] 3 from ⟨mw_1144, mw_55, mw_1145, by decide, by decide, by decide +kernel⟩) ⟨rfl, rfl⟩ ⟨by show 9 + 1 ≤ R.frames; omega, by show 8 + (4 + 11) + 152 ≤ R.locals; omega⟩ rfl rfl hl.1 (Nat.le_of_ble_eq_true rfl) dL_law_1664 ⟨by omega, by omega⟩ (fun k u H locs hp h => ?_)
  case hE =>
    rcases hp with ⟨e0, -⟩ | ⟨_, -, -, e0, -⟩
    · exact Or.inl e0
    · exact Or.inr (e0)
  refine lv_istore (lv' := [(6, .int k), (5, .int (nI i)), (4, .ref (eX V 601)), (3, .ref (eX V 600)), (2, .ref (eX V 500)), (1, .ref (eX V 96)), (0, .ref b)]) hx hcd dL_law_1667 hl (by decide) rfl (fun ls hl => ?_)
  replace h := cH_m h
  refine lv_aload_n hx hcd dL_law_1669 rfl (lv_at hl 4 rfl) ?_
  refine lv_aload_n hx hcd dL_law_1670 rfl (lv_at hl 6 rfl) ?_
  refine lv_iload hx hcd dL_law_1671 (lv_at hl 1 rfl) ?_
  refine lv_iconst (v := nI 1) hx hcd dL_law_1673 (by decide) ?_
  refine w_iadd (v := nI (i + 1)) hx hcd dL_law_1674 (nI_add _ _) ?_
  refine va_sld hx hcd hX hbl hbA h.2.2 (vp_in_nI (n := i + 1) (by omega) (by omega)) dL_law_1675 ?_
  refine fk_Vi (As := [.int (xs (nI (i + 1)).toNatClampNeg)]) (rest := []) (b := eX V 500) G hC hB hV h (met_X4_unplan l _ M B hg hA.1 0 sz hXX.2.1 (by decide) hH.2.2.2.2.2.1 hH.2.2.2.1 (xs (nI (i + 1)).toNatClampNeg)) mw_1722 (show kV yX4_unplan cX4_unplan 2 (some .int) 1 from ⟨mw_1723, mw_1724, mw_64, mw_1725, by decide, by decide, by decide +kernel⟩) ⟨rfl, rfl⟩ ⟨by show 2 + 1 ≤ R.frames; omega, by show 8 + (2 + 11) + 46 ≤ R.locals; omega⟩ (r_M hC h) rfl rfl hl.1 (Nat.le_of_ble_eq_true rfl) dL_law_1676 ⟨by omega, by omega⟩ (fun r2 u2 H locs hq h => ?_)
  refine lv_istore (lv' := [(7, .int r2), (6, .int k), (5, .int (nI i)), (4, .ref (eX V 601)), (3, .ref (eX V 600)), (2, .ref (eX V 500)), (1, .ref (eX V 96)), (0, .ref b)]) hx hcd dL_law_1679 hl (by decide) rfl (fun ls hl => ?_)
  have key : u2.1 3 = k ∧ (k = nI 0 → u.2 0 = r2.toInt64) ∧ rel (n + 1) u.1 u2 := by
    rcases hp with ⟨hk0, r, hp1, hu⟩ | ⟨hk0, hp1⟩ | ⟨hk0, hp1⟩
    · obtain ⟨q1, q2, q3⟩ := hcs.1 _ _ _ _ hp1 hq
      exact ⟨q1.trans hk0.symm, fun _ => by rw [hu, ← q2]; rfl, q3⟩
    · have q := hcs.2 _ _ _ _ hp1 hq
      rcases q with ⟨q1, q2, q3⟩ | ⟨q1, q2, q3⟩
      · exact ⟨q2.trans hk0.symm, fun z => absurd (hk0.symm.trans z) (by decide), q3⟩
      · exact absurd q1 (by decide)
    · have q := hcs.2 _ _ _ _ hp1 hq
      rcases q with ⟨q1, q2, q3⟩ | ⟨q1, q2, q3⟩
      · exact absurd q1 (by decide)
      · exact ⟨q2.trans hk0.symm, fun z => absurd (hk0.symm.trans z) (by decide), q3⟩
  obtain ⟨k1, k2, k3⟩ := key
  exact lt_i (t1 := 1692) (t2 := 1709) (t3 := 2868) hV G hC hB mw_1531 h hl k1 k2 (by omega) (by omega) (by omega) (by omega) dL_law_1681 dL_law_1682 dL_law_1685 dL_law_1687 (by decide) dL_law_1692 dL_law_1694 (by decide) dL_law_1697 dL_law_1698 dL_law_1699 dL_law_1700 dL_law_1702 dL_law_1703 dL_law_1704 (by decide) dL_law_1709 (by decide) (fun H locs ls h hl => kk _ _ _ _ H locs ls _ _ k3 h hl (by omega) (by omega))
set_option maxHeartbeats 4000000 in
set_option maxRecDepth 100000 in
theorem lc_25_startSprint (hst : l.stackTraces = false) (hV : kOk V) (G : CallFix p m c cL_law 9 s args LW RL) (hC : cSt V s) (hB : eB V ≤ s.heap.size) (hX : va_X b LN xs s s.heap) (hbl : b < s.heap.size) (hbA : ¬ eA V b) (hn : n ≤ 600) (hr : rel n S M) (h : cH V s H locs (LWs V S M O OD)) (hi : i + 3 ≤ LN) (hLN : LN ≤ 1536) (hl : lv_has ls 9 (lv0 V b i)) (hRf : 30 ≤ R.frames) (hRl : 1500 ≤ R.locals) (hc : cells + 24 ≤ R.cells) (hs : slots + 3000 ≤ R.slots)
    (kk : ∀ (S : kCs) (M : kMs) (O : Nat → Int64) (OD : Nat → UInt64) (H : Heap) (locs : List Loc) (ls : Array Slot) (cells1 slots1 : Nat), rel (n + 1) S M → cH V s H locs (LWs V S M O OD) → lv_has ls 9 (lv0 V b i) → cells1 ≤ cells + 24 → slots1 ≤ slots + 3000 → W p l e R s m args below meth c H locs cells1 slots1 Q (F0 m 2868 ls [])) : W p l e R s m args below meth c H locs cells slots Q (F0 m 1712 ls []) := by
  have hx := G.1
  have hcd := G.2.1
  obtain ⟨B, nx, sz, L0, L, ep, fp, s0, hd⟩ := hr
  obtain ⟨e1, hA, hg, hH, hSs, hLL, hTT, hEE, hXX⟩ := id hd
  obtain ⟨f0, hf0⟩ := hXX.2.2.1
  obtain ⟨g0, hg0⟩ := hXX.2.2.2.1
  obtain ⟨pp, hpp⟩ := hXX.2.2.2.2.1
  obtain ⟨cm, hcm⟩ := hXX.2.2.2.2.2.1
  obtain ⟨sg, hsg, hsg2⟩ := hLL.2.2.2
  have hx5 : nx < 60000 := by have := hH.2.2.1; omega
  have eS : setB S 0 B = S := rel_S hd
  replace h : cH V s H locs (LWs V (setB S 0 B) M O OD) := by rw [eS]; exact h
  refine lv_aload_n hx hcd dL_law_1712 rfl (lv_at hl 4 rfl) ?_
  refine lv_aload_n hx hcd dL_law_1713 rfl (lv_at hl 5 rfl) ?_
  refine lv_iload hx hcd dL_law_1714 (lv_at hl 0 rfl) ?_
  refine lv_iconst (v := nI 1) hx hcd dL_law_1716 (by decide) ?_
  refine w_iadd (v := nI (i + 1)) hx hcd dL_law_1717 (nI_add _ _) ?_
  refine va_sld hx hcd hX hbl hbA h.2.2 (vp_in_nI (n := i + 1) (by omega) (by omega)) dL_law_1718 ?_
  refine lv_aload_n hx hcd dL_law_1719 rfl (lv_at hl 2 rfl) ?_
  replace h := cH_f h
  have hcs := cs_startSprint (x := (xs (nI (i + 1)).toNatClampNeg)) hd
  refine lw_S (F := lwF V) (u0 := (setB S 0 B, O)) (As := [.ref (eX V 96), .int (xs (nI (i + 1)).toNatClampNeg), .ref (eX V 600)]) (rest := []) G hC hB hV h (met_L_startSprint l _ (frV_ok _ _ _) (setB S 0 B) O (xs (nI (i + 1)).toNatClampNeg) (fun ws n => met_X3_startSprint l hst _ S B hA.1 nx sz hH.1 hH.2.1 hx5 hH.2.2.2.1 (hXX.1 _ (by omega)) (xs (nI (i + 1)).toNatClampNeg)) (fun E u hp => ?hE)) mw_1158 (show kSw yL_startSprint cL_startSprint 4 [(0, 9, 12, 13), (0, 9, 15, 15)] 3 from ⟨mw_1159, mw_55, mw_1160, by decide, by decide, by decide +kernel⟩) ⟨rfl, rfl⟩ ⟨by show 9 + 1 ≤ R.frames; omega, by show 8 + (4 + 11) + 152 ≤ R.locals; omega⟩ rfl rfl hl.1 (Nat.le_of_ble_eq_true rfl) dL_law_1720 ⟨by omega, by omega⟩ (fun k u H locs hp h => ?_)
  case hE =>
    rcases hp with ⟨e0, -⟩ | ⟨_, -, -, -, -, e0, -⟩
    · exact Or.inl e0
    · exact Or.inr (e0)
  refine lv_istore (lv' := [(6, .int k), (5, .int (nI i)), (4, .ref (eX V 601)), (3, .ref (eX V 600)), (2, .ref (eX V 500)), (1, .ref (eX V 96)), (0, .ref b)]) hx hcd dL_law_1723 hl (by decide) rfl (fun ls hl => ?_)
  replace h := cH_m h
  refine lv_aload_n hx hcd dL_law_1725 rfl (lv_at hl 4 rfl) ?_
  refine lv_aload_n hx hcd dL_law_1726 rfl (lv_at hl 6 rfl) ?_
  refine lv_iload hx hcd dL_law_1727 (lv_at hl 1 rfl) ?_
  refine lv_iconst (v := nI 1) hx hcd dL_law_1729 (by decide) ?_
  refine w_iadd (v := nI (i + 1)) hx hcd dL_law_1730 (nI_add _ _) ?_
  refine va_sld hx hcd hX hbl hbA h.2.2 (vp_in_nI (n := i + 1) (by omega) (by omega)) dL_law_1731 ?_
  refine fk_Vi (As := [.int (xs (nI (i + 1)).toNatClampNeg)]) (rest := []) (b := eX V 500) G hC hB hV h (met_X4_startSprint l _ M B hg hA.1 0 sz hXX.2.1 (by decide) hH.2.2.2.2.2.1 hH.2.2.2.1 (xs (nI (i + 1)).toNatClampNeg)) mw_1726 (show kV yX4_startSprint cX4_startSprint 2 (some .int) 1 from ⟨mw_1727, mw_1728, mw_64, mw_1729, by decide, by decide, by decide +kernel⟩) ⟨rfl, rfl⟩ ⟨by show 2 + 1 ≤ R.frames; omega, by show 8 + (2 + 11) + 46 ≤ R.locals; omega⟩ (r_M hC h) rfl rfl hl.1 (Nat.le_of_ble_eq_true rfl) dL_law_1732 ⟨by omega, by omega⟩ (fun r2 u2 H locs hq h => ?_)
  refine lv_istore (lv' := [(7, .int r2), (6, .int k), (5, .int (nI i)), (4, .ref (eX V 601)), (3, .ref (eX V 600)), (2, .ref (eX V 500)), (1, .ref (eX V 96)), (0, .ref b)]) hx hcd dL_law_1735 hl (by decide) rfl (fun ls hl => ?_)
  have key : u2.1 3 = k ∧ (k = nI 0 → u.2 0 = r2.toInt64) ∧ rel (n + 1) u.1 u2 := by
    rcases hp with ⟨hk0, r, hp1, hu⟩ | ⟨hk0, hp1⟩ | ⟨hk0, hp1⟩
    · obtain ⟨q1, q2, q3⟩ := hcs.1 _ _ _ _ hp1 hq
      exact ⟨q1.trans hk0.symm, fun _ => by rw [hu, ← q2]; rfl, q3⟩
    · have q := hcs.2 _ _ _ _ hp1 hq
      rcases q with ⟨q1, q2, q3⟩ | ⟨q1, q2, q3⟩
      · exact ⟨q2.trans hk0.symm, fun z => absurd (hk0.symm.trans z) (by decide), q3⟩
      · exact absurd q1 (by decide)
    · have q := hcs.2 _ _ _ _ hp1 hq
      rcases q with ⟨q1, q2, q3⟩ | ⟨q1, q2, q3⟩
      · exact absurd q1 (by decide)
      · exact ⟨q2.trans hk0.symm, fun z => absurd (hk0.symm.trans z) (by decide), q3⟩
  obtain ⟨k1, k2, k3⟩ := key
  exact lt_i (t1 := 1748) (t2 := 1765) (t3 := 2868) hV G hC hB mw_1531 h hl k1 k2 (by omega) (by omega) (by omega) (by omega) dL_law_1737 dL_law_1738 dL_law_1741 dL_law_1743 (by decide) dL_law_1748 dL_law_1750 (by decide) dL_law_1753 dL_law_1754 dL_law_1755 dL_law_1756 dL_law_1758 dL_law_1759 dL_law_1760 (by decide) dL_law_1765 (by decide) (fun H locs ls h hl => kk _ _ _ _ H locs ls _ _ k3 h hl (by omega) (by omega))
set_option maxHeartbeats 4000000 in
set_option maxRecDepth 100000 in
theorem lc_26_passDay (hst : l.stackTraces = false) (hV : kOk V) (G : CallFix p m c cL_law 9 s args LW RL) (hC : cSt V s) (hB : eB V ≤ s.heap.size) (hX : va_X b LN xs s s.heap) (hbl : b < s.heap.size) (hbA : ¬ eA V b) (hn : n ≤ 600) (hr : rel n S M) (h : cH V s H locs (LWs V S M O OD)) (hi : i + 3 ≤ LN) (hLN : LN ≤ 1536) (hl : lv_has ls 9 (lv0 V b i)) (hRf : 30 ≤ R.frames) (hRl : 1500 ≤ R.locals) (hc : cells + 24 ≤ R.cells) (hs : slots + 3000 ≤ R.slots)
    (kk : ∀ (S : kCs) (M : kMs) (O : Nat → Int64) (OD : Nat → UInt64) (H : Heap) (locs : List Loc) (ls : Array Slot) (cells1 slots1 : Nat), rel (n + 1) S M → cH V s H locs (LWs V S M O OD) → lv_has ls 9 (lv0 V b i) → cells1 ≤ cells + 24 → slots1 ≤ slots + 3000 → W p l e R s m args below meth c H locs cells1 slots1 Q (F0 m 2868 ls [])) : W p l e R s m args below meth c H locs cells slots Q (F0 m 1768 ls []) := by
  have hx := G.1
  have hcd := G.2.1
  obtain ⟨B, nx, sz, L0, L, ep, fp, s0, hd⟩ := hr
  obtain ⟨e1, hA, hg, hH, hSs, hLL, hTT, hEE, hXX⟩ := id hd
  obtain ⟨f0, hf0⟩ := hXX.2.2.1
  obtain ⟨g0, hg0⟩ := hXX.2.2.2.1
  obtain ⟨pp, hpp⟩ := hXX.2.2.2.2.1
  obtain ⟨cm, hcm⟩ := hXX.2.2.2.2.2.1
  obtain ⟨sg, hsg, hsg2⟩ := hLL.2.2.2
  have hx5 : nx < 60000 := by have := hH.2.2.1; omega
  have eS : setB S 0 B = S := rel_S hd
  replace h : cH V s H locs (LWs V (setB S 0 B) M O OD) := by rw [eS]; exact h
  refine lv_aload_n hx hcd dL_law_1768 rfl (lv_at hl 4 rfl) ?_
  refine lv_aload_n hx hcd dL_law_1769 rfl (lv_at hl 2 rfl) ?_
  replace h := cH_f h
  have hcs := cs_passDay hd
  refine lw_S (F := lwF V) (u0 := (setB S 0 B, O)) (As := [.ref (eX V 96), .ref (eX V 600)]) (rest := []) G hC hB hV h (met_L_passDay l _ (frV_ok _ _ _) (setB S 0 B) O (fun ws n => met_X3_passDay l hst _ S B hA.1 nx sz hH.1 hH.2.1 hx5 hH.2.2.2.1 (hXX.1 _ (by omega))) (fun E u hp => ?hE)) mw_1178 (show kSw yL_passDay cL_passDay 3 [(0, 8, 11, 15)] 2 from ⟨mw_1179, mw_55, mw_1180, by decide, by decide, by decide +kernel⟩) ⟨rfl, rfl⟩ ⟨by show 8 + 1 ≤ R.frames; omega, by show 8 + (3 + 11) + 130 ≤ R.locals; omega⟩ rfl rfl hl.1 (Nat.le_of_ble_eq_true rfl) dL_law_1770 ⟨by omega, by omega⟩ (fun k u H locs hp h => ?_)
  case hE =>
    rcases hp with ⟨e0, -⟩
    · exact e0
  refine lv_istore (lv' := [(6, .int k), (5, .int (nI i)), (4, .ref (eX V 601)), (3, .ref (eX V 600)), (2, .ref (eX V 500)), (1, .ref (eX V 96)), (0, .ref b)]) hx hcd dL_law_1773 hl (by decide) rfl (fun ls hl => ?_)
  replace h := cH_m h
  refine lv_aload_n hx hcd dL_law_1775 rfl (lv_at hl 4 rfl) ?_
  refine fk_Vi (As := []) (rest := []) (b := eX V 500) G hC hB hV h (met_X4_passDay l _ M B hg hA.1 0 sz hXX.2.1 (by decide) hH.2.2.2.2.2.1 hH.2.2.2.1 hA.2.1) mw_1730 (show kV yX4_passDay cX4_passDay 2 (some .int) 0 from ⟨mw_1731, mw_1732, mw_64, mw_1733, by decide, by decide, by decide +kernel⟩) ⟨rfl, rfl⟩ ⟨by show 4 + 1 ≤ R.frames; omega, by show 8 + (2 + 11) + 91 ≤ R.locals; omega⟩ (r_M hC h) rfl rfl hl.1 (Nat.le_of_ble_eq_true rfl) dL_law_1776 ⟨by omega, by omega⟩ (fun r2 u2 H locs hq h => ?_)
  refine lv_istore (lv' := [(7, .int r2), (6, .int k), (5, .int (nI i)), (4, .ref (eX V 601)), (3, .ref (eX V 600)), (2, .ref (eX V 500)), (1, .ref (eX V 96)), (0, .ref b)]) hx hcd dL_law_1779 hl (by decide) rfl (fun ls hl => ?_)
  have key : u2.1 3 = k ∧ (k = nI 0 → u.2 0 = r2.toInt64) ∧ rel (n + 1) u.1 u2 := by
    rcases hp with ⟨hk0, r, hp1, hu⟩ | ⟨hk0, hp1⟩
    · obtain ⟨q1, q2, q3⟩ := hcs.1 _ _ _ _ hp1 hq
      exact ⟨q1.trans hk0.symm, fun _ => by rw [hu, ← q2]; rfl, q3⟩
    · have q := hcs.2 _ _ _ _ hp1 hq
      exact ⟨q.2.1.trans hk0.symm, fun z => absurd (hk0.symm.trans z) (by decide), q.2.2⟩
  obtain ⟨k1, k2, k3⟩ := key
  exact lt_i (t1 := 1792) (t2 := 1809) (t3 := 2868) hV G hC hB mw_1531 h hl k1 k2 (by omega) (by omega) (by omega) (by omega) dL_law_1781 dL_law_1782 dL_law_1785 dL_law_1787 (by decide) dL_law_1792 dL_law_1794 (by decide) dL_law_1797 dL_law_1798 dL_law_1799 dL_law_1800 dL_law_1802 dL_law_1803 dL_law_1804 (by decide) dL_law_1809 (by decide) (fun H locs ls h hl => kk _ _ _ _ H locs ls _ _ k3 h hl (by omega) (by omega))
set_option maxHeartbeats 4000000 in
set_option maxRecDepth 100000 in
theorem lc_27_endSprint (hst : l.stackTraces = false) (hV : kOk V) (G : CallFix p m c cL_law 9 s args LW RL) (hC : cSt V s) (hB : eB V ≤ s.heap.size) (hX : va_X b LN xs s s.heap) (hbl : b < s.heap.size) (hbA : ¬ eA V b) (hn : n ≤ 600) (hr : rel n S M) (h : cH V s H locs (LWs V S M O OD)) (hi : i + 3 ≤ LN) (hLN : LN ≤ 1536) (hl : lv_has ls 9 (lv0 V b i)) (hRf : 30 ≤ R.frames) (hRl : 1500 ≤ R.locals) (hc : cells + 24 ≤ R.cells) (hs : slots + 3000 ≤ R.slots)
    (kk : ∀ (S : kCs) (M : kMs) (O : Nat → Int64) (OD : Nat → UInt64) (H : Heap) (locs : List Loc) (ls : Array Slot) (cells1 slots1 : Nat), rel (n + 1) S M → cH V s H locs (LWs V S M O OD) → lv_has ls 9 (lv0 V b i) → cells1 ≤ cells + 24 → slots1 ≤ slots + 3000 → W p l e R s m args below meth c H locs cells1 slots1 Q (F0 m 2868 ls [])) : W p l e R s m args below meth c H locs cells slots Q (F0 m 1812 ls []) := by
  have hx := G.1
  have hcd := G.2.1
  obtain ⟨B, nx, sz, L0, L, ep, fp, s0, hd⟩ := hr
  obtain ⟨e1, hA, hg, hH, hSs, hLL, hTT, hEE, hXX⟩ := id hd
  obtain ⟨f0, hf0⟩ := hXX.2.2.1
  obtain ⟨g0, hg0⟩ := hXX.2.2.2.1
  obtain ⟨pp, hpp⟩ := hXX.2.2.2.2.1
  obtain ⟨cm, hcm⟩ := hXX.2.2.2.2.2.1
  obtain ⟨sg, hsg, hsg2⟩ := hLL.2.2.2
  have hx5 : nx < 60000 := by have := hH.2.2.1; omega
  have eS : setB S 0 B = S := rel_S hd
  replace h : cH V s H locs (LWs V (setB S 0 B) M O OD) := by rw [eS]; exact h
  refine lv_aload_n hx hcd dL_law_1812 rfl (lv_at hl 4 rfl) ?_
  refine lv_aload_n hx hcd dL_law_1813 rfl (lv_at hl 2 rfl) ?_
  replace h := cH_f h
  have hcs := cs_endSprint hd
  refine lw_S (F := lwF V) (u0 := (setB S 0 B, O)) (As := [.ref (eX V 96), .ref (eX V 600)]) (rest := []) G hC hB hV h (met_L_endSprint l _ (frV_ok _ _ _) (setB S 0 B) O (fun ws n => met_X3_endSprint l hst _ S B hA.1 nx sz hH.1 hH.2.1 hx5 hH.2.2.2.1 (hXX.1 _ (by omega))) (fun E u hp => ?hE)) mw_1194 (show kSw yL_endSprint cL_endSprint 3 [(0, 8, 11, 15)] 2 from ⟨mw_1195, mw_55, mw_1196, by decide, by decide, by decide +kernel⟩) ⟨rfl, rfl⟩ ⟨by show 8 + 1 ≤ R.frames; omega, by show 8 + (3 + 11) + 130 ≤ R.locals; omega⟩ rfl rfl hl.1 (Nat.le_of_ble_eq_true rfl) dL_law_1814 ⟨by omega, by omega⟩ (fun k u H locs hp h => ?_)
  case hE =>
    rcases hp with ⟨e0, -⟩
    · exact e0
  refine lv_istore (lv' := [(6, .int k), (5, .int (nI i)), (4, .ref (eX V 601)), (3, .ref (eX V 600)), (2, .ref (eX V 500)), (1, .ref (eX V 96)), (0, .ref b)]) hx hcd dL_law_1817 hl (by decide) rfl (fun ls hl => ?_)
  replace h := cH_m h
  refine lv_aload_n hx hcd dL_law_1819 rfl (lv_at hl 4 rfl) ?_
  refine fk_Vi (As := []) (rest := []) (b := eX V 500) G hC hB hV h (met_X4_endSprint l _ M B hg hA.1 0 sz hXX.2.1 (by decide) hH.2.2.2.2.2.1 hH.2.2.2.1 hA.2.1) mw_1738 (show kV yX4_endSprint cX4_endSprint 3 (some .int) 0 from ⟨mw_1739, mw_1740, mw_64, mw_1741, by decide, by decide, by decide +kernel⟩) ⟨rfl, rfl⟩ ⟨by show 2 + 1 ≤ R.frames; omega, by show 8 + (3 + 11) + 46 ≤ R.locals; omega⟩ (r_M hC h) rfl rfl hl.1 (Nat.le_of_ble_eq_true rfl) dL_law_1820 ⟨by omega, by omega⟩ (fun r2 u2 H locs hq h => ?_)
  refine lv_istore (lv' := [(7, .int r2), (6, .int k), (5, .int (nI i)), (4, .ref (eX V 601)), (3, .ref (eX V 600)), (2, .ref (eX V 500)), (1, .ref (eX V 96)), (0, .ref b)]) hx hcd dL_law_1823 hl (by decide) rfl (fun ls hl => ?_)
  have key : u2.1 3 = k ∧ (k = nI 0 → u.2 0 = r2.toInt64) ∧ rel (n + 1) u.1 u2 := by
    rcases hp with ⟨hk0, r, hp1, hu⟩ | ⟨hk0, hp1⟩
    · obtain ⟨q1, q2, q3⟩ := hcs.1 _ _ _ _ hp1 hq
      exact ⟨q1.trans hk0.symm, fun _ => by rw [hu, ← q2]; rfl, q3⟩
    · have q := hcs.2 _ _ _ _ hp1 hq
      exact ⟨q.2.1.trans hk0.symm, fun z => absurd (hk0.symm.trans z) (by decide), q.2.2⟩
  obtain ⟨k1, k2, k3⟩ := key
  exact lt_i (t1 := 1836) (t2 := 1853) (t3 := 2868) hV G hC hB mw_1531 h hl k1 k2 (by omega) (by omega) (by omega) (by omega) dL_law_1825 dL_law_1826 dL_law_1829 dL_law_1831 (by decide) dL_law_1836 dL_law_1838 (by decide) dL_law_1841 dL_law_1842 dL_law_1843 dL_law_1844 dL_law_1846 dL_law_1847 dL_law_1848 (by decide) dL_law_1853 (by decide) (fun H locs ls h hl => kk _ _ _ _ H locs ls _ _ k3 h hl (by omega) (by omega))
set_option maxHeartbeats 4000000 in
set_option maxRecDepth 100000 in
theorem lc_30_daysPassed (hst : l.stackTraces = false) (hV : kOk V) (G : CallFix p m c cL_law 9 s args LW RL) (hC : cSt V s) (hB : eB V ≤ s.heap.size) (hX : va_X b LN xs s s.heap) (hbl : b < s.heap.size) (hbA : ¬ eA V b) (hn : n ≤ 600) (hr : rel n S M) (h : cH V s H locs (LWs V S M O OD)) (hi : i + 3 ≤ LN) (hLN : LN ≤ 1536) (hl : lv_has ls 9 (lv0 V b i)) (hRf : 30 ≤ R.frames) (hRl : 1500 ≤ R.locals) (hc : cells + 24 ≤ R.cells) (hs : slots + 3000 ≤ R.slots)
    (kk : ∀ (S : kCs) (M : kMs) (O : Nat → Int64) (OD : Nat → UInt64) (H : Heap) (locs : List Loc) (ls : Array Slot) (cells1 slots1 : Nat), rel (n + 1) S M → cH V s H locs (LWs V S M O OD) → lv_has ls 9 (lv0 V b i) → cells1 ≤ cells + 24 → slots1 ≤ slots + 3000 → W p l e R s m args below meth c H locs cells1 slots1 Q (F0 m 2868 ls [])) : W p l e R s m args below meth c H locs cells slots Q (F0 m 1882 ls []) := by
  have hx := G.1
  have hcd := G.2.1
  obtain ⟨B, nx, sz, L0, L, ep, fp, s0, hd⟩ := hr
  obtain ⟨e1, hA, hg, hH, hSs, hLL, hTT, hEE, hXX⟩ := id hd
  obtain ⟨f0, hf0⟩ := hXX.2.2.1
  obtain ⟨g0, hg0⟩ := hXX.2.2.2.1
  obtain ⟨pp, hpp⟩ := hXX.2.2.2.2.1
  obtain ⟨cm, hcm⟩ := hXX.2.2.2.2.2.1
  obtain ⟨sg, hsg, hsg2⟩ := hLL.2.2.2
  have hx5 : nx < 60000 := by have := hH.2.2.1; omega
  have eS : setB S 0 B = S := rel_S hd
  replace h : cH V s H locs (LWs V (setB S 0 B) M O OD) := by rw [eS]; exact h
  refine lv_aload_n hx hcd dL_law_1882 rfl (lv_at hl 4 rfl) ?_
  refine lv_aload_n hx hcd dL_law_1883 rfl (lv_at hl 2 rfl) ?_
  replace h := cH_f h
  have hcs := cs_daysPassed hd
  refine lw_S (F := lwF V) (u0 := (setB S 0 B, O)) (As := [.ref (eX V 96), .ref (eX V 600)]) (rest := []) G hC hB hV h (met_L_daysPassed l _ (frV_ok _ _ _) (setB S 0 B) O (fun ws n => met_X3_daysPassed l hst _ S B hA.1) (fun E u hp => ?hE)) mw_1209 (show kSw yL_daysPassed cL_daysPassed 3 [(0, 8, 11, 66)] 2 from ⟨mw_1210, mw_55, mw_1211, by decide, by decide, by decide +kernel⟩) ⟨rfl, rfl⟩ ⟨by show 8 + 1 ≤ R.frames; omega, by show 8 + (3 + 11) + 130 ≤ R.locals; omega⟩ rfl rfl hl.1 (Nat.le_of_ble_eq_true rfl) dL_law_1884 ⟨by omega, by omega⟩ (fun k u H locs hp h => ?_)
  case hE =>
    rcases hp with ⟨e0, -⟩
    · exact e0
  refine lv_istore (lv' := [(6, .int k), (5, .int (nI i)), (4, .ref (eX V 601)), (3, .ref (eX V 600)), (2, .ref (eX V 500)), (1, .ref (eX V 96)), (0, .ref b)]) hx hcd dL_law_1887 hl (by decide) rfl (fun ls hl => ?_)
  replace h := cH_m h
  refine lv_aload_n hx hcd dL_law_1889 rfl (lv_at hl 4 rfl) ?_
  refine fk_Vi (As := []) (rest := []) (b := eX V 500) G hC hB hV h (met_X4_daysPassed l _ M B hg hA.1) mw_1750 (show kV yX4_daysPassed cX4_daysPassed 1 (some .int) 0 from ⟨mw_1751, mw_1752, mw_64, mw_1753, by decide, by decide, by decide +kernel⟩) ⟨rfl, rfl⟩ ⟨by show 2 + 1 ≤ R.frames; omega, by show 8 + (1 + 11) + 41 ≤ R.locals; omega⟩ (r_M hC h) rfl rfl hl.1 (Nat.le_of_ble_eq_true rfl) dL_law_1890 ⟨by omega, by omega⟩ (fun r2 u2 H locs hq h => ?_)
  refine lv_istore (lv' := [(7, .int r2), (6, .int k), (5, .int (nI i)), (4, .ref (eX V 601)), (3, .ref (eX V 600)), (2, .ref (eX V 500)), (1, .ref (eX V 96)), (0, .ref b)]) hx hcd dL_law_1893 hl (by decide) rfl (fun ls hl => ?_)
  have key : u2.1 3 = k ∧ (k = nI 0 → u.2 0 = r2.toInt64) ∧ rel (n + 1) u.1 u2 := by
    rcases hp with ⟨hk0, r, hp1, hu⟩ | ⟨hk0, hp1⟩
    · obtain ⟨q1, q2, q3⟩ := hcs.1 _ _ _ _ hp1 hq
      exact ⟨q1.trans hk0.symm, fun _ => by rw [hu, ← q2]; rfl, q3⟩
    · have q := hcs.2 _ _ _ _ hp1 hq
      exact ⟨q.2.1.trans hk0.symm, fun z => absurd (hk0.symm.trans z) (by decide), q.2.2⟩
  obtain ⟨k1, k2, k3⟩ := key
  exact lt_i (t1 := 1906) (t2 := 1923) (t3 := 2868) hV G hC hB mw_1531 h hl k1 k2 (by omega) (by omega) (by omega) (by omega) dL_law_1895 dL_law_1896 dL_law_1899 dL_law_1901 (by decide) dL_law_1906 dL_law_1908 (by decide) dL_law_1911 dL_law_1912 dL_law_1913 dL_law_1914 dL_law_1916 dL_law_1917 dL_law_1918 (by decide) dL_law_1923 (by decide) (fun H locs ls h hl => kk _ _ _ _ H locs ls _ _ k3 h hl (by omega) (by omega))
set_option maxHeartbeats 4000000 in
set_option maxRecDepth 100000 in
theorem lc_31_isPlanned (hst : l.stackTraces = false) (hV : kOk V) (G : CallFix p m c cL_law 9 s args LW RL) (hC : cSt V s) (hB : eB V ≤ s.heap.size) (hX : va_X b LN xs s s.heap) (hbl : b < s.heap.size) (hbA : ¬ eA V b) (hn : n ≤ 600) (hr : rel n S M) (h : cH V s H locs (LWs V S M O OD)) (hi : i + 3 ≤ LN) (hLN : LN ≤ 1536) (hl : lv_has ls 9 (lv0 V b i)) (hRf : 30 ≤ R.frames) (hRl : 1500 ≤ R.locals) (hc : cells + 24 ≤ R.cells) (hs : slots + 3000 ≤ R.slots)
    (kk : ∀ (S : kCs) (M : kMs) (O : Nat → Int64) (OD : Nat → UInt64) (H : Heap) (locs : List Loc) (ls : Array Slot) (cells1 slots1 : Nat), rel (n + 1) S M → cH V s H locs (LWs V S M O OD) → lv_has ls 9 (lv0 V b i) → cells1 ≤ cells + 24 → slots1 ≤ slots + 3000 → W p l e R s m args below meth c H locs cells1 slots1 Q (F0 m 2868 ls [])) : W p l e R s m args below meth c H locs cells slots Q (F0 m 1926 ls []) := by
  have hx := G.1
  have hcd := G.2.1
  obtain ⟨B, nx, sz, L0, L, ep, fp, s0, hd⟩ := hr
  obtain ⟨e1, hA, hg, hH, hSs, hLL, hTT, hEE, hXX⟩ := id hd
  obtain ⟨f0, hf0⟩ := hXX.2.2.1
  obtain ⟨g0, hg0⟩ := hXX.2.2.2.1
  obtain ⟨pp, hpp⟩ := hXX.2.2.2.2.1
  obtain ⟨cm, hcm⟩ := hXX.2.2.2.2.2.1
  obtain ⟨sg, hsg, hsg2⟩ := hLL.2.2.2
  have hx5 : nx < 60000 := by have := hH.2.2.1; omega
  have eS : setB S 0 B = S := rel_S hd
  replace h : cH V s H locs (LWs V (setB S 0 B) M O OD) := by rw [eS]; exact h
  refine lv_aload_n hx hcd dL_law_1926 rfl (lv_at hl 4 rfl) ?_
  refine lv_aload_n hx hcd dL_law_1927 rfl (lv_at hl 5 rfl) ?_
  refine lv_iload hx hcd dL_law_1928 (lv_at hl 0 rfl) ?_
  refine lv_iconst (v := nI 1) hx hcd dL_law_1930 (by decide) ?_
  refine w_iadd (v := nI (i + 1)) hx hcd dL_law_1931 (nI_add _ _) ?_
  refine va_sld hx hcd hX hbl hbA h.2.2 (vp_in_nI (n := i + 1) (by omega) (by omega)) dL_law_1932 ?_
  refine lv_aload_n hx hcd dL_law_1933 rfl (lv_at hl 2 rfl) ?_
  replace h := cH_f h
  have hcs := cs_isPlanned (x := (xs (nI (i + 1)).toNatClampNeg)) hd
  refine lw_S (F := lwF V) (u0 := (setB S 0 B, O)) (As := [.ref (eX V 96), .int (xs (nI (i + 1)).toNatClampNeg), .ref (eX V 600)]) (rest := []) G hC hB hV h (met_L_isPlanned l _ (frV_ok _ _ _) (setB S 0 B) O (xs (nI (i + 1)).toNatClampNeg) (fun ws n => met_X3_isPlanned l hst _ S B hA.1 (xs (nI (i + 1)).toNatClampNeg)) (fun E u hp => ?hE)) mw_1216 (show kSw yL_isPlanned cL_isPlanned 4 [(0, 16, 19, 21)] 3 from ⟨mw_1217, mw_55, mw_1218, by decide, by decide, by decide +kernel⟩) ⟨rfl, rfl⟩ ⟨by show 9 + 1 ≤ R.frames; omega, by show 8 + (4 + 11) + 152 ≤ R.locals; omega⟩ rfl rfl hl.1 (Nat.le_of_ble_eq_true rfl) dL_law_1934 ⟨by omega, by omega⟩ (fun k u H locs hp h => ?_)
  case hE =>
    rcases hp with ⟨e0, -⟩
    · exact e0
  refine lv_istore (lv' := [(6, .int k), (5, .int (nI i)), (4, .ref (eX V 601)), (3, .ref (eX V 600)), (2, .ref (eX V 500)), (1, .ref (eX V 96)), (0, .ref b)]) hx hcd dL_law_1937 hl (by decide) rfl (fun ls hl => ?_)
  replace h := cH_m h
  refine lv_aload_n hx hcd dL_law_1939 rfl (lv_at hl 4 rfl) ?_
  refine lv_aload_n hx hcd dL_law_1940 rfl (lv_at hl 6 rfl) ?_
  refine lv_iload hx hcd dL_law_1941 (lv_at hl 1 rfl) ?_
  refine lv_iconst (v := nI 1) hx hcd dL_law_1943 (by decide) ?_
  refine w_iadd (v := nI (i + 1)) hx hcd dL_law_1944 (nI_add _ _) ?_
  refine va_sld hx hcd hX hbl hbA h.2.2 (vp_in_nI (n := i + 1) (by omega) (by omega)) dL_law_1945 ?_
  refine fk_Vi (As := [.int (xs (nI (i + 1)).toNatClampNeg)]) (rest := []) (b := eX V 500) G hC hB hV h (met_X4_isPlanned l _ M B hg hA.1 (xs (nI (i + 1)).toNatClampNeg)) mw_1758 (show kV yX4_isPlanned cX4_isPlanned 2 (some .boolean) 1 from ⟨mw_1759, mw_1760, mw_64, mw_1761, by decide, by decide, by decide +kernel⟩) ⟨rfl, rfl⟩ ⟨by show 3 + 1 ≤ R.frames; omega, by show 8 + (2 + 11) + 64 ≤ R.locals; omega⟩ (r_M hC h) rfl rfl hl.1 (Nat.le_of_ble_eq_true rfl) dL_law_1946 ⟨by omega, by omega⟩ (fun r2 u2 H locs hq h => ?_)
  refine lv_istore (lv' := [(7, .int r2), (6, .int k), (5, .int (nI i)), (4, .ref (eX V 601)), (3, .ref (eX V 600)), (2, .ref (eX V 500)), (1, .ref (eX V 96)), (0, .ref b)]) hx hcd dL_law_1949 hl (by decide) rfl (fun ls hl => ?_)
  have key : u2.1 3 = k ∧ (k = nI 0 → u.2 0 = r2.toInt64) ∧ rel (n + 1) u.1 u2 := by
    rcases hp with ⟨hk0, r, hp1, hu⟩ | ⟨hk0, hp1⟩
    · obtain ⟨q1, q2, q3⟩ := hcs.1 _ _ _ _ hp1 hq
      have h01 : r2 = 0 ∨ r2 = 1 := by rcases hq with ⟨_, _, _, e, _⟩ | ⟨_, e, _⟩ <;> first | (rw [e]; exact bz_01 _) | exact Or.inl e
      exact ⟨q1.trans hk0.symm, fun _ => by rw [hu, q2]; rcases h01 with q | q <;> rw [q] <;> rfl, q3⟩
    · have q := hcs.2 _ _ _ _ hp1 hq
      exact ⟨q.2.1.trans hk0.symm, fun z => absurd (hk0.symm.trans z) (by decide), q.2.2⟩
  obtain ⟨k1, k2, k3⟩ := key
  exact lt_z (t1 := 1962) (t2 := 1986) (t3 := 2868) hV G hC hB mw_1531 h hl k1 k2 (by rcases hq with ⟨_, _, _, e, _⟩ | ⟨_, e, _⟩ <;> first | (rw [e]; exact bz_01 _) | exact Or.inl e) (by omega) (by omega) (by omega) (by omega) dL_law_1951 dL_law_1952 dL_law_1955 dL_law_1957 (by decide) dL_law_1962 dL_law_1964 (by decide) dL_law_1967 dL_law_1968 dL_law_1969 dL_law_1970 dL_law_1972 (by decide) dL_law_1975 dL_law_1976 (by decide) dL_law_1979 dL_law_1980 dL_law_1981 (by decide) dL_law_1986 (by decide) (fun H locs ls h hl => kk _ _ _ _ H locs ls _ _ k3 h hl (by omega) (by omega))
set_option maxHeartbeats 4000000 in
set_option maxRecDepth 100000 in
theorem lc_35_scopeChange (hst : l.stackTraces = false) (hV : kOk V) (G : CallFix p m c cL_law 9 s args LW RL) (hC : cSt V s) (hB : eB V ≤ s.heap.size) (hX : va_X b LN xs s s.heap) (hbl : b < s.heap.size) (hbA : ¬ eA V b) (hn : n ≤ 600) (hr : rel n S M) (h : cH V s H locs (LWs V S M O OD)) (hi : i + 3 ≤ LN) (hLN : LN ≤ 1536) (hl : lv_has ls 9 (lv0 V b i)) (hRf : 30 ≤ R.frames) (hRl : 1500 ≤ R.locals) (hc : cells + 24 ≤ R.cells) (hs : slots + 3000 ≤ R.slots)
    (kk : ∀ (S : kCs) (M : kMs) (O : Nat → Int64) (OD : Nat → UInt64) (H : Heap) (locs : List Loc) (ls : Array Slot) (cells1 slots1 : Nat), rel (n + 1) S M → cH V s H locs (LWs V S M O OD) → lv_has ls 9 (lv0 V b i) → cells1 ≤ cells + 24 → slots1 ≤ slots + 3000 → W p l e R s m args below meth c H locs cells1 slots1 Q (F0 m 2868 ls [])) : W p l e R s m args below meth c H locs cells slots Q (F0 m 2028 ls []) := by
  have hx := G.1
  have hcd := G.2.1
  obtain ⟨B, nx, sz, L0, L, ep, fp, s0, hd⟩ := hr
  obtain ⟨e1, hA, hg, hH, hSs, hLL, hTT, hEE, hXX⟩ := id hd
  obtain ⟨f0, hf0⟩ := hXX.2.2.1
  obtain ⟨g0, hg0⟩ := hXX.2.2.2.1
  obtain ⟨pp, hpp⟩ := hXX.2.2.2.2.1
  obtain ⟨cm, hcm⟩ := hXX.2.2.2.2.2.1
  obtain ⟨sg, hsg, hsg2⟩ := hLL.2.2.2
  have hx5 : nx < 60000 := by have := hH.2.2.1; omega
  have eS : setB S 0 B = S := rel_S hd
  replace h : cH V s H locs (LWs V (setB S 0 B) M O OD) := by rw [eS]; exact h
  refine lv_aload_n hx hcd dL_law_2028 rfl (lv_at hl 4 rfl) ?_
  refine lv_aload_n hx hcd dL_law_2029 rfl (lv_at hl 2 rfl) ?_
  replace h := cH_f h
  have hcs := cs_scopeChange hd
  refine lw_S (F := lwF V) (u0 := (setB S 0 B, O)) (As := [.ref (eX V 96), .ref (eX V 600)]) (rest := []) G hC hB hV h (met_L_scopeChange l _ (frV_ok _ _ _) (setB S 0 B) O (fun ws n => met_X3_scopeChange l hst _ S B hA.1) (fun E u hp => ?hE)) mw_1224 (show kSw yL_scopeChange cL_scopeChange 3 [(0, 8, 11, 66)] 2 from ⟨mw_1225, mw_55, mw_1226, by decide, by decide, by decide +kernel⟩) ⟨rfl, rfl⟩ ⟨by show 8 + 1 ≤ R.frames; omega, by show 8 + (3 + 11) + 130 ≤ R.locals; omega⟩ rfl rfl hl.1 (Nat.le_of_ble_eq_true rfl) dL_law_2030 ⟨by omega, by omega⟩ (fun k u H locs hp h => ?_)
  case hE =>
    rcases hp with ⟨e0, -⟩
    · exact e0
  refine lv_istore (lv' := [(6, .int k), (5, .int (nI i)), (4, .ref (eX V 601)), (3, .ref (eX V 600)), (2, .ref (eX V 500)), (1, .ref (eX V 96)), (0, .ref b)]) hx hcd dL_law_2033 hl (by decide) rfl (fun ls hl => ?_)
  replace h := cH_m h
  refine lv_aload_n hx hcd dL_law_2035 rfl (lv_at hl 4 rfl) ?_
  refine fk_Vi (As := []) (rest := []) (b := eX V 500) G hC hB hV h (met_X4_scopeChange l _ M B hg hA.1) mw_1774 (show kV yX4_scopeChange cX4_scopeChange 1 (some .int) 0 from ⟨mw_1775, mw_1776, mw_64, mw_1777, by decide, by decide, by decide +kernel⟩) ⟨rfl, rfl⟩ ⟨by show 2 + 1 ≤ R.frames; omega, by show 8 + (1 + 11) + 45 ≤ R.locals; omega⟩ (r_M hC h) rfl rfl hl.1 (Nat.le_of_ble_eq_true rfl) dL_law_2036 ⟨by omega, by omega⟩ (fun r2 u2 H locs hq h => ?_)
  refine lv_istore (lv' := [(7, .int r2), (6, .int k), (5, .int (nI i)), (4, .ref (eX V 601)), (3, .ref (eX V 600)), (2, .ref (eX V 500)), (1, .ref (eX V 96)), (0, .ref b)]) hx hcd dL_law_2039 hl (by decide) rfl (fun ls hl => ?_)
  have key : u2.1 3 = k ∧ (k = nI 0 → u.2 0 = r2.toInt64) ∧ rel (n + 1) u.1 u2 := by
    rcases hp with ⟨hk0, r, hp1, hu⟩ | ⟨hk0, hp1⟩
    · obtain ⟨q1, q2, q3⟩ := hcs.1 _ _ _ _ hp1 hq
      exact ⟨q1.trans hk0.symm, fun _ => by rw [hu, ← q2]; rfl, q3⟩
    · have q := hcs.2 _ _ _ _ hp1 hq
      exact ⟨q.2.1.trans hk0.symm, fun z => absurd (hk0.symm.trans z) (by decide), q.2.2⟩
  obtain ⟨k1, k2, k3⟩ := key
  exact lt_i (t1 := 2052) (t2 := 2069) (t3 := 2868) hV G hC hB mw_1531 h hl k1 k2 (by omega) (by omega) (by omega) (by omega) dL_law_2041 dL_law_2042 dL_law_2045 dL_law_2047 (by decide) dL_law_2052 dL_law_2054 (by decide) dL_law_2057 dL_law_2058 dL_law_2059 dL_law_2060 dL_law_2062 dL_law_2063 dL_law_2064 (by decide) dL_law_2069 (by decide) (fun H locs ls h hl => kk _ _ _ _ H locs ls _ _ k3 h hl (by omega) (by omega))
end LC
