/-! THE LAW: cases of its switch. -/
section LC
variable {p : Program} {l : Launch} {e : Env} {R : Room} {s : State} {m : MethodId} {args : Array Value} {below : List Frame} {meth : Method} {c : Code} {H : Heap} {locs : List Loc} {cells slots : Nat} {Q : State → Prop}
variable {ls : Array Slot} {V : kEnv} {S : kCs} {M : kMs} {O : Nat → Int64} {OD : Nat → UInt64} {n b LN i : Nat} {xs : Nat → Int32}
set_option maxHeartbeats 4000000 in
set_option maxRecDepth 100000 in
theorem lc_36_burnDown (hst : l.stackTraces = false) (hV : kOk V) (G : CallFix p m c cL_law 9 s args LW RL) (hC : cSt V s) (hB : eB V ≤ s.heap.size) (hX : va_X b LN xs s s.heap) (hbl : b < s.heap.size) (hbA : ¬ eA V b) (hn : n ≤ 600) (hr : rel n S M) (h : cH V s H locs (LWs V S M O OD)) (hi : i + 3 ≤ LN) (hLN : LN ≤ 1536) (hl : lv_has ls 9 (lv0 V b i)) (hRf : 30 ≤ R.frames) (hRl : 1500 ≤ R.locals) (hc : cells + 24 ≤ R.cells) (hs : slots + 3000 ≤ R.slots)
    (kk : ∀ (S : kCs) (M : kMs) (O : Nat → Int64) (OD : Nat → UInt64) (H : Heap) (locs : List Loc) (ls : Array Slot) (cells1 slots1 : Nat), rel (n + 1) S M → cH V s H locs (LWs V S M O OD) → lv_has ls 9 (lv0 V b i) → cells1 ≤ cells + 24 → slots1 ≤ slots + 3000 → W p l e R s m args below meth c H locs cells1 slots1 Q (F0 m 2868 ls [])) : W p l e R s m args below meth c H locs cells slots Q (F0 m 2072 ls []) := by
  have hx := G.1
  have hcd := G.2.1
  obtain ⟨B, nx, sz, L0, L, ep, fp, s0, hd⟩ := hr
  obtain ⟨e1, hA, hg, hH, hSs, hLL, hTT, hEE, hXX⟩ := id hd
  obtain ⟨f0, hf0⟩ := hXX.2.2.1
  obtain ⟨g0, hg0⟩ := hXX.2.2.2.1
  obtain ⟨pp, hpp⟩ := hXX.2.2.2.2.1
  obtain ⟨cm, hcm⟩ := hXX.2.2.2.2.2.1
  obtain ⟨sg, hsg, hsg2⟩ := hLL.2.2.2
  have hx5 : nx < 60000 := by have := hH.2.2.1; omega
  have eS : setB S 0 B = S := rel_S hd
  replace h : cH V s H locs (LWs V (setB S 0 B) M O OD) := by rw [eS]; exact h
  refine lv_aload_n hx hcd dL_law_2072 rfl (lv_at hl 4 rfl) ?_
  refine lv_aload_n hx hcd dL_law_2073 rfl (lv_at hl 5 rfl) ?_
  refine lv_iload hx hcd dL_law_2074 (lv_at hl 0 rfl) ?_
  refine lv_iconst (v := nI 1) hx hcd dL_law_2076 (by decide) ?_
  refine w_iadd (v := nI (i + 1)) hx hcd dL_law_2077 (nI_add _ _) ?_
  refine va_sld hx hcd hX hbl hbA h.2.2 (vp_in_nI (n := i + 1) (by omega) (by omega)) dL_law_2078 ?_
  refine lv_aload_n hx hcd dL_law_2079 rfl (lv_at hl 2 rfl) ?_
  replace h := cH_f h
  have hcs := cs_burnDown (x := (xs (nI (i + 1)).toNatClampNeg)) hd
  refine lw_S (F := lwF V) (u0 := (setB S 0 B, O)) (As := [.ref (eX V 96), .int (xs (nI (i + 1)).toNatClampNeg), .ref (eX V 600)]) (rest := []) G hC hB hV h (met_L_burnDown l _ (frV_ok _ _ _) (setB S 0 B) O (xs (nI (i + 1)).toNatClampNeg) (fun ws n => met_X3_burnDown l hst _ S B hA.1 (xs (nI (i + 1)).toNatClampNeg)) (fun E u hp => ?hE)) mw_1231 (show kSw yL_burnDown cL_burnDown 4 [(0, 9, 12, 66)] 3 from ⟨mw_1232, mw_55, mw_1233, by decide, by decide, by decide +kernel⟩) ⟨rfl, rfl⟩ ⟨by show 8 + 1 ≤ R.frames; omega, by show 8 + (4 + 11) + 131 ≤ R.locals; omega⟩ rfl rfl hl.1 (Nat.le_of_ble_eq_true rfl) dL_law_2080 ⟨by omega, by omega⟩ (fun k u H locs hp h => ?_)
  case hE =>
    rcases hp with ⟨e0, -⟩
    · exact e0
  refine lv_istore (lv' := [(6, .int k), (5, .int (nI i)), (4, .ref (eX V 601)), (3, .ref (eX V 600)), (2, .ref (eX V 500)), (1, .ref (eX V 96)), (0, .ref b)]) hx hcd dL_law_2083 hl (by decide) rfl (fun ls hl => ?_)
  replace h := cH_m h
  refine lv_aload_n hx hcd dL_law_2085 rfl (lv_at hl 4 rfl) ?_
  refine lv_aload_n hx hcd dL_law_2086 rfl (lv_at hl 6 rfl) ?_
  refine lv_iload hx hcd dL_law_2087 (lv_at hl 1 rfl) ?_
  refine lv_iconst (v := nI 1) hx hcd dL_law_2089 (by decide) ?_
  refine w_iadd (v := nI (i + 1)) hx hcd dL_law_2090 (nI_add _ _) ?_
  refine va_sld hx hcd hX hbl hbA h.2.2 (vp_in_nI (n := i + 1) (by omega) (by omega)) dL_law_2091 ?_
  refine fk_Vi (As := [.int (xs (nI (i + 1)).toNatClampNeg)]) (rest := []) (b := eX V 500) G hC hB hV h (met_X4_burnDown l _ M B hg hA.1 (xs (nI (i + 1)).toNatClampNeg)) mw_1778 (show kV yX4_burnDown cX4_burnDown 2 (some .int) 1 from ⟨mw_1779, mw_1780, mw_64, mw_1781, by decide, by decide, by decide +kernel⟩) ⟨rfl, rfl⟩ ⟨by show 1 + 1 ≤ R.frames; omega, by show 8 + (2 + 11) + 22 ≤ R.locals; omega⟩ (r_M hC h) rfl rfl hl.1 (Nat.le_of_ble_eq_true rfl) dL_law_2092 ⟨by omega, by omega⟩ (fun r2 u2 H locs hq h => ?_)
  refine lv_istore (lv' := [(7, .int r2), (6, .int k), (5, .int (nI i)), (4, .ref (eX V 601)), (3, .ref (eX V 600)), (2, .ref (eX V 500)), (1, .ref (eX V 96)), (0, .ref b)]) hx hcd dL_law_2095 hl (by decide) rfl (fun ls hl => ?_)
  have key : u2.1 3 = k ∧ (k = nI 0 → u.2 0 = r2.toInt64) ∧ rel (n + 1) u.1 u2 := by
    rcases hp with ⟨hk0, r, hp1, hu⟩ | ⟨hk0, hp1⟩
    · obtain ⟨q1, q2, q3⟩ := hcs.1 _ _ _ _ hp1 hq
      exact ⟨q1.trans hk0.symm, fun _ => by rw [hu, ← q2]; rfl, q3⟩
    · have q := hcs.2 _ _ _ _ hp1 hq
      exact ⟨q.2.1.trans hk0.symm, fun z => absurd (hk0.symm.trans z) (by decide), q.2.2⟩
  obtain ⟨k1, k2, k3⟩ := key
  exact lt_i (t1 := 2108) (t2 := 2125) (t3 := 2868) hV G hC hB mw_1531 h hl k1 k2 (by omega) (by omega) (by omega) (by omega) dL_law_2097 dL_law_2098 dL_law_2101 dL_law_2103 (by decide) dL_law_2108 dL_law_2110 (by decide) dL_law_2113 dL_law_2114 dL_law_2115 dL_law_2116 dL_law_2118 dL_law_2119 dL_law_2120 (by decide) dL_law_2125 (by decide) (fun H locs ls h hl => kk _ _ _ _ H locs ls _ _ k3 h hl (by omega) (by omega))
set_option maxHeartbeats 4000000 in
set_option maxRecDepth 100000 in
theorem lc_38_velocityOf (hst : l.stackTraces = false) (hV : kOk V) (G : CallFix p m c cL_law 9 s args LW RL) (hC : cSt V s) (hB : eB V ≤ s.heap.size) (hX : va_X b LN xs s s.heap) (hbl : b < s.heap.size) (hbA : ¬ eA V b) (hn : n ≤ 600) (hr : rel n S M) (h : cH V s H locs (LWs V S M O OD)) (hi : i + 3 ≤ LN) (hLN : LN ≤ 1536) (hl : lv_has ls 9 (lv0 V b i)) (hRf : 30 ≤ R.frames) (hRl : 1500 ≤ R.locals) (hc : cells + 24 ≤ R.cells) (hs : slots + 3000 ≤ R.slots)
    (kk : ∀ (S : kCs) (M : kMs) (O : Nat → Int64) (OD : Nat → UInt64) (H : Heap) (locs : List Loc) (ls : Array Slot) (cells1 slots1 : Nat), rel (n + 1) S M → cH V s H locs (LWs V S M O OD) → lv_has ls 9 (lv0 V b i) → cells1 ≤ cells + 24 → slots1 ≤ slots + 3000 → W p l e R s m args below meth c H locs cells1 slots1 Q (F0 m 2868 ls [])) : W p l e R s m args below meth c H locs cells slots Q (F0 m 2206 ls []) := by
  have hx := G.1
  have hcd := G.2.1
  obtain ⟨B, nx, sz, L0, L, ep, fp, s0, hd⟩ := hr
  obtain ⟨e1, hA, hg, hH, hSs, hLL, hTT, hEE, hXX⟩ := id hd
  obtain ⟨f0, hf0⟩ := hXX.2.2.1
  obtain ⟨g0, hg0⟩ := hXX.2.2.2.1
  obtain ⟨pp, hpp⟩ := hXX.2.2.2.2.1
  obtain ⟨cm, hcm⟩ := hXX.2.2.2.2.2.1
  obtain ⟨sg, hsg, hsg2⟩ := hLL.2.2.2
  have hx5 : nx < 60000 := by have := hH.2.2.1; omega
  have eS : setB S 0 B = S := rel_S hd
  replace h : cH V s H locs (LWs V (setB S 0 B) M O OD) := by rw [eS]; exact h
  refine lv_aload_n hx hcd dL_law_2206 rfl (lv_at hl 4 rfl) ?_
  refine lv_aload_n hx hcd dL_law_2207 rfl (lv_at hl 5 rfl) ?_
  refine lv_iload hx hcd dL_law_2208 (lv_at hl 0 rfl) ?_
  refine lv_iconst (v := nI 1) hx hcd dL_law_2210 (by decide) ?_
  refine w_iadd (v := nI (i + 1)) hx hcd dL_law_2211 (nI_add _ _) ?_
  refine va_sld hx hcd hX hbl hbA h.2.2 (vp_in_nI (n := i + 1) (by omega) (by omega)) dL_law_2212 ?_
  refine lv_aload_n hx hcd dL_law_2213 rfl (lv_at hl 2 rfl) ?_
  replace h := cH_f h
  have hcs := cs_velocityOf (x := (xs (nI (i + 1)).toNatClampNeg)) hd
  refine lw_S (F := lwF V) (u0 := (setB S 0 B, O)) (As := [.ref (eX V 96), .int (xs (nI (i + 1)).toNatClampNeg), .ref (eX V 600)]) (rest := []) G hC hB hV h (met_L_velocityOf l _ (frV_ok _ _ _) (setB S 0 B) O (xs (nI (i + 1)).toNatClampNeg) (fun ws n => met_X3_velocityOf l hst _ S B hA.1 (xs (nI (i + 1)).toNatClampNeg)) (fun E u hp => ?hE)) mw_1249 (show kSw yL_velocityOf cL_velocityOf 4 [(0, 9, 12, 21)] 3 from ⟨mw_1250, mw_55, mw_1251, by decide, by decide, by decide +kernel⟩) ⟨rfl, rfl⟩ ⟨by show 8 + 1 ≤ R.frames; omega, by show 8 + (4 + 11) + 131 ≤ R.locals; omega⟩ rfl rfl hl.1 (Nat.le_of_ble_eq_true rfl) dL_law_2214 ⟨by omega, by omega⟩ (fun k u H locs hp h => ?_)
  case hE =>
    rcases hp with ⟨e0, -⟩
    · exact e0
  refine lv_istore (lv' := [(6, .int k), (5, .int (nI i)), (4, .ref (eX V 601)), (3, .ref (eX V 600)), (2, .ref (eX V 500)), (1, .ref (eX V 96)), (0, .ref b)]) hx hcd dL_law_2217 hl (by decide) rfl (fun ls hl => ?_)
  replace h := cH_m h
  refine lv_aload_n hx hcd dL_law_2219 rfl (lv_at hl 4 rfl) ?_
  refine lv_aload_n hx hcd dL_law_2220 rfl (lv_at hl 6 rfl) ?_
  refine lv_iload hx hcd dL_law_2221 (lv_at hl 1 rfl) ?_
  refine lv_iconst (v := nI 1) hx hcd dL_law_2223 (by decide) ?_
  refine w_iadd (v := nI (i + 1)) hx hcd dL_law_2224 (nI_add _ _) ?_
  refine va_sld hx hcd hX hbl hbA h.2.2 (vp_in_nI (n := i + 1) (by omega) (by omega)) dL_law_2225 ?_
  refine fk_Vi (As := [.int (xs (nI (i + 1)).toNatClampNeg)]) (rest := []) (b := eX V 500) G hC hB hV h (met_X4_velocityOf l _ M B hg hA.1 (xs (nI (i + 1)).toNatClampNeg)) mw_1786 (show kV yX4_velocityOf cX4_velocityOf 2 (some .int) 1 from ⟨mw_1787, mw_1788, mw_64, mw_1789, by decide, by decide, by decide +kernel⟩) ⟨rfl, rfl⟩ ⟨by show 1 + 1 ≤ R.frames; omega, by show 8 + (2 + 11) + 22 ≤ R.locals; omega⟩ (r_M hC h) rfl rfl hl.1 (Nat.le_of_ble_eq_true rfl) dL_law_2226 ⟨by omega, by omega⟩ (fun r2 u2 H locs hq h => ?_)
  refine lv_istore (lv' := [(7, .int r2), (6, .int k), (5, .int (nI i)), (4, .ref (eX V 601)), (3, .ref (eX V 600)), (2, .ref (eX V 500)), (1, .ref (eX V 96)), (0, .ref b)]) hx hcd dL_law_2229 hl (by decide) rfl (fun ls hl => ?_)
  have key : u2.1 3 = k ∧ (k = nI 0 → u.2 0 = r2.toInt64) ∧ rel (n + 1) u.1 u2 := by
    rcases hp with ⟨hk0, r, hp1, hu⟩ | ⟨hk0, hp1⟩
    · obtain ⟨q1, q2, q3⟩ := hcs.1 _ _ _ _ hp1 hq
      exact ⟨q1.trans hk0.symm, fun _ => by rw [hu, ← q2]; rfl, q3⟩
    · have q := hcs.2 _ _ _ _ hp1 hq
      exact ⟨q.2.1.trans hk0.symm, fun z => absurd (hk0.symm.trans z) (by decide), q.2.2⟩
  obtain ⟨k1, k2, k3⟩ := key
  exact lt_i (t1 := 2242) (t2 := 2259) (t3 := 2868) hV G hC hB mw_1531 h hl k1 k2 (by omega) (by omega) (by omega) (by omega) dL_law_2231 dL_law_2232 dL_law_2235 dL_law_2237 (by decide) dL_law_2242 dL_law_2244 (by decide) dL_law_2247 dL_law_2248 dL_law_2249 dL_law_2250 dL_law_2252 dL_law_2253 dL_law_2254 (by decide) dL_law_2259 (by decide) (fun H locs ls h hl => kk _ _ _ _ H locs ls _ _ k3 h hl (by omega) (by omega))
set_option maxHeartbeats 4000000 in
set_option maxRecDepth 100000 in
theorem lc_40_finishDay (hst : l.stackTraces = false) (hV : kOk V) (G : CallFix p m c cL_law 9 s args LW RL) (hC : cSt V s) (hB : eB V ≤ s.heap.size) (hX : va_X b LN xs s s.heap) (hbl : b < s.heap.size) (hbA : ¬ eA V b) (hn : n ≤ 600) (hr : rel n S M) (h : cH V s H locs (LWs V S M O OD)) (hi : i + 3 ≤ LN) (hLN : LN ≤ 1536) (hl : lv_has ls 9 (lv0 V b i)) (hRf : 30 ≤ R.frames) (hRl : 1500 ≤ R.locals) (hc : cells + 24 ≤ R.cells) (hs : slots + 3000 ≤ R.slots)
    (kk : ∀ (S : kCs) (M : kMs) (O : Nat → Int64) (OD : Nat → UInt64) (H : Heap) (locs : List Loc) (ls : Array Slot) (cells1 slots1 : Nat), rel (n + 1) S M → cH V s H locs (LWs V S M O OD) → lv_has ls 9 (lv0 V b i) → cells1 ≤ cells + 24 → slots1 ≤ slots + 3000 → W p l e R s m args below meth c H locs cells1 slots1 Q (F0 m 2868 ls [])) : W p l e R s m args below meth c H locs cells slots Q (F0 m 2327 ls []) := by
  have hx := G.1
  have hcd := G.2.1
  obtain ⟨B, nx, sz, L0, L, ep, fp, s0, hd⟩ := hr
  obtain ⟨e1, hA, hg, hH, hSs, hLL, hTT, hEE, hXX⟩ := id hd
  obtain ⟨f0, hf0⟩ := hXX.2.2.1
  obtain ⟨g0, hg0⟩ := hXX.2.2.2.1
  obtain ⟨pp, hpp⟩ := hXX.2.2.2.2.1
  obtain ⟨cm, hcm⟩ := hXX.2.2.2.2.2.1
  obtain ⟨sg, hsg, hsg2⟩ := hLL.2.2.2
  have hx5 : nx < 60000 := by have := hH.2.2.1; omega
  have eS : setB S 0 B = S := rel_S hd
  replace h : cH V s H locs (LWs V (setB S 0 B) M O OD) := by rw [eS]; exact h
  refine lv_aload_n hx hcd dL_law_2327 rfl (lv_at hl 4 rfl) ?_
  refine lv_aload_n hx hcd dL_law_2328 rfl (lv_at hl 5 rfl) ?_
  refine lv_iload hx hcd dL_law_2329 (lv_at hl 0 rfl) ?_
  refine lv_iconst (v := nI 1) hx hcd dL_law_2331 (by decide) ?_
  refine w_iadd (v := nI (i + 1)) hx hcd dL_law_2332 (nI_add _ _) ?_
  refine va_sld hx hcd hX hbl hbA h.2.2 (vp_in_nI (n := i + 1) (by omega) (by omega)) dL_law_2333 ?_
  refine lv_aload_n hx hcd dL_law_2334 rfl (lv_at hl 2 rfl) ?_
  replace h := cH_f h
  have hcs := cs_finishDay (x := (xs (nI (i + 1)).toNatClampNeg)) hd g0
  refine lw_S (F := lwF V) (u0 := (setB S 0 B, O)) (As := [.ref (eX V 96), .int (xs (nI (i + 1)).toNatClampNeg), .ref (eX V 600)]) (rest := []) G hC hB hV h (met_L_finishDay l _ (frV_ok _ _ _) (setB S 0 B) O (xs (nI (i + 1)).toNatClampNeg) (fun ws n => met_X3_finishDay l hst _ S B hA.1 (hXX.1 1 (by decide)) (xs (nI (i + 1)).toNatClampNeg)) (fun E u hp => ?hE)) mw_1288 (show kSw yL_finishDay cL_finishDay 4 [(0, 9, 12, 21), (0, 9, 15, 66)] 3 from ⟨mw_1289, mw_55, mw_1290, by decide, by decide, by decide +kernel⟩) ⟨rfl, rfl⟩ ⟨by show 9 + 1 ≤ R.frames; omega, by show 8 + (4 + 11) + 153 ≤ R.locals; omega⟩ rfl rfl hl.1 (Nat.le_of_ble_eq_true rfl) dL_law_2335 ⟨by omega, by omega⟩ (fun k u H locs hp h => ?_)
  case hE =>
    rcases hp with ⟨e0, -⟩ | ⟨_, -, -, e0, -⟩
    · exact Or.inl e0
    · exact Or.inr (e0)
  refine lv_istore (lv' := [(6, .int k), (5, .int (nI i)), (4, .ref (eX V 601)), (3, .ref (eX V 600)), (2, .ref (eX V 500)), (1, .ref (eX V 96)), (0, .ref b)]) hx hcd dL_law_2338 hl (by decide) rfl (fun ls hl => ?_)
  replace h := cH_m h
  refine lv_aload_n hx hcd dL_law_2340 rfl (lv_at hl 4 rfl) ?_
  refine lv_aload_n hx hcd dL_law_2341 rfl (lv_at hl 6 rfl) ?_
  refine lv_iload hx hcd dL_law_2342 (lv_at hl 1 rfl) ?_
  refine lv_iconst (v := nI 1) hx hcd dL_law_2344 (by decide) ?_
  refine w_iadd (v := nI (i + 1)) hx hcd dL_law_2345 (nI_add _ _) ?_
  refine va_sld hx hcd hX hbl hbA h.2.2 (vp_in_nI (n := i + 1) (by omega) (by omega)) dL_law_2346 ?_
  refine fk_Vi (As := [.int (xs (nI (i + 1)).toNatClampNeg)]) (rest := []) (b := eX V 500) G hC hB hV h (met_X4_finishDay l _ M B hg hA (xs (nI (i + 1)).toNatClampNeg) g0 hg0) mw_1794 (show kV yX4_finishDay cX4_finishDay 2 (some .int) 1 from ⟨mw_1795, mw_1796, mw_64, mw_1797, by decide, by decide, by decide +kernel⟩) ⟨rfl, rfl⟩ ⟨by show 4 + 1 ≤ R.frames; omega, by show 8 + (2 + 11) + 90 ≤ R.locals; omega⟩ (r_M hC h) rfl rfl hl.1 (Nat.le_of_ble_eq_true rfl) dL_law_2347 ⟨by omega, by omega⟩ (fun r2 u2 H locs hq h => ?_)
  refine lv_istore (lv' := [(7, .int r2), (6, .int k), (5, .int (nI i)), (4, .ref (eX V 601)), (3, .ref (eX V 600)), (2, .ref (eX V 500)), (1, .ref (eX V 96)), (0, .ref b)]) hx hcd dL_law_2350 hl (by decide) rfl (fun ls hl => ?_)
  have key : u2.1 3 = k ∧ (k = nI 0 → u.2 0 = r2.toInt64) ∧ rel (n + 1) u.1 u2 := by
    rcases hp with ⟨hk0, r, hp1, hu⟩ | ⟨hk0, hp1⟩ | ⟨hk0, hp1⟩
    · obtain ⟨q1, q2, q3⟩ := hcs.1 _ _ _ _ hp1 hq
      exact ⟨q1.trans hk0.symm, fun _ => by rw [hu, ← q2]; rfl, q3⟩
    · have q := hcs.2 _ _ _ _ hp1 hq
      rcases q with ⟨q1, q2, q3⟩ | ⟨q1, q2, q3⟩
      · exact ⟨q2.trans hk0.symm, fun z => absurd (hk0.symm.trans z) (by decide), q3⟩
      · exact absurd q1 (by decide)
    · have q := hcs.2 _ _ _ _ hp1 hq
      rcases q with ⟨q1, q2, q3⟩ | ⟨q1, q2, q3⟩
      · exact absurd q1 (by decide)
      · exact ⟨q2.trans hk0.symm, fun z => absurd (hk0.symm.trans z) (by decide), q3⟩
  obtain ⟨k1, k2, k3⟩ := key
  exact lt_i (t1 := 2363) (t2 := 2380) (t3 := 2868) hV G hC hB mw_1531 h hl k1 k2 (by omega) (by omega) (by omega) (by omega) dL_law_2352 dL_law_2353 dL_law_2356 dL_law_2358 (by decide) dL_law_2363 dL_law_2365 (by decide) dL_law_2368 dL_law_2369 dL_law_2370 dL_law_2371 dL_law_2373 dL_law_2374 dL_law_2375 (by decide) dL_law_2380 (by decide) (fun H locs ls h hl => kk _ _ _ _ H locs ls _ _ k3 h hl (by omega) (by omega))
set_option maxHeartbeats 4000000 in
set_option maxRecDepth 100000 in
theorem lc_41_finishDayByRecursion (hst : l.stackTraces = false) (hV : kOk V) (G : CallFix p m c cL_law 9 s args LW RL) (hC : cSt V s) (hB : eB V ≤ s.heap.size) (hX : va_X b LN xs s s.heap) (hbl : b < s.heap.size) (hbA : ¬ eA V b) (hn : n ≤ 600) (hr : rel n S M) (h : cH V s H locs (LWs V S M O OD)) (hi : i + 3 ≤ LN) (hLN : LN ≤ 1536) (hl : lv_has ls 9 (lv0 V b i)) (hRf : 30 ≤ R.frames) (hRl : 1500 ≤ R.locals) (hc : cells + 24 ≤ R.cells) (hs : slots + 3000 ≤ R.slots)
    (kk : ∀ (S : kCs) (M : kMs) (O : Nat → Int64) (OD : Nat → UInt64) (H : Heap) (locs : List Loc) (ls : Array Slot) (cells1 slots1 : Nat), rel (n + 1) S M → cH V s H locs (LWs V S M O OD) → lv_has ls 9 (lv0 V b i) → cells1 ≤ cells + 24 → slots1 ≤ slots + 3000 → W p l e R s m args below meth c H locs cells1 slots1 Q (F0 m 2868 ls [])) : W p l e R s m args below meth c H locs cells slots Q (F0 m 2383 ls []) := by
  have hx := G.1
  have hcd := G.2.1
  obtain ⟨B, nx, sz, L0, L, ep, fp, s0, hd⟩ := hr
  obtain ⟨e1, hA, hg, hH, hSs, hLL, hTT, hEE, hXX⟩ := id hd
  obtain ⟨f0, hf0⟩ := hXX.2.2.1
  obtain ⟨g0, hg0⟩ := hXX.2.2.2.1
  obtain ⟨pp, hpp⟩ := hXX.2.2.2.2.1
  obtain ⟨cm, hcm⟩ := hXX.2.2.2.2.2.1
  obtain ⟨sg, hsg, hsg2⟩ := hLL.2.2.2
  have hx5 : nx < 60000 := by have := hH.2.2.1; omega
  have eS : setB S 0 B = S := rel_S hd
  replace h : cH V s H locs (LWs V (setB S 0 B) M O OD) := by rw [eS]; exact h
  refine lv_aload_n hx hcd dL_law_2383 rfl (lv_at hl 4 rfl) ?_
  refine lv_aload_n hx hcd dL_law_2384 rfl (lv_at hl 5 rfl) ?_
  refine lv_iload hx hcd dL_law_2385 (lv_at hl 0 rfl) ?_
  refine lv_iconst (v := nI 1) hx hcd dL_law_2387 (by decide) ?_
  refine w_iadd (v := nI (i + 1)) hx hcd dL_law_2388 (nI_add _ _) ?_
  refine va_sld hx hcd hX hbl hbA h.2.2 (vp_in_nI (n := i + 1) (by omega) (by omega)) dL_law_2389 ?_
  refine lv_aload_n hx hcd dL_law_2390 rfl (lv_at hl 2 rfl) ?_
  replace h := cH_f h
  have hcs := cs_finishDayByRecursion (x := (xs (nI (i + 1)).toNatClampNeg)) hd g0
  refine lw_S (F := lwF V) (u0 := (setB S 0 B, O)) (As := [.ref (eX V 96), .int (xs (nI (i + 1)).toNatClampNeg), .ref (eX V 600)]) (rest := []) G hC hB hV h (met_L_finishDayByRecursion l _ (frV_ok _ _ _) (setB S 0 B) O (xs (nI (i + 1)).toNatClampNeg) (fun ws n => met_X3_finishDayByRecursion l hst _ S B hA.1 (xs (nI (i + 1)).toNatClampNeg)) (fun E u hp => ?hE)) mw_1295 (show kSw yL_finishDayByRecursion cL_finishDayByRecursion 4 [(0, 9, 12, 21), (0, 9, 15, 66)] 3 from ⟨mw_1296, mw_55, mw_1297, by decide, by decide, by decide +kernel⟩) ⟨rfl, rfl⟩ ⟨by show 21 + 1 ≤ R.frames; omega, by show 8 + (4 + 11) + 544 ≤ R.locals; omega⟩ rfl rfl hl.1 (Nat.le_of_ble_eq_true rfl) dL_law_2391 ⟨by omega, by omega⟩ (fun k u H locs hp h => ?_)
  case hE =>
    rcases hp with ⟨e0, -⟩ | ⟨_, -, -, e0, -⟩
    · exact Or.inl e0
    · exact Or.inr (e0)
  refine lv_istore (lv' := [(6, .int k), (5, .int (nI i)), (4, .ref (eX V 601)), (3, .ref (eX V 600)), (2, .ref (eX V 500)), (1, .ref (eX V 96)), (0, .ref b)]) hx hcd dL_law_2394 hl (by decide) rfl (fun ls hl => ?_)
  replace h := cH_m h
  refine lv_aload_n hx hcd dL_law_2396 rfl (lv_at hl 4 rfl) ?_
  refine lv_aload_n hx hcd dL_law_2397 rfl (lv_at hl 6 rfl) ?_
  refine lv_iload hx hcd dL_law_2398 (lv_at hl 1 rfl) ?_
  refine lv_iconst (v := nI 1) hx hcd dL_law_2400 (by decide) ?_
  refine w_iadd (v := nI (i + 1)) hx hcd dL_law_2401 (nI_add _ _) ?_
  refine va_sld hx hcd hX hbl hbA h.2.2 (vp_in_nI (n := i + 1) (by omega) (by omega)) dL_law_2402 ?_
  refine fk_Vi (As := [.int (xs (nI (i + 1)).toNatClampNeg)]) (rest := []) (b := eX V 500) G hC hB hV h (met_X4_finishDayByRecursion l _ M B hg hA (xs (nI (i + 1)).toNatClampNeg) g0 hg0) mw_1806 (show kV yX4_finishDayByRecursion cX4_finishDayByRecursion 2 (some .int) 1 from ⟨mw_1807, mw_1808, mw_64, mw_1809, by decide, by decide, by decide +kernel⟩) ⟨rfl, rfl⟩ ⟨by show 4 + 1 ≤ R.frames; omega, by show 8 + (2 + 11) + 90 ≤ R.locals; omega⟩ (r_M hC h) rfl rfl hl.1 (Nat.le_of_ble_eq_true rfl) dL_law_2403 ⟨by omega, by omega⟩ (fun r2 u2 H locs hq h => ?_)
  refine lv_istore (lv' := [(7, .int r2), (6, .int k), (5, .int (nI i)), (4, .ref (eX V 601)), (3, .ref (eX V 600)), (2, .ref (eX V 500)), (1, .ref (eX V 96)), (0, .ref b)]) hx hcd dL_law_2406 hl (by decide) rfl (fun ls hl => ?_)
  have key : u2.1 3 = k ∧ (k = nI 0 → u.2 0 = r2.toInt64) ∧ rel (n + 1) u.1 u2 := by
    rcases hp with ⟨hk0, r, hp1, hu⟩ | ⟨hk0, hp1⟩ | ⟨hk0, hp1⟩
    · obtain ⟨q1, q2, q3⟩ := hcs.1 _ _ _ _ hp1 hq
      exact ⟨q1.trans hk0.symm, fun _ => by rw [hu, ← q2]; rfl, q3⟩
    · have q := hcs.2 _ _ _ _ hp1 hq
      rcases q with ⟨q1, q2, q3⟩ | ⟨q1, q2, q3⟩
      · exact ⟨q2.trans hk0.symm, fun z => absurd (hk0.symm.trans z) (by decide), q3⟩
      · exact absurd q1 (by decide)
    · have q := hcs.2 _ _ _ _ hp1 hq
      rcases q with ⟨q1, q2, q3⟩ | ⟨q1, q2, q3⟩
      · exact absurd q1 (by decide)
      · exact ⟨q2.trans hk0.symm, fun z => absurd (hk0.symm.trans z) (by decide), q3⟩
  obtain ⟨k1, k2, k3⟩ := key
  exact lt_i (t1 := 2419) (t2 := 2436) (t3 := 2868) hV G hC hB mw_1531 h hl k1 k2 (by omega) (by omega) (by omega) (by omega) dL_law_2408 dL_law_2409 dL_law_2412 dL_law_2414 (by decide) dL_law_2419 dL_law_2421 (by decide) dL_law_2424 dL_law_2425 dL_law_2426 dL_law_2427 dL_law_2429 dL_law_2430 dL_law_2431 (by decide) dL_law_2436 (by decide) (fun H locs ls h hl => kk _ _ _ _ H locs ls _ _ k3 h hl (by omega) (by omega))
set_option maxHeartbeats 4000000 in
set_option maxRecDepth 100000 in
theorem lc_42_writeStory (hst : l.stackTraces = false) (hV : kOk V) (G : CallFix p m c cL_law 9 s args LW RL) (hC : cSt V s) (hB : eB V ≤ s.heap.size) (hX : va_X b LN xs s s.heap) (hbl : b < s.heap.size) (hbA : ¬ eA V b) (hn : n ≤ 600) (hr : rel n S M) (h : cH V s H locs (LWs V S M O OD)) (hi : i + 3 ≤ LN) (hLN : LN ≤ 1536) (hl : lv_has ls 9 (lv0 V b i)) (hRf : 30 ≤ R.frames) (hRl : 1500 ≤ R.locals) (hc : cells + 24 ≤ R.cells) (hs : slots + 3000 ≤ R.slots)
    (kk : ∀ (S : kCs) (M : kMs) (O : Nat → Int64) (OD : Nat → UInt64) (H : Heap) (locs : List Loc) (ls : Array Slot) (cells1 slots1 : Nat), rel (n + 1) S M → cH V s H locs (LWs V S M O OD) → lv_has ls 9 (lv0 V b i) → cells1 ≤ cells + 24 → slots1 ≤ slots + 3000 → W p l e R s m args below meth c H locs cells1 slots1 Q (F0 m 2868 ls [])) : W p l e R s m args below meth c H locs cells slots Q (F0 m 2439 ls []) := by
  have hx := G.1
  have hcd := G.2.1
  obtain ⟨B, nx, sz, L0, L, ep, fp, s0, hd⟩ := hr
  obtain ⟨e1, hA, hg, hH, hSs, hLL, hTT, hEE, hXX⟩ := id hd
  obtain ⟨f0, hf0⟩ := hXX.2.2.1
  obtain ⟨g0, hg0⟩ := hXX.2.2.2.1
  obtain ⟨pp, hpp⟩ := hXX.2.2.2.2.1
  obtain ⟨cm, hcm⟩ := hXX.2.2.2.2.2.1
  obtain ⟨sg, hsg, hsg2⟩ := hLL.2.2.2
  have hx5 : nx < 60000 := by have := hH.2.2.1; omega
  have eS : setB S 0 B = S := rel_S hd
  replace h : cH V s H locs (LWs V (setB S 0 B) M O OD) := by rw [eS]; exact h
  refine lv_aload_n hx hcd dL_law_2439 rfl (lv_at hl 4 rfl) ?_
  refine lv_aload_n hx hcd dL_law_2440 rfl (lv_at hl 5 rfl) ?_
  refine lv_iload hx hcd dL_law_2441 (lv_at hl 0 rfl) ?_
  refine lv_iconst (v := nI 1) hx hcd dL_law_2443 (by decide) ?_
  refine w_iadd (v := nI (i + 1)) hx hcd dL_law_2444 (nI_add _ _) ?_
  refine va_sld hx hcd hX hbl hbA h.2.2 (vp_in_nI (n := i + 1) (by omega) (by omega)) dL_law_2445 ?_
  refine lv_aload_n hx hcd dL_law_2446 rfl (lv_at hl 2 rfl) ?_
  replace h := cH_f h
  have hcs := cs_writeStory (x := (xs (nI (i + 1)).toNatClampNeg)) hd
  refine lw_S (F := lwF V) (u0 := (setB S 0 B, O)) (As := [.ref (eX V 96), .int (xs (nI (i + 1)).toNatClampNeg), .ref (eX V 600)]) (rest := []) G hC hB hV h (met_L_writeStory l _ (frV_ok _ _ _) (setB S 0 B) O (xs (nI (i + 1)).toNatClampNeg) (fun ws n => met_X3_writeStory l hst _ S B hA.1 (frV_ok _ _ _) L0 hLL.1 (xs (nI (i + 1)).toNatClampNeg)) (fun E u hp => ?hE)) mw_1302 (show kSw yL_writeStory cL_writeStory 4 [(0, 9, 12, 21)] 3 from ⟨mw_1303, mw_55, mw_1304, by decide, by decide, by decide +kernel⟩) ⟨rfl, rfl⟩ ⟨by show 9 + 1 ≤ R.frames; omega, by show 8 + (4 + 11) + 178 ≤ R.locals; omega⟩ rfl rfl hl.1 (Nat.le_of_ble_eq_true rfl) dL_law_2447 ⟨by omega, by omega⟩ (fun k u H locs hp h => ?_)
  case hE =>
    rcases hp with ⟨e0, -⟩
    · exact e0
  refine lv_istore (lv' := [(6, .int k), (5, .int (nI i)), (4, .ref (eX V 601)), (3, .ref (eX V 600)), (2, .ref (eX V 500)), (1, .ref (eX V 96)), (0, .ref b)]) hx hcd dL_law_2450 hl (by decide) rfl (fun ls hl => ?_)
  replace h := cH_m h
  refine lv_aload_n hx hcd dL_law_2452 rfl (lv_at hl 4 rfl) ?_
  refine lv_aload_n hx hcd dL_law_2453 rfl (lv_at hl 6 rfl) ?_
  refine lv_iload hx hcd dL_law_2454 (lv_at hl 1 rfl) ?_
  refine lv_iconst (v := nI 1) hx hcd dL_law_2456 (by decide) ?_
  refine w_iadd (v := nI (i + 1)) hx hcd dL_law_2457 (nI_add _ _) ?_
  refine va_sld hx hcd hX hbl hbA h.2.2 (vp_in_nI (n := i + 1) (by omega) (by omega)) dL_law_2458 ?_
  refine fk_Vi (As := [.int (xs (nI (i + 1)).toNatClampNeg)]) (rest := []) (b := eX V 500) G hC hB hV h (met_X4_writeStory l _ M B hg hA.1 (xs (nI (i + 1)).toNatClampNeg)) mw_1810 (show kV yX4_writeStory cX4_writeStory 2 (some .int) 1 from ⟨mw_1811, mw_1812, mw_64, mw_1813, by decide, by decide, by decide +kernel⟩) ⟨rfl, rfl⟩ ⟨by show 4 + 1 ≤ R.frames; omega, by show 8 + (2 + 11) + 84 ≤ R.locals; omega⟩ (r_M hC h) rfl rfl hl.1 (Nat.le_of_ble_eq_true rfl) dL_law_2459 ⟨by omega, by omega⟩ (fun r2 u2 H locs hq h => ?_)
  refine lv_istore (lv' := [(7, .int r2), (6, .int k), (5, .int (nI i)), (4, .ref (eX V 601)), (3, .ref (eX V 600)), (2, .ref (eX V 500)), (1, .ref (eX V 96)), (0, .ref b)]) hx hcd dL_law_2462 hl (by decide) rfl (fun ls hl => ?_)
  have key : u2.1 3 = k ∧ (k = nI 0 → u.2 0 = r2.toInt64) ∧ rel (n + 1) u.1 u2 := by
    rcases hp with ⟨hk0, r, hp1, hu⟩ | ⟨hk0, hp1⟩
    · obtain ⟨q1, q2, q3⟩ := hcs.1 _ _ _ _ hp1 hq
      exact ⟨q1.trans hk0.symm, fun _ => by rw [hu, ← q2]; rfl, q3⟩
    · have q := hcs.2 _ _ _ _ hp1 hq
      exact ⟨q.2.1.trans hk0.symm, fun z => absurd (hk0.symm.trans z) (by decide), q.2.2⟩
  obtain ⟨k1, k2, k3⟩ := key
  exact lt_i (t1 := 2475) (t2 := 2492) (t3 := 2868) hV G hC hB mw_1531 h hl k1 k2 (by omega) (by omega) (by omega) (by omega) dL_law_2464 dL_law_2465 dL_law_2468 dL_law_2470 (by decide) dL_law_2475 dL_law_2477 (by decide) dL_law_2480 dL_law_2481 dL_law_2482 dL_law_2483 dL_law_2485 dL_law_2486 dL_law_2487 (by decide) dL_law_2492 (by decide) (fun H locs ls h hl => kk _ _ _ _ H locs ls _ _ k3 h hl (by omega) (by omega))
set_option maxHeartbeats 4000000 in
set_option maxRecDepth 100000 in
theorem lc_44_lineAt (hst : l.stackTraces = false) (hV : kOk V) (G : CallFix p m c cL_law 9 s args LW RL) (hC : cSt V s) (hB : eB V ≤ s.heap.size) (hX : va_X b LN xs s s.heap) (hbl : b < s.heap.size) (hbA : ¬ eA V b) (hn : n ≤ 600) (hr : rel n S M) (h : cH V s H locs (LWs V S M O OD)) (hi : i + 3 ≤ LN) (hLN : LN ≤ 1536) (hl : lv_has ls 9 (lv0 V b i)) (hRf : 30 ≤ R.frames) (hRl : 1500 ≤ R.locals) (hc : cells + 24 ≤ R.cells) (hs : slots + 3000 ≤ R.slots)
    (kk : ∀ (S : kCs) (M : kMs) (O : Nat → Int64) (OD : Nat → UInt64) (H : Heap) (locs : List Loc) (ls : Array Slot) (cells1 slots1 : Nat), rel (n + 1) S M → cH V s H locs (LWs V S M O OD) → lv_has ls 9 (lv0 V b i) → cells1 ≤ cells + 24 → slots1 ≤ slots + 3000 → W p l e R s m args below meth c H locs cells1 slots1 Q (F0 m 2868 ls [])) : W p l e R s m args below meth c H locs cells slots Q (F0 m 2508 ls []) := by
  have hx := G.1
  have hcd := G.2.1
  obtain ⟨B, nx, sz, L0, L, ep, fp, s0, hd⟩ := hr
  obtain ⟨e1, hA, hg, hH, hSs, hLL, hTT, hEE, hXX⟩ := id hd
  obtain ⟨f0, hf0⟩ := hXX.2.2.1
  obtain ⟨g0, hg0⟩ := hXX.2.2.2.1
  obtain ⟨pp, hpp⟩ := hXX.2.2.2.2.1
  obtain ⟨cm, hcm⟩ := hXX.2.2.2.2.2.1
  obtain ⟨sg, hsg, hsg2⟩ := hLL.2.2.2
  have hx5 : nx < 60000 := by have := hH.2.2.1; omega
  have eS : setB S 0 B = S := rel_S hd
  replace h : cH V s H locs (LWs V (setB S 0 B) M O OD) := by rw [eS]; exact h
  refine lv_aload_n hx hcd dL_law_2508 rfl (lv_at hl 4 rfl) ?_
  refine lv_aload_n hx hcd dL_law_2509 rfl (lv_at hl 5 rfl) ?_
  refine lv_iload hx hcd dL_law_2510 (lv_at hl 0 rfl) ?_
  refine lv_iconst (v := nI 1) hx hcd dL_law_2512 (by decide) ?_
  refine w_iadd (v := nI (i + 1)) hx hcd dL_law_2513 (nI_add _ _) ?_
  refine va_sld hx hcd hX hbl hbA h.2.2 (vp_in_nI (n := i + 1) (by omega) (by omega)) dL_law_2514 ?_
  refine lv_aload_n hx hcd dL_law_2515 rfl (lv_at hl 2 rfl) ?_
  replace h := cH_f h
  have hcs := cs_lineAt (x := (xs (nI (i + 1)).toNatClampNeg)) hd sg hsg2 hLL.2.1
  refine lw_S (F := lwF V) (u0 := (setB S 0 B, O)) (As := [.ref (eX V 96), .int (xs (nI (i + 1)).toNatClampNeg), .ref (eX V 600)]) (rest := []) G hC hB hV h (met_L_lineAt l _ (frV_ok _ _ _) (setB S 0 B) O (xs (nI (i + 1)).toNatClampNeg) (fun ws n => met_X3_lineAt l hst _ S B hA.1 L0 hLL.1 (xs (nI (i + 1)).toNatClampNeg)) (fun E u hp => ?hE)) mw_1309 (show kSw yL_lineAt cL_lineAt 4 [(0, 9, 12, 21)] 3 from ⟨mw_1310, mw_55, mw_1311, by decide, by decide, by decide +kernel⟩) ⟨rfl, rfl⟩ ⟨by show 8 + 1 ≤ R.frames; omega, by show 8 + (4 + 11) + 131 ≤ R.locals; omega⟩ rfl rfl hl.1 (Nat.le_of_ble_eq_true rfl) dL_law_2516 ⟨by omega, by omega⟩ (fun k u H locs hp h => ?_)
  case hE =>
    rcases hp with ⟨e0, -⟩
    · exact e0
  refine lv_istore (lv' := [(6, .int k), (5, .int (nI i)), (4, .ref (eX V 601)), (3, .ref (eX V 600)), (2, .ref (eX V 500)), (1, .ref (eX V 96)), (0, .ref b)]) hx hcd dL_law_2519 hl (by decide) rfl (fun ls hl => ?_)
  replace h := cH_m h
  refine lv_aload_n hx hcd dL_law_2521 rfl (lv_at hl 4 rfl) ?_
  refine lv_aload_n hx hcd dL_law_2522 rfl (lv_at hl 6 rfl) ?_
  refine lv_iload hx hcd dL_law_2523 (lv_at hl 1 rfl) ?_
  refine lv_iconst (v := nI 1) hx hcd dL_law_2525 (by decide) ?_
  refine w_iadd (v := nI (i + 1)) hx hcd dL_law_2526 (nI_add _ _) ?_
  refine va_sld hx hcd hX hbl hbA h.2.2 (vp_in_nI (n := i + 1) (by omega) (by omega)) dL_law_2527 ?_
  refine fk_Vi (As := [.int (xs (nI (i + 1)).toNatClampNeg)]) (rest := []) (b := eX V 500) G hC hB hV h (met_X4_lineAt l _ M sg hsg L0.length hLL.2.2.1 hLL.2.1 (xs (nI (i + 1)).toNatClampNeg)) mw_1826 (show kV yX4_lineAt cX4_lineAt 2 (some .char) 1 from ⟨mw_1827, mw_1828, mw_64, mw_1829, by decide, by decide, by decide +kernel⟩) ⟨rfl, rfl⟩ ⟨by show 1 + 1 ≤ R.frames; omega, by show 8 + (2 + 11) + 22 ≤ R.locals; omega⟩ (r_M hC h) rfl rfl hl.1 (Nat.le_of_ble_eq_true rfl) dL_law_2528 ⟨by omega, by omega⟩ (fun r2 u2 H locs hq h => ?_)
  refine lv_istore (lv' := [(7, .int r2), (6, .int k), (5, .int (nI i)), (4, .ref (eX V 601)), (3, .ref (eX V 600)), (2, .ref (eX V 500)), (1, .ref (eX V 96)), (0, .ref b)]) hx hcd dL_law_2531 hl (by decide) rfl (fun ls hl => ?_)
  have key : u2.1 3 = k ∧ (k = nI 0 → u.2 0 = r2.toInt64) ∧ rel (n + 1) u.1 u2 := by
    rcases hp with ⟨hk0, r, hp1, hu⟩ | ⟨hk0, hp1⟩
    · obtain ⟨q1, q2, q3⟩ := hcs.1 _ _ _ _ hp1 hq
      exact ⟨q1.trans hk0.symm, fun _ => by rw [hu, ← q2]; rfl, q3⟩
    · have q := hcs.2 _ _ _ _ hp1 hq
      exact ⟨q.2.1.trans hk0.symm, fun z => absurd (hk0.symm.trans z) (by decide), q.2.2⟩
  obtain ⟨k1, k2, k3⟩ := key
  exact lt_i (t1 := 2544) (t2 := 2561) (t3 := 2868) hV G hC hB mw_1531 h hl k1 k2 (by omega) (by omega) (by omega) (by omega) dL_law_2533 dL_law_2534 dL_law_2537 dL_law_2539 (by decide) dL_law_2544 dL_law_2546 (by decide) dL_law_2549 dL_law_2550 dL_law_2551 dL_law_2552 dL_law_2554 dL_law_2555 dL_law_2556 (by decide) dL_law_2561 (by decide) (fun H locs ls h hl => kk _ _ _ _ H locs ls _ _ k3 h hl (by omega) (by omega))
set_option maxHeartbeats 4000000 in
set_option maxRecDepth 100000 in
theorem lc_46_type (hst : l.stackTraces = false) (hV : kOk V) (G : CallFix p m c cL_law 9 s args LW RL) (hC : cSt V s) (hB : eB V ≤ s.heap.size) (hX : va_X b LN xs s s.heap) (hbl : b < s.heap.size) (hbA : ¬ eA V b) (hn : n ≤ 600) (hr : rel n S M) (h : cH V s H locs (LWs V S M O OD)) (hi : i + 3 ≤ LN) (hLN : LN ≤ 1536) (hl : lv_has ls 9 (lv0 V b i)) (hRf : 30 ≤ R.frames) (hRl : 1500 ≤ R.locals) (hc : cells + 24 ≤ R.cells) (hs : slots + 3000 ≤ R.slots)
    (kk : ∀ (S : kCs) (M : kMs) (O : Nat → Int64) (OD : Nat → UInt64) (H : Heap) (locs : List Loc) (ls : Array Slot) (cells1 slots1 : Nat), rel (n + 1) S M → cH V s H locs (LWs V S M O OD) → lv_has ls 9 (lv0 V b i) → cells1 ≤ cells + 24 → slots1 ≤ slots + 3000 → W p l e R s m args below meth c H locs cells1 slots1 Q (F0 m 2868 ls [])) : W p l e R s m args below meth c H locs cells slots Q (F0 m 2577 ls []) := by
  have hx := G.1
  have hcd := G.2.1
  obtain ⟨B, nx, sz, L0, L, ep, fp, s0, hd⟩ := hr
  obtain ⟨e1, hA, hg, hH, hSs, hLL, hTT, hEE, hXX⟩ := id hd
  obtain ⟨f0, hf0⟩ := hXX.2.2.1
  obtain ⟨g0, hg0⟩ := hXX.2.2.2.1
  obtain ⟨pp, hpp⟩ := hXX.2.2.2.2.1
  obtain ⟨cm, hcm⟩ := hXX.2.2.2.2.2.1
  obtain ⟨sg, hsg, hsg2⟩ := hLL.2.2.2
  have hx5 : nx < 60000 := by have := hH.2.2.1; omega
  have eS : setB S 0 B = S := rel_S hd
  replace h : cH V s H locs (LWs V (setB S 0 B) M O OD) := by rw [eS]; exact h
  refine lv_aload_n hx hcd dL_law_2577 rfl (lv_at hl 4 rfl) ?_
  refine lv_aload_n hx hcd dL_law_2578 rfl (lv_at hl 5 rfl) ?_
  refine lv_iload hx hcd dL_law_2579 (lv_at hl 0 rfl) ?_
  refine lv_iconst (v := nI 1) hx hcd dL_law_2581 (by decide) ?_
  refine w_iadd (v := nI (i + 1)) hx hcd dL_law_2582 (nI_add _ _) ?_
  refine va_sld hx hcd hX hbl hbA h.2.2 (vp_in_nI (n := i + 1) (by omega) (by omega)) dL_law_2583 ?_
  refine lv_i2c (v := xc (xs (nI (i + 1)).toNatClampNeg)) hx hcd dL_law_2584 rfl ?_
  refine lv_aload_n hx hcd dL_law_2585 rfl (lv_at hl 2 rfl) ?_
  replace h := cH_f h
  have hcs := cs_type (x := (xc (xs (nI (i + 1)).toNatClampNeg))) hd
  refine lw_S (F := lwF V) (u0 := (setB S 0 B, O)) (As := [.ref (eX V 96), .int (xc (xs (nI (i + 1)).toNatClampNeg)), .ref (eX V 600)]) (rest := []) G hC hB hV h (met_L_type l _ (frV_ok _ _ _) (setB S 0 B) O (xc (xs (nI (i + 1)).toNatClampNeg)) (fun ws n => met_X3_type l hst _ S B hA.1 (frV_ok _ _ _) L hTT.1 hTT.2.1 (xc (xs (nI (i + 1)).toNatClampNeg))) (fun E u hp => ?hE)) mw_1326 (show kSw yL_type cL_type 4 [(0, 9, 12, 13), (0, 9, 15, 15)] 3 from ⟨mw_1327, mw_55, mw_1328, by decide, by decide, by decide +kernel⟩) ⟨rfl, rfl⟩ ⟨by show 8 + 1 ≤ R.frames; omega, by show 8 + (4 + 11) + 196 ≤ R.locals; omega⟩ rfl rfl hl.1 (Nat.le_of_ble_eq_true rfl) dL_law_2586 ⟨by omega, by omega⟩ (fun k u H locs hp h => ?_)
  case hE =>
    rcases hp with ⟨e0, -⟩ | ⟨_, -, -, -, e0, -⟩
    · exact Or.inl e0
    · exact Or.inr (e0)
  refine lv_istore (lv' := [(6, .int k), (5, .int (nI i)), (4, .ref (eX V 601)), (3, .ref (eX V 600)), (2, .ref (eX V 500)), (1, .ref (eX V 96)), (0, .ref b)]) hx hcd dL_law_2589 hl (by decide) rfl (fun ls hl => ?_)
  replace h := cH_m h
  refine lv_aload_n hx hcd dL_law_2591 rfl (lv_at hl 4 rfl) ?_
  refine lv_aload_n hx hcd dL_law_2592 rfl (lv_at hl 6 rfl) ?_
  refine lv_iload hx hcd dL_law_2593 (lv_at hl 1 rfl) ?_
  refine lv_iconst (v := nI 1) hx hcd dL_law_2595 (by decide) ?_
  refine w_iadd (v := nI (i + 1)) hx hcd dL_law_2596 (nI_add _ _) ?_
  refine va_sld hx hcd hX hbl hbA h.2.2 (vp_in_nI (n := i + 1) (by omega) (by omega)) dL_law_2597 ?_
  refine lv_i2c (v := xc (xs (nI (i + 1)).toNatClampNeg)) hx hcd dL_law_2598 rfl ?_
  refine fk_Vi (As := [.int (xc (xs (nI (i + 1)).toNatClampNeg))]) (rest := []) (b := eX V 500) G hC hB hV h (met_X4_type l _ M L.length hTT.2.2.1 hTT.2.1 (xc (xs (nI (i + 1)).toNatClampNeg))) mw_1834 (show kV yX4_type cX4_type 2 (some .int) 1 from ⟨mw_1835, mw_1836, mw_64, mw_1837, by decide, by decide, by decide +kernel⟩) ⟨rfl, rfl⟩ ⟨by show 1 + 1 ≤ R.frames; omega, by show 8 + (2 + 11) + 22 ≤ R.locals; omega⟩ (r_M hC h) rfl rfl hl.1 (Nat.le_of_ble_eq_true rfl) dL_law_2599 ⟨by omega, by omega⟩ (fun r2 u2 H locs hq h => ?_)
  refine lv_istore (lv' := [(7, .int r2), (6, .int k), (5, .int (nI i)), (4, .ref (eX V 601)), (3, .ref (eX V 600)), (2, .ref (eX V 500)), (1, .ref (eX V 96)), (0, .ref b)]) hx hcd dL_law_2602 hl (by decide) rfl (fun ls hl => ?_)
  have key : u2.1 3 = k ∧ (k = nI 0 → u.2 0 = r2.toInt64) ∧ rel (n + 1) u.1 u2 := by
    rcases hp with ⟨hk0, r, hp1, hu⟩ | ⟨hk0, hp1⟩ | ⟨hk0, hp1⟩
    · obtain ⟨q1, q2, q3⟩ := hcs.1 _ _ _ _ hp1 hq
      exact ⟨q1.trans hk0.symm, fun _ => by rw [hu, ← q2]; rfl, q3⟩
    · have q := hcs.2 _ _ _ _ hp1 hq
      rcases q with ⟨q1, q2, q3⟩ | ⟨q1, q2, q3⟩
      · exact ⟨q2.trans hk0.symm, fun z => absurd (hk0.symm.trans z) (by decide), q3⟩
      · exact absurd q1 (by decide)
    · have q := hcs.2 _ _ _ _ hp1 hq
      rcases q with ⟨q1, q2, q3⟩ | ⟨q1, q2, q3⟩
      · exact absurd q1 (by decide)
      · exact ⟨q2.trans hk0.symm, fun z => absurd (hk0.symm.trans z) (by decide), q3⟩
  obtain ⟨k1, k2, k3⟩ := key
  exact lt_i (t1 := 2615) (t2 := 2632) (t3 := 2868) hV G hC hB mw_1531 h hl k1 k2 (by omega) (by omega) (by omega) (by omega) dL_law_2604 dL_law_2605 dL_law_2608 dL_law_2610 (by decide) dL_law_2615 dL_law_2617 (by decide) dL_law_2620 dL_law_2621 dL_law_2622 dL_law_2623 dL_law_2625 dL_law_2626 dL_law_2627 (by decide) dL_law_2632 (by decide) (fun H locs ls h hl => kk _ _ _ _ H locs ls _ _ k3 h hl (by omega) (by omega))
set_option maxHeartbeats 4000000 in
set_option maxRecDepth 100000 in
theorem lc_47_execute (hst : l.stackTraces = false) (hV : kOk V) (G : CallFix p m c cL_law 9 s args LW RL) (hC : cSt V s) (hB : eB V ≤ s.heap.size) (hX : va_X b LN xs s s.heap) (hbl : b < s.heap.size) (hbA : ¬ eA V b) (hn : n ≤ 600) (hr : rel n S M) (h : cH V s H locs (LWs V S M O OD)) (hi : i + 3 ≤ LN) (hLN : LN ≤ 1536) (hl : lv_has ls 9 (lv0 V b i)) (hRf : 30 ≤ R.frames) (hRl : 1500 ≤ R.locals) (hc : cells + 24 ≤ R.cells) (hs : slots + 3000 ≤ R.slots)
    (kk : ∀ (S : kCs) (M : kMs) (O : Nat → Int64) (OD : Nat → UInt64) (H : Heap) (locs : List Loc) (ls : Array Slot) (cells1 slots1 : Nat), rel (n + 1) S M → cH V s H locs (LWs V S M O OD) → lv_has ls 9 (lv0 V b i) → cells1 ≤ cells + 24 → slots1 ≤ slots + 3000 → W p l e R s m args below meth c H locs cells1 slots1 Q (F0 m 2868 ls [])) : W p l e R s m args below meth c H locs cells slots Q (F0 m 2635 ls []) := by
  have hx := G.1
  have hcd := G.2.1
  obtain ⟨B, nx, sz, L0, L, ep, fp, s0, hd⟩ := hr
  obtain ⟨e1, hA, hg, hH, hSs, hLL, hTT, hEE, hXX⟩ := id hd
  obtain ⟨f0, hf0⟩ := hXX.2.2.1
  obtain ⟨g0, hg0⟩ := hXX.2.2.2.1
  obtain ⟨pp, hpp⟩ := hXX.2.2.2.2.1
  obtain ⟨cm, hcm⟩ := hXX.2.2.2.2.2.1
  obtain ⟨sg, hsg, hsg2⟩ := hLL.2.2.2
  have hx5 : nx < 60000 := by have := hH.2.2.1; omega
  have eS : setB S 0 B = S := rel_S hd
  replace h : cH V s H locs (LWs V (setB S 0 B) M O OD) := by rw [eS]; exact h
  refine lv_aload_n hx hcd dL_law_2635 rfl (lv_at hl 4 rfl) ?_
  refine lv_aload_n hx hcd dL_law_2636 rfl (lv_at hl 2 rfl) ?_
  replace h := cH_f h
  have hcs := cs_execute hd
  refine lw_S (F := lwF V) (u0 := (setB S 0 B, O)) (As := [.ref (eX V 96), .ref (eX V 600)]) (rest := []) G hC hB hV h (met_L_execute l _ (frV_ok _ _ _) (setB S 0 B) O (fun ws n => met_X3_execute l hst _ S B hA.1 (frV_ok _ _ _) L hTT.1 hTT.2.1 pp cm hpp hcm hXX.2.2.2.2.2.2.1 hXX.2.2.2.2.2.2.2.1 hXX.2.2.2.2.2.2.2.2 (hXX.1 2 (by decide)) nx sz hH.1 hH.2.1 hx5 hH.2.2.2.1 (hXX.1 _ (by omega))) (fun E u hp => ?hE)) mw_1343 (show kSw yL_execute cL_execute 3 [(0, 8, 11, 13), (0, 8, 14, 15)] 2 from ⟨mw_1344, mw_55, mw_1345, by decide, by decide, by decide +kernel⟩) ⟨rfl, rfl⟩ ⟨by show 11 + 1 ≤ R.frames; omega, by show 8 + (3 + 11) + 246 ≤ R.locals; omega⟩ rfl rfl hl.1 (Nat.le_of_ble_eq_true rfl) dL_law_2637 ⟨by omega, by omega⟩ (fun k u H locs hp h => ?_)
  case hE =>
    rcases hp with ⟨_, -, e0, -⟩ | ⟨_, -, e0, -⟩
    · exact Or.inl e0
    · exact Or.inr (e0)
  refine lv_istore (lv' := [(6, .int k), (5, .int (nI i)), (4, .ref (eX V 601)), (3, .ref (eX V 600)), (2, .ref (eX V 500)), (1, .ref (eX V 96)), (0, .ref b)]) hx hcd dL_law_2640 hl (by decide) rfl (fun ls hl => ?_)
  replace h := cH_m h
  refine lv_aload_n hx hcd dL_law_2642 rfl (lv_at hl 4 rfl) ?_
  refine fk_Vi (As := []) (rest := []) (b := eX V 500) G hC hB hV h (met_X4_execute l _ M L hTT.2.2.1 hTT.2.1 hTT.2.2.2 B hg hA hXX.2.1 sz hH.2.2.2.2.2.1 hH.2.2.2.1 (nOf (rT S L).2.2.2.1) (nOf (rT S L).2.2.2.2.1) (nOf (rT S L).2.2.2.2.2) (ex_rel hTT.2.1 S M)) mw_1838 (show kV yX4_execute cX4_execute 4 (some .int) 0 from ⟨mw_1839, mw_1840, mw_64, mw_1841, by decide, by decide, by decide +kernel⟩) ⟨rfl, rfl⟩ ⟨by show 8 + 1 ≤ R.frames; omega, by show 8 + (4 + 11) + 170 ≤ R.locals; omega⟩ (r_M hC h) rfl rfl hl.1 (Nat.le_of_ble_eq_true rfl) dL_law_2643 ⟨by omega, by omega⟩ (fun r2 u2 H locs hq h => ?_)
  refine lv_istore (lv' := [(7, .int r2), (6, .int k), (5, .int (nI i)), (4, .ref (eX V 601)), (3, .ref (eX V 600)), (2, .ref (eX V 500)), (1, .ref (eX V 96)), (0, .ref b)]) hx hcd dL_law_2646 hl (by decide) rfl (fun ls hl => ?_)
  have key : u2.1 3 = k ∧ (k = nI 0 → u.2 0 = r2.toInt64) ∧ rel (n + 1) u.1 u2 := by
    rcases hp with ⟨hk0, r, hp1, hu⟩ | ⟨hk0, hp1⟩ | ⟨hk0, hp1⟩
    · obtain ⟨q1, q2, q3⟩ := hcs.1 _ _ _ _ hp1 hq
      exact ⟨q1.trans hk0.symm, fun _ => by rw [hu, ← q2]; rfl, q3⟩
    · have q := hcs.2 _ _ _ _ hp1 hq
      rcases q with ⟨q1, q2, q3⟩ | ⟨q1, q2, q3⟩
      · exact ⟨q2.trans hk0.symm, fun z => absurd (hk0.symm.trans z) (by decide), q3⟩
      · exact absurd q1 (by decide)
    · have q := hcs.2 _ _ _ _ hp1 hq
      rcases q with ⟨q1, q2, q3⟩ | ⟨q1, q2, q3⟩
      · exact absurd q1 (by decide)
      · exact ⟨q2.trans hk0.symm, fun z => absurd (hk0.symm.trans z) (by decide), q3⟩
  obtain ⟨k1, k2, k3⟩ := key
  exact lt_i (t1 := 2659) (t2 := 2676) (t3 := 2868) hV G hC hB mw_1531 h hl k1 k2 (by omega) (by omega) (by omega) (by omega) dL_law_2648 dL_law_2649 dL_law_2652 dL_law_2654 (by decide) dL_law_2659 dL_law_2661 (by decide) dL_law_2664 dL_law_2665 dL_law_2666 dL_law_2667 dL_law_2669 dL_law_2670 dL_law_2671 (by decide) dL_law_2676 (by decide) (fun H locs ls h hl => kk _ _ _ _ H locs ls _ _ k3 h hl (by omega) (by omega))
set_option maxHeartbeats 4000000 in
set_option maxRecDepth 100000 in
theorem lc_48_errorPosition (hst : l.stackTraces = false) (hV : kOk V) (G : CallFix p m c cL_law 9 s args LW RL) (hC : cSt V s) (hB : eB V ≤ s.heap.size) (hX : va_X b LN xs s s.heap) (hbl : b < s.heap.size) (hbA : ¬ eA V b) (hn : n ≤ 600) (hr : rel n S M) (h : cH V s H locs (LWs V S M O OD)) (hi : i + 3 ≤ LN) (hLN : LN ≤ 1536) (hl : lv_has ls 9 (lv0 V b i)) (hRf : 30 ≤ R.frames) (hRl : 1500 ≤ R.locals) (hc : cells + 24 ≤ R.cells) (hs : slots + 3000 ≤ R.slots)
    (kk : ∀ (S : kCs) (M : kMs) (O : Nat → Int64) (OD : Nat → UInt64) (H : Heap) (locs : List Loc) (ls : Array Slot) (cells1 slots1 : Nat), rel (n + 1) S M → cH V s H locs (LWs V S M O OD) → lv_has ls 9 (lv0 V b i) → cells1 ≤ cells + 24 → slots1 ≤ slots + 3000 → W p l e R s m args below meth c H locs cells1 slots1 Q (F0 m 2868 ls [])) : W p l e R s m args below meth c H locs cells slots Q (F0 m 2679 ls []) := by
  have hx := G.1
  have hcd := G.2.1
  obtain ⟨B, nx, sz, L0, L, ep, fp, s0, hd⟩ := hr
  obtain ⟨e1, hA, hg, hH, hSs, hLL, hTT, hEE, hXX⟩ := id hd
  obtain ⟨f0, hf0⟩ := hXX.2.2.1
  obtain ⟨g0, hg0⟩ := hXX.2.2.2.1
  obtain ⟨pp, hpp⟩ := hXX.2.2.2.2.1
  obtain ⟨cm, hcm⟩ := hXX.2.2.2.2.2.1
  obtain ⟨sg, hsg, hsg2⟩ := hLL.2.2.2
  have hx5 : nx < 60000 := by have := hH.2.2.1; omega
  have eS : setB S 0 B = S := rel_S hd
  replace h : cH V s H locs (LWs V (setB S 0 B) M O OD) := by rw [eS]; exact h
  refine lv_aload_n hx hcd dL_law_2679 rfl (lv_at hl 4 rfl) ?_
  refine lv_aload_n hx hcd dL_law_2680 rfl (lv_at hl 2 rfl) ?_
  replace h := cH_f h
  have hcs := cs_errorPosition hd
  refine lw_S (F := lwF V) (u0 := (setB S 0 B, O)) (As := [.ref (eX V 96), .ref (eX V 600)]) (rest := []) G hC hB hV h (met_L_errorPosition l _ (frV_ok _ _ _) (setB S 0 B) O (fun ws n => met_X3_errorPosition l hst _ S B hA.1 ep hEE.1 hEE.2.2.1) (fun E u hp => ?hE)) mw_1430 (show kSw yL_errorPosition cL_errorPosition 3 [(0, 8, 11, 66)] 2 from ⟨mw_1431, mw_55, mw_1432, by decide, by decide, by decide +kernel⟩) ⟨rfl, rfl⟩ ⟨by show 8 + 1 ≤ R.frames; omega, by show 8 + (3 + 11) + 130 ≤ R.locals; omega⟩ rfl rfl hl.1 (Nat.le_of_ble_eq_true rfl) dL_law_2681 ⟨by omega, by omega⟩ (fun k u H locs hp h => ?_)
  case hE =>
    rcases hp with ⟨e0, -⟩
    · exact e0
  refine lv_istore (lv' := [(6, .int k), (5, .int (nI i)), (4, .ref (eX V 601)), (3, .ref (eX V 600)), (2, .ref (eX V 500)), (1, .ref (eX V 96)), (0, .ref b)]) hx hcd dL_law_2684 hl (by decide) rfl (fun ls hl => ?_)
  replace h := cH_m h
  refine lv_aload_n hx hcd dL_law_2686 rfl (lv_at hl 4 rfl) ?_
  refine fk_Vi (As := []) (rest := []) (b := eX V 500) G hC hB hV h (met_X4_errorPosition l _ M) mw_1907 (show kV yX4_errorPosition cX4_errorPosition 1 (some .int) 0 from ⟨mw_1908, mw_1909, mw_64, mw_1910, by decide, by decide, by decide +kernel⟩) ⟨rfl, rfl⟩ ⟨by show 1 + 1 ≤ R.frames; omega, by show 8 + (1 + 11) + 21 ≤ R.locals; omega⟩ (r_M hC h) rfl rfl hl.1 (Nat.le_of_ble_eq_true rfl) dL_law_2687 ⟨by omega, by omega⟩ (fun r2 u2 H locs hq h => ?_)
  refine lv_istore (lv' := [(7, .int r2), (6, .int k), (5, .int (nI i)), (4, .ref (eX V 601)), (3, .ref (eX V 600)), (2, .ref (eX V 500)), (1, .ref (eX V 96)), (0, .ref b)]) hx hcd dL_law_2690 hl (by decide) rfl (fun ls hl => ?_)
  have key : u2.1 3 = k ∧ (k = nI 0 → u.2 0 = r2.toInt64) ∧ rel (n + 1) u.1 u2 := by
    rcases hp with ⟨hk0, r, hp1, hu⟩ | ⟨hk0, hp1⟩
    · obtain ⟨q1, q2, q3⟩ := hcs.1 _ _ _ _ hp1 hq
      exact ⟨q1.trans hk0.symm, fun _ => by rw [hu, ← q2]; rfl, q3⟩
    · have q := hcs.2 _ _ _ _ hp1 hq
      exact ⟨q.2.1.trans hk0.symm, fun z => absurd (hk0.symm.trans z) (by decide), q.2.2⟩
  obtain ⟨k1, k2, k3⟩ := key
  exact lt_i (t1 := 2703) (t2 := 2720) (t3 := 2868) hV G hC hB mw_1531 h hl k1 k2 (by omega) (by omega) (by omega) (by omega) dL_law_2692 dL_law_2693 dL_law_2696 dL_law_2698 (by decide) dL_law_2703 dL_law_2705 (by decide) dL_law_2708 dL_law_2709 dL_law_2710 dL_law_2711 dL_law_2713 dL_law_2714 dL_law_2715 (by decide) dL_law_2720 (by decide) (fun H locs ls h hl => kk _ _ _ _ H locs ls _ _ k3 h hl (by omega) (by omega))
set_option maxHeartbeats 4000000 in
set_option maxRecDepth 100000 in
theorem lc_49_failedCommand (hst : l.stackTraces = false) (hV : kOk V) (G : CallFix p m c cL_law 9 s args LW RL) (hC : cSt V s) (hB : eB V ≤ s.heap.size) (hX : va_X b LN xs s s.heap) (hbl : b < s.heap.size) (hbA : ¬ eA V b) (hn : n ≤ 600) (hr : rel n S M) (h : cH V s H locs (LWs V S M O OD)) (hi : i + 3 ≤ LN) (hLN : LN ≤ 1536) (hl : lv_has ls 9 (lv0 V b i)) (hRf : 30 ≤ R.frames) (hRl : 1500 ≤ R.locals) (hc : cells + 24 ≤ R.cells) (hs : slots + 3000 ≤ R.slots)
    (kk : ∀ (S : kCs) (M : kMs) (O : Nat → Int64) (OD : Nat → UInt64) (H : Heap) (locs : List Loc) (ls : Array Slot) (cells1 slots1 : Nat), rel (n + 1) S M → cH V s H locs (LWs V S M O OD) → lv_has ls 9 (lv0 V b i) → cells1 ≤ cells + 24 → slots1 ≤ slots + 3000 → W p l e R s m args below meth c H locs cells1 slots1 Q (F0 m 2868 ls [])) : W p l e R s m args below meth c H locs cells slots Q (F0 m 2723 ls []) := by
  have hx := G.1
  have hcd := G.2.1
  obtain ⟨B, nx, sz, L0, L, ep, fp, s0, hd⟩ := hr
  obtain ⟨e1, hA, hg, hH, hSs, hLL, hTT, hEE, hXX⟩ := id hd
  obtain ⟨f0, hf0⟩ := hXX.2.2.1
  obtain ⟨g0, hg0⟩ := hXX.2.2.2.1
  obtain ⟨pp, hpp⟩ := hXX.2.2.2.2.1
  obtain ⟨cm, hcm⟩ := hXX.2.2.2.2.2.1
  obtain ⟨sg, hsg, hsg2⟩ := hLL.2.2.2
  have hx5 : nx < 60000 := by have := hH.2.2.1; omega
  have eS : setB S 0 B = S := rel_S hd
  replace h : cH V s H locs (LWs V (setB S 0 B) M O OD) := by rw [eS]; exact h
  refine lv_aload_n hx hcd dL_law_2723 rfl (lv_at hl 4 rfl) ?_
  refine lv_aload_n hx hcd dL_law_2724 rfl (lv_at hl 2 rfl) ?_
  replace h := cH_f h
  have hcs := cs_failedCommand hd
  refine lw_S (F := lwF V) (u0 := (setB S 0 B, O)) (As := [.ref (eX V 96), .ref (eX V 600)]) (rest := []) G hC hB hV h (met_L_failedCommand l _ (frV_ok _ _ _) (setB S 0 B) O (fun ws n => met_X3_failedCommand l hst _ S B hA.1 fp hEE.2.2.2.1 hEE.2.2.2.2.2) (fun E u hp => ?hE)) mw_1437 (show kSw yL_failedCommand cL_failedCommand 3 [(0, 8, 11, 66)] 2 from ⟨mw_1438, mw_55, mw_1439, by decide, by decide, by decide +kernel⟩) ⟨rfl, rfl⟩ ⟨by show 8 + 1 ≤ R.frames; omega, by show 8 + (3 + 11) + 130 ≤ R.locals; omega⟩ rfl rfl hl.1 (Nat.le_of_ble_eq_true rfl) dL_law_2725 ⟨by omega, by omega⟩ (fun k u H locs hp h => ?_)
  case hE =>
    rcases hp with ⟨e0, -⟩
    · exact e0
  refine lv_istore (lv' := [(6, .int k), (5, .int (nI i)), (4, .ref (eX V 601)), (3, .ref (eX V 600)), (2, .ref (eX V 500)), (1, .ref (eX V 96)), (0, .ref b)]) hx hcd dL_law_2728 hl (by decide) rfl (fun ls hl => ?_)
  replace h := cH_m h
  refine lv_aload_n hx hcd dL_law_2730 rfl (lv_at hl 4 rfl) ?_
  refine fk_Vi (As := []) (rest := []) (b := eX V 500) G hC hB hV h (met_X4_failedCommand l _ M) mw_1911 (show kV yX4_failedCommand cX4_failedCommand 1 (some .int) 0 from ⟨mw_1912, mw_1913, mw_64, mw_1914, by decide, by decide, by decide +kernel⟩) ⟨rfl, rfl⟩ ⟨by show 1 + 1 ≤ R.frames; omega, by show 8 + (1 + 11) + 21 ≤ R.locals; omega⟩ (r_M hC h) rfl rfl hl.1 (Nat.le_of_ble_eq_true rfl) dL_law_2731 ⟨by omega, by omega⟩ (fun r2 u2 H locs hq h => ?_)
  refine lv_istore (lv' := [(7, .int r2), (6, .int k), (5, .int (nI i)), (4, .ref (eX V 601)), (3, .ref (eX V 600)), (2, .ref (eX V 500)), (1, .ref (eX V 96)), (0, .ref b)]) hx hcd dL_law_2734 hl (by decide) rfl (fun ls hl => ?_)
  have key : u2.1 3 = k ∧ (k = nI 0 → u.2 0 = r2.toInt64) ∧ rel (n + 1) u.1 u2 := by
    rcases hp with ⟨hk0, r, hp1, hu⟩ | ⟨hk0, hp1⟩
    · obtain ⟨q1, q2, q3⟩ := hcs.1 _ _ _ _ hp1 hq
      exact ⟨q1.trans hk0.symm, fun _ => by rw [hu, ← q2]; rfl, q3⟩
    · have q := hcs.2 _ _ _ _ hp1 hq
      exact ⟨q.2.1.trans hk0.symm, fun z => absurd (hk0.symm.trans z) (by decide), q.2.2⟩
  obtain ⟨k1, k2, k3⟩ := key
  exact lt_i (t1 := 2747) (t2 := 2764) (t3 := 2868) hV G hC hB mw_1531 h hl k1 k2 (by omega) (by omega) (by omega) (by omega) dL_law_2736 dL_law_2737 dL_law_2740 dL_law_2742 (by decide) dL_law_2747 dL_law_2749 (by decide) dL_law_2752 dL_law_2753 dL_law_2754 dL_law_2755 dL_law_2757 dL_law_2758 dL_law_2759 (by decide) dL_law_2764 (by decide) (fun H locs ls h hl => kk _ _ _ _ H locs ls _ _ k3 h hl (by omega) (by omega))
set_option maxHeartbeats 4000000 in
set_option maxRecDepth 100000 in
theorem lc_50_undo (hst : l.stackTraces = false) (hV : kOk V) (G : CallFix p m c cL_law 9 s args LW RL) (hC : cSt V s) (hB : eB V ≤ s.heap.size) (hX : va_X b LN xs s s.heap) (hbl : b < s.heap.size) (hbA : ¬ eA V b) (hn : n ≤ 600) (hr : rel n S M) (h : cH V s H locs (LWs V S M O OD)) (hi : i + 3 ≤ LN) (hLN : LN ≤ 1536) (hl : lv_has ls 9 (lv0 V b i)) (hRf : 30 ≤ R.frames) (hRl : 1500 ≤ R.locals) (hc : cells + 24 ≤ R.cells) (hs : slots + 3000 ≤ R.slots)
    (kk : ∀ (S : kCs) (M : kMs) (O : Nat → Int64) (OD : Nat → UInt64) (H : Heap) (locs : List Loc) (ls : Array Slot) (cells1 slots1 : Nat), rel (n + 1) S M → cH V s H locs (LWs V S M O OD) → lv_has ls 9 (lv0 V b i) → cells1 ≤ cells + 24 → slots1 ≤ slots + 3000 → W p l e R s m args below meth c H locs cells1 slots1 Q (F0 m 2868 ls [])) : W p l e R s m args below meth c H locs cells slots Q (F0 m 2767 ls []) := by
  have hx := G.1
  have hcd := G.2.1
  obtain ⟨B, nx, sz, L0, L, ep, fp, s0, hd⟩ := hr
  obtain ⟨e1, hA, hg, hH, hSs, hLL, hTT, hEE, hXX⟩ := id hd
  obtain ⟨f0, hf0⟩ := hXX.2.2.1
  obtain ⟨g0, hg0⟩ := hXX.2.2.2.1
  obtain ⟨pp, hpp⟩ := hXX.2.2.2.2.1
  obtain ⟨cm, hcm⟩ := hXX.2.2.2.2.2.1
  obtain ⟨sg, hsg, hsg2⟩ := hLL.2.2.2
  have hx5 : nx < 60000 := by have := hH.2.2.1; omega
  have eS : setB S 0 B = S := rel_S hd
  replace h : cH V s H locs (LWs V (setB S 0 B) M O OD) := by rw [eS]; exact h
  have hk9u : sz ≠ 0 → 1 ≤ nx ∧ kSm (S.1 (4 + (nx - 1) % 8)) ∧ (S.1 (4 + (nx - 1) % 8)).2 3 < 2 ∧ bN (S.1 (4 + (nx - 1) % 8)) := by
    intro z
    have a5 := hH.2.2.2.2.1
    have q := (hH.2.2.2.2.2.2 (sz - 1) (by omega)).1
    rw [show nx - sz + (sz - 1) = nx - 1 by omega] at q
    exact ⟨by omega, q.1.1, q.1.2.2.2.2.1, q.1.2.1⟩
  refine lv_aload_n hx hcd dL_law_2767 rfl (lv_at hl 4 rfl) ?_
  refine lv_aload_n hx hcd dL_law_2768 rfl (lv_at hl 2 rfl) ?_
  replace h := cH_f h
  have hcs := cs_undo hd
  refine lw_S (F := lwF V) (u0 := (setB S 0 B, O)) (As := [.ref (eX V 96), .ref (eX V 600)]) (rest := []) G hC hB hV h (met_L_undo l _ (frV_ok _ _ _) (setB S 0 B) O (fun ws n => met_X3_undo l hst _ S B hA.1 nx sz hH.1 hH.2.1 hx5 hH.2.2.2.1 hk9u) (fun E u hp => ?hE)) mw_1444 (show kSw yL_undo cL_undo 3 [(0, 8, 11, 15)] 2 from ⟨mw_1445, mw_55, mw_1446, by decide, by decide, by decide +kernel⟩) ⟨rfl, rfl⟩ ⟨by show 8 + 1 ≤ R.frames; omega, by show 8 + (3 + 11) + 130 ≤ R.locals; omega⟩ rfl rfl hl.1 (Nat.le_of_ble_eq_true rfl) dL_law_2769 ⟨by omega, by omega⟩ (fun k u H locs hp h => ?_)
  case hE =>
    rcases hp with ⟨e0, -⟩
    · exact e0
  refine lv_istore (lv' := [(6, .int k), (5, .int (nI i)), (4, .ref (eX V 601)), (3, .ref (eX V 600)), (2, .ref (eX V 500)), (1, .ref (eX V 96)), (0, .ref b)]) hx hcd dL_law_2772 hl (by decide) rfl (fun ls hl => ?_)
  replace h := cH_m h
  refine lv_aload_n hx hcd dL_law_2774 rfl (lv_at hl 4 rfl) ?_
  refine fk_Vi (As := []) (rest := []) (b := eX V 500) G hC hB hV h (met_X4_undo l _ M sz hH.2.2.2.2.2.1 hH.2.2.2.1) mw_1915 (show kV yX4_undo cX4_undo 1 (some .int) 0 from ⟨mw_1916, mw_1917, mw_64, mw_1918, by decide, by decide, by decide +kernel⟩) ⟨rfl, rfl⟩ ⟨by show 1 + 1 ≤ R.frames; omega, by show 8 + (1 + 11) + 24 ≤ R.locals; omega⟩ (r_M hC h) rfl rfl hl.1 (Nat.le_of_ble_eq_true rfl) dL_law_2775 ⟨by omega, by omega⟩ (fun r2 u2 H locs hq h => ?_)
  refine lv_istore (lv' := [(7, .int r2), (6, .int k), (5, .int (nI i)), (4, .ref (eX V 601)), (3, .ref (eX V 600)), (2, .ref (eX V 500)), (1, .ref (eX V 96)), (0, .ref b)]) hx hcd dL_law_2778 hl (by decide) rfl (fun ls hl => ?_)
  have key : u2.1 3 = k ∧ (k = nI 0 → u.2 0 = r2.toInt64) ∧ rel (n + 1) u.1 u2 := by
    rcases hp with ⟨hk0, r, hp1, hu⟩ | ⟨hk0, hp1⟩
    · obtain ⟨q1, q2, q3⟩ := hcs.1 _ _ _ _ hp1 hq
      exact ⟨q1.trans hk0.symm, fun _ => by rw [hu, ← q2]; rfl, q3⟩
    · have q := hcs.2 _ _ _ _ hp1 hq
      exact ⟨q.2.1.trans hk0.symm, fun z => absurd (hk0.symm.trans z) (by decide), q.2.2⟩
  obtain ⟨k1, k2, k3⟩ := key
  exact lt_i (t1 := 2791) (t2 := 2808) (t3 := 2868) hV G hC hB mw_1531 h hl k1 k2 (by omega) (by omega) (by omega) (by omega) dL_law_2780 dL_law_2781 dL_law_2784 dL_law_2786 (by decide) dL_law_2791 dL_law_2793 (by decide) dL_law_2796 dL_law_2797 dL_law_2798 dL_law_2799 dL_law_2801 dL_law_2802 dL_law_2803 (by decide) dL_law_2808 (by decide) (fun H locs ls h hl => kk _ _ _ _ H locs ls _ _ k3 h hl (by omega) (by omega))
set_option maxHeartbeats 4000000 in
set_option maxRecDepth 100000 in
theorem lc_52_restore (hst : l.stackTraces = false) (hV : kOk V) (G : CallFix p m c cL_law 9 s args LW RL) (hC : cSt V s) (hB : eB V ≤ s.heap.size) (hX : va_X b LN xs s s.heap) (hbl : b < s.heap.size) (hbA : ¬ eA V b) (hn : n ≤ 600) (hr : rel n S M) (h : cH V s H locs (LWs V S M O OD)) (hi : i + 3 ≤ LN) (hLN : LN ≤ 1536) (hl : lv_has ls 9 (lv0 V b i)) (hRf : 30 ≤ R.frames) (hRl : 1500 ≤ R.locals) (hc : cells + 24 ≤ R.cells) (hs : slots + 3000 ≤ R.slots)
    (kk : ∀ (S : kCs) (M : kMs) (O : Nat → Int64) (OD : Nat → UInt64) (H : Heap) (locs : List Loc) (ls : Array Slot) (cells1 slots1 : Nat), rel (n + 1) S M → cH V s H locs (LWs V S M O OD) → lv_has ls 9 (lv0 V b i) → cells1 ≤ cells + 24 → slots1 ≤ slots + 3000 → W p l e R s m args below meth c H locs cells1 slots1 Q (F0 m 2868 ls [])) : W p l e R s m args below meth c H locs cells slots Q (F0 m 2824 ls []) := by
  have hx := G.1
  have hcd := G.2.1
  obtain ⟨B, nx, sz, L0, L, ep, fp, s0, hd⟩ := hr
  obtain ⟨e1, hA, hg, hH, hSs, hLL, hTT, hEE, hXX⟩ := id hd
  obtain ⟨f0, hf0⟩ := hXX.2.2.1
  obtain ⟨g0, hg0⟩ := hXX.2.2.2.1
  obtain ⟨pp, hpp⟩ := hXX.2.2.2.2.1
  obtain ⟨cm, hcm⟩ := hXX.2.2.2.2.2.1
  obtain ⟨sg, hsg, hsg2⟩ := hLL.2.2.2
  have hx5 : nx < 60000 := by have := hH.2.2.1; omega
  have eS : setB S 0 B = S := rel_S hd
  replace h : cH V s H locs (LWs V (setB S 0 B) M O OD) := by rw [eS]; exact h
  have hsv : S.2.1 0 = bz (decide (s0 ≠ 0)) := by
    have q2 := hSs.2.2.1
    rw [hSs.1]
    by_cases z : s0 = 0
    · rw [z]; rfl
    · rw [show s0 = 1 by omega]; rfl
  have hk9r : decide (s0 ≠ 0) = true → kSm (S.1 3) ∧ (S.1 3).2 3 < 2 ∧ bN (S.1 3) := by
    intro z
    have q := (hSs.2.2.2.1 (of_decide_eq_true z)).1
    exact ⟨q.1.1, q.1.2.2.2.2.1, q.1.2.1⟩
  obtain ⟨B9, hb9, hs9, hI9⟩ : ∃ B9, (s0 ≠ 0 → B9 = S.1 3) ∧ M.2 2 = gOf B9 ∧ bI B9 := by
    by_cases z : s0 = 0
    · exact ⟨B0, fun q => absurd z q, funext fun j => (hSs.2.2.2.2.2 z j).trans (gOf_0 j).symm, bA_0.1⟩
    · have q := hSs.2.2.2.1 z
      exact ⟨S.1 3, fun _ => rfl, q.2, q.1.1⟩
  refine lv_aload_n hx hcd dL_law_2824 rfl (lv_at hl 4 rfl) ?_
  refine lv_aload_n hx hcd dL_law_2825 rfl (lv_at hl 2 rfl) ?_
  replace h := cH_f h
  have hcs := cs_restore hd B9 hb9
  refine lw_S (F := lwF V) (u0 := (setB S 0 B, O)) (As := [.ref (eX V 96), .ref (eX V 600)]) (rest := []) G hC hB hV h (met_L_restore l _ (frV_ok _ _ _) (setB S 0 B) O (fun ws n => met_X3_restore l hst _ S B hA.1 (decide (s0 ≠ 0)) hsv hk9r) (fun E u hp => ?hE)) mw_1455 (show kSw yL_restore cL_restore 3 [(0, 8, 11, 15)] 2 from ⟨mw_1456, mw_55, mw_1457, by decide, by decide, by decide +kernel⟩) ⟨rfl, rfl⟩ ⟨by show 8 + 1 ≤ R.frames; omega, by show 8 + (3 + 11) + 130 ≤ R.locals; omega⟩ rfl rfl hl.1 (Nat.le_of_ble_eq_true rfl) dL_law_2826 ⟨by omega, by omega⟩ (fun k u H locs hp h => ?_)
  case hE =>
    rcases hp with ⟨e0, -⟩
    · exact e0
  refine lv_istore (lv' := [(6, .int k), (5, .int (nI i)), (4, .ref (eX V 601)), (3, .ref (eX V 600)), (2, .ref (eX V 500)), (1, .ref (eX V 96)), (0, .ref b)]) hx hcd dL_law_2829 hl (by decide) rfl (fun ls hl => ?_)
  replace h := cH_m h
  refine lv_aload_n hx hcd dL_law_2831 rfl (lv_at hl 4 rfl) ?_
  refine fk_Vi (As := []) (rest := []) (b := eX V 500) G hC hB hV h (met_X4_restore l _ M B9 hs9 hI9 s0 hSs.2.1 hSs.2.2.1) mw_1923 (show kV yX4_restore cX4_restore 1 (some .int) 0 from ⟨mw_1924, mw_1925, mw_64, mw_1926, by decide, by decide, by decide +kernel⟩) ⟨rfl, rfl⟩ ⟨by show 1 + 1 ≤ R.frames; omega, by show 8 + (1 + 11) + 24 ≤ R.locals; omega⟩ (r_M hC h) rfl rfl hl.1 (Nat.le_of_ble_eq_true rfl) dL_law_2832 ⟨by omega, by omega⟩ (fun r2 u2 H locs hq h => ?_)
  refine lv_istore (lv' := [(7, .int r2), (6, .int k), (5, .int (nI i)), (4, .ref (eX V 601)), (3, .ref (eX V 600)), (2, .ref (eX V 500)), (1, .ref (eX V 96)), (0, .ref b)]) hx hcd dL_law_2835 hl (by decide) rfl (fun ls hl => ?_)
  have key : u2.1 3 = k ∧ (k = nI 0 → u.2 0 = r2.toInt64) ∧ rel (n + 1) u.1 u2 := by
    rcases hp with ⟨hk0, r, hp1, hu⟩ | ⟨hk0, hp1⟩
    · obtain ⟨q1, q2, q3⟩ := hcs.1 _ _ _ _ hp1 hq
      exact ⟨q1.trans hk0.symm, fun _ => by rw [hu, ← q2]; rfl, q3⟩
    · have q := hcs.2 _ _ _ _ hp1 hq
      exact ⟨q.2.1.trans hk0.symm, fun z => absurd (hk0.symm.trans z) (by decide), q.2.2⟩
  obtain ⟨k1, k2, k3⟩ := key
  exact lt_i (t1 := 2848) (t2 := 2865) (t3 := 2868) hV G hC hB mw_1531 h hl k1 k2 (by omega) (by omega) (by omega) (by omega) dL_law_2837 dL_law_2838 dL_law_2841 dL_law_2843 (by decide) dL_law_2848 dL_law_2850 (by decide) dL_law_2853 dL_law_2854 dL_law_2855 dL_law_2856 dL_law_2858 dL_law_2859 dL_law_2860 (by decide) dL_law_2865 (by decide) (fun H locs ls h hl => kk _ _ _ _ H locs ls _ _ k3 h hl (by omega) (by omega))
end LC
