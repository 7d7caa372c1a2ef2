/-! THE LAW: cases of its switch. -/
section LC
variable {p : Program} {l : Launch} {e : Env} {R : Room} {s : State} {m : MethodId} {args : Array Value} {below : List Frame} {meth : Method} {c : Code} {H : Heap} {locs : List Loc} {cells slots : Nat} {Q : State → Prop}
variable {ls : Array Slot} {V : kEnv} {S : kCs} {M : kMs} {O : Nat → Int64} {OD : Nat → UInt64} {n b LN i : Nat} {xs : Nat → Int32}
set_option maxHeartbeats 4000000 in
set_option maxRecDepth 100000 in
theorem lc_4_storyCount (hst : l.stackTraces = false) (hV : kOk V) (G : CallFix p m c cL_law 9 s args LW RL) (hC : cSt V s) (hB : eB V ≤ s.heap.size) (hX : va_X b LN xs s s.heap) (hbl : b < s.heap.size) (hbA : ¬ eA V b) (hn : n ≤ 600) (hr : rel n S M) (h : cH V s H locs (LWs V S M O OD)) (hi : i + 3 ≤ LN) (hLN : LN ≤ 1536) (hl : lv_has ls 9 (lv0 V b i)) (hRf : 30 ≤ R.frames) (hRl : 1500 ≤ R.locals) (hc : cells + 24 ≤ R.cells) (hs : slots + 3000 ≤ R.slots)
    (kk : ∀ (S : kCs) (M : kMs) (O : Nat → Int64) (OD : Nat → UInt64) (H : Heap) (locs : List Loc) (ls : Array Slot) (cells1 slots1 : Nat), rel (n + 1) S M → cH V s H locs (LWs V S M O OD) → lv_has ls 9 (lv0 V b i) → cells1 ≤ cells + 24 → slots1 ≤ slots + 3000 → W p l e R s m args below meth c H locs cells1 slots1 Q (F0 m 2868 ls [])) : W p l e R s m args below meth c H locs cells slots Q (F0 m 532 ls []) := by
  have hx := G.1
  have hcd := G.2.1
  obtain ⟨B, nx, sz, L0, L, ep, fp, s0, hd⟩ := hr
  obtain ⟨e1, hA, hg, hH, hSs, hLL, hTT, hEE, hXX⟩ := id hd
  obtain ⟨f0, hf0⟩ := hXX.2.2.1
  obtain ⟨g0, hg0⟩ := hXX.2.2.2.1
  obtain ⟨pp, hpp⟩ := hXX.2.2.2.2.1
  obtain ⟨cm, hcm⟩ := hXX.2.2.2.2.2.1
  obtain ⟨sg, hsg, hsg2⟩ := hLL.2.2.2
  have hx5 : nx < 60000 := by have := hH.2.2.1; omega
  have eS : setB S 0 B = S := rel_S hd
  replace h : cH V s H locs (LWs V (setB S 0 B) M O OD) := by rw [eS]; exact h
  refine lv_aload_n hx hcd dL_law_532 rfl (lv_at hl 4 rfl) ?_
  refine fk_Vi (F := cWs V) (u0 := setB S 0 B) (As := []) (rest := []) (b := eX V 96) G hC hB hV h (met_X3_storyCount l _ S B hA.1) mw_276 (show kV yX3_storyCount cX3_storyCount 1 (some .int) 0 from ⟨mw_277, mw_278, mw_56, mw_279, by decide, by decide, by decide +kernel⟩) ⟨rfl, rfl⟩ ⟨by show 0 + 1 ≤ R.frames; omega, by show 8 + (1 + 11) + 0 ≤ R.locals; omega⟩ (r_C hC h) rfl rfl hl.1 (Nat.le_of_ble_eq_true rfl) dL_law_533 ⟨by omega, by omega⟩ (fun r u H locs hp h => ?_)
  replace h := cH_sw h
  refine lv_aload_n hx hcd dL_law_536 rfl (lv_at hl 3 rfl) ?_
  refine fk_Vi (F := mWs V) (u0 := M) (As := []) (rest := [.int r]) (b := eX V 500) G hC hB hV h (met_X4_storyCount l _ M B hg hA.1) mw_1611 (show kV yX4_storyCount cX4_storyCount 1 (some .int) 0 from ⟨mw_1612, mw_1613, mw_64, mw_1614, by decide, by decide, by decide +kernel⟩) ⟨rfl, rfl⟩ ⟨by show 0 + 1 ≤ R.frames; omega, by show 8 + (1 + 11) + 0 ≤ R.locals; omega⟩ (r_M hC h) rfl rfl hl.1 (Nat.le_of_ble_eq_true rfl) dL_law_537 ⟨by omega, by omega⟩ (fun r2 u2 H locs hq h => ?_)
  obtain ⟨q1, q2⟩ := cd_storyCount hd r u r2 u2 hp hq
  exact lv_icmp_eq (tgt := 2868) hx hcd dL_law_540 (by decide) (fun _ => kk _ _ _ _ H locs ls _ _ q2 (cH_sw h) hl (by omega) (by omega)) (fun z => absurd q1 z)
set_option maxHeartbeats 4000000 in
set_option maxRecDepth 100000 in
theorem lc_19_developerCount (hst : l.stackTraces = false) (hV : kOk V) (G : CallFix p m c cL_law 9 s args LW RL) (hC : cSt V s) (hB : eB V ≤ s.heap.size) (hX : va_X b LN xs s s.heap) (hbl : b < s.heap.size) (hbA : ¬ eA V b) (hn : n ≤ 600) (hr : rel n S M) (h : cH V s H locs (LWs V S M O OD)) (hi : i + 3 ≤ LN) (hLN : LN ≤ 1536) (hl : lv_has ls 9 (lv0 V b i)) (hRf : 30 ≤ R.frames) (hRl : 1500 ≤ R.locals) (hc : cells + 24 ≤ R.cells) (hs : slots + 3000 ≤ R.slots)
    (kk : ∀ (S : kCs) (M : kMs) (O : Nat → Int64) (OD : Nat → UInt64) (H : Heap) (locs : List Loc) (ls : Array Slot) (cells1 slots1 : Nat), rel (n + 1) S M → cH V s H locs (LWs V S M O OD) → lv_has ls 9 (lv0 V b i) → cells1 ≤ cells + 24 → slots1 ≤ slots + 3000 → W p l e R s m args below meth c H locs cells1 slots1 Q (F0 m 2868 ls [])) : W p l e R s m args below meth c H locs cells slots Q (F0 m 1419 ls []) := by
  have hx := G.1
  have hcd := G.2.1
  obtain ⟨B, nx, sz, L0, L, ep, fp, s0, hd⟩ := hr
  obtain ⟨e1, hA, hg, hH, hSs, hLL, hTT, hEE, hXX⟩ := id hd
  obtain ⟨f0, hf0⟩ := hXX.2.2.1
  obtain ⟨g0, hg0⟩ := hXX.2.2.2.1
  obtain ⟨pp, hpp⟩ := hXX.2.2.2.2.1
  obtain ⟨cm, hcm⟩ := hXX.2.2.2.2.2.1
  obtain ⟨sg, hsg, hsg2⟩ := hLL.2.2.2
  have hx5 : nx < 60000 := by have := hH.2.2.1; omega
  have eS : setB S 0 B = S := rel_S hd
  replace h : cH V s H locs (LWs V (setB S 0 B) M O OD) := by rw [eS]; exact h
  refine lv_aload_n hx hcd dL_law_1419 rfl (lv_at hl 4 rfl) ?_
  refine fk_Vi (F := cWs V) (u0 := setB S 0 B) (As := []) (rest := []) (b := eX V 96) G hC hB hV h (met_X3_developerCount l _ S B hA.1) mw_280 (show kV yX3_developerCount cX3_developerCount 1 (some .int) 0 from ⟨mw_281, mw_282, mw_56, mw_283, by decide, by decide, by decide +kernel⟩) ⟨rfl, rfl⟩ ⟨by show 0 + 1 ≤ R.frames; omega, by show 8 + (1 + 11) + 0 ≤ R.locals; omega⟩ (r_C hC h) rfl rfl hl.1 (Nat.le_of_ble_eq_true rfl) dL_law_1420 ⟨by omega, by omega⟩ (fun r u H locs hp h => ?_)
  replace h := cH_sw h
  refine lv_aload_n hx hcd dL_law_1423 rfl (lv_at hl 3 rfl) ?_
  refine fk_Vi (F := mWs V) (u0 := M) (As := []) (rest := [.int r]) (b := eX V 500) G hC hB hV h (met_X4_developerCount l _ M B hg hA.1) mw_1698 (show kV yX4_developerCount cX4_developerCount 1 (some .int) 0 from ⟨mw_1699, mw_1700, mw_64, mw_1701, by decide, by decide, by decide +kernel⟩) ⟨rfl, rfl⟩ ⟨by show 0 + 1 ≤ R.frames; omega, by show 8 + (1 + 11) + 0 ≤ R.locals; omega⟩ (r_M hC h) rfl rfl hl.1 (Nat.le_of_ble_eq_true rfl) dL_law_1424 ⟨by omega, by omega⟩ (fun r2 u2 H locs hq h => ?_)
  obtain ⟨q1, q2⟩ := cd_developerCount hd r u r2 u2 hp hq
  exact lv_icmp_eq (tgt := 2868) hx hcd dL_law_1427 (by decide) (fun _ => kk _ _ _ _ H locs ls _ _ q2 (cH_sw h) hl (by omega) (by omega)) (fun z => absurd q1 z)
set_option maxHeartbeats 4000000 in
set_option maxRecDepth 100000 in
theorem lc_28_isActive (hst : l.stackTraces = false) (hV : kOk V) (G : CallFix p m c cL_law 9 s args LW RL) (hC : cSt V s) (hB : eB V ≤ s.heap.size) (hX : va_X b LN xs s s.heap) (hbl : b < s.heap.size) (hbA : ¬ eA V b) (hn : n ≤ 600) (hr : rel n S M) (h : cH V s H locs (LWs V S M O OD)) (hi : i + 3 ≤ LN) (hLN : LN ≤ 1536) (hl : lv_has ls 9 (lv0 V b i)) (hRf : 30 ≤ R.frames) (hRl : 1500 ≤ R.locals) (hc : cells + 24 ≤ R.cells) (hs : slots + 3000 ≤ R.slots)
    (kk : ∀ (S : kCs) (M : kMs) (O : Nat → Int64) (OD : Nat → UInt64) (H : Heap) (locs : List Loc) (ls : Array Slot) (cells1 slots1 : Nat), rel (n + 1) S M → cH V s H locs (LWs V S M O OD) → lv_has ls 9 (lv0 V b i) → cells1 ≤ cells + 24 → slots1 ≤ slots + 3000 → W p l e R s m args below meth c H locs cells1 slots1 Q (F0 m 2868 ls [])) : W p l e R s m args below meth c H locs cells slots Q (F0 m 1856 ls []) := by
  have hx := G.1
  have hcd := G.2.1
  obtain ⟨B, nx, sz, L0, L, ep, fp, s0, hd⟩ := hr
  obtain ⟨e1, hA, hg, hH, hSs, hLL, hTT, hEE, hXX⟩ := id hd
  obtain ⟨f0, hf0⟩ := hXX.2.2.1
  obtain ⟨g0, hg0⟩ := hXX.2.2.2.1
  obtain ⟨pp, hpp⟩ := hXX.2.2.2.2.1
  obtain ⟨cm, hcm⟩ := hXX.2.2.2.2.2.1
  obtain ⟨sg, hsg, hsg2⟩ := hLL.2.2.2
  have hx5 : nx < 60000 := by have := hH.2.2.1; omega
  have eS : setB S 0 B = S := rel_S hd
  replace h : cH V s H locs (LWs V (setB S 0 B) M O OD) := by rw [eS]; exact h
  refine lv_aload_n hx hcd dL_law_1856 rfl (lv_at hl 4 rfl) ?_
  refine fk_Vi (F := cWs V) (u0 := setB S 0 B) (As := []) (rest := []) (b := eX V 96) G hC hB hV h (met_X3_isActive l _ S B hA.1) mw_284 (show kV yX3_isActive cX3_isActive 1 (some .boolean) 0 from ⟨mw_285, mw_286, mw_56, mw_287, by decide, by decide, by decide +kernel⟩) ⟨rfl, rfl⟩ ⟨by show 0 + 1 ≤ R.frames; omega, by show 8 + (1 + 11) + 0 ≤ R.locals; omega⟩ (r_C hC h) rfl rfl hl.1 (Nat.le_of_ble_eq_true rfl) dL_law_1857 ⟨by omega, by omega⟩ (fun r u H locs hp h => ?_)
  replace h := cH_sw h
  refine lv_aload_n hx hcd dL_law_1860 rfl (lv_at hl 3 rfl) ?_
  refine fk_Vi (F := mWs V) (u0 := M) (As := []) (rest := [.int r]) (b := eX V 500) G hC hB hV h (met_X4_isActive l _ M B hg hA.1) mw_1742 (show kV yX4_isActive cX4_isActive 1 (some .boolean) 0 from ⟨mw_1743, mw_1744, mw_64, mw_1745, by decide, by decide, by decide +kernel⟩) ⟨rfl, rfl⟩ ⟨by show 0 + 1 ≤ R.frames; omega, by show 8 + (1 + 11) + 0 ≤ R.locals; omega⟩ (r_M hC h) rfl rfl hl.1 (Nat.le_of_ble_eq_true rfl) dL_law_1861 ⟨by omega, by omega⟩ (fun r2 u2 H locs hq h => ?_)
  obtain ⟨q1, q2⟩ := cd_isActive hd r u r2 u2 hp hq
  exact lv_icmp_eq (tgt := 2868) hx hcd dL_law_1864 (by decide) (fun _ => kk _ _ _ _ H locs ls _ _ q2 (cH_sw h) hl (by omega) (by omega)) (fun z => absurd q1 z)
set_option maxHeartbeats 4000000 in
set_option maxRecDepth 100000 in
theorem lc_29_sprintCount (hst : l.stackTraces = false) (hV : kOk V) (G : CallFix p m c cL_law 9 s args LW RL) (hC : cSt V s) (hB : eB V ≤ s.heap.size) (hX : va_X b LN xs s s.heap) (hbl : b < s.heap.size) (hbA : ¬ eA V b) (hn : n ≤ 600) (hr : rel n S M) (h : cH V s H locs (LWs V S M O OD)) (hi : i + 3 ≤ LN) (hLN : LN ≤ 1536) (hl : lv_has ls 9 (lv0 V b i)) (hRf : 30 ≤ R.frames) (hRl : 1500 ≤ R.locals) (hc : cells + 24 ≤ R.cells) (hs : slots + 3000 ≤ R.slots)
    (kk : ∀ (S : kCs) (M : kMs) (O : Nat → Int64) (OD : Nat → UInt64) (H : Heap) (locs : List Loc) (ls : Array Slot) (cells1 slots1 : Nat), rel (n + 1) S M → cH V s H locs (LWs V S M O OD) → lv_has ls 9 (lv0 V b i) → cells1 ≤ cells + 24 → slots1 ≤ slots + 3000 → W p l e R s m args below meth c H locs cells1 slots1 Q (F0 m 2868 ls [])) : W p l e R s m args below meth c H locs cells slots Q (F0 m 1869 ls []) := by
  have hx := G.1
  have hcd := G.2.1
  obtain ⟨B, nx, sz, L0, L, ep, fp, s0, hd⟩ := hr
  obtain ⟨e1, hA, hg, hH, hSs, hLL, hTT, hEE, hXX⟩ := id hd
  obtain ⟨f0, hf0⟩ := hXX.2.2.1
  obtain ⟨g0, hg0⟩ := hXX.2.2.2.1
  obtain ⟨pp, hpp⟩ := hXX.2.2.2.2.1
  obtain ⟨cm, hcm⟩ := hXX.2.2.2.2.2.1
  obtain ⟨sg, hsg, hsg2⟩ := hLL.2.2.2
  have hx5 : nx < 60000 := by have := hH.2.2.1; omega
  have eS : setB S 0 B = S := rel_S hd
  replace h : cH V s H locs (LWs V (setB S 0 B) M O OD) := by rw [eS]; exact h
  refine lv_aload_n hx hcd dL_law_1869 rfl (lv_at hl 4 rfl) ?_
  refine fk_Vi (F := cWs V) (u0 := setB S 0 B) (As := []) (rest := []) (b := eX V 96) G hC hB hV h (met_X3_sprintCount l _ S B hA.1) mw_288 (show kV yX3_sprintCount cX3_sprintCount 1 (some .int) 0 from ⟨mw_289, mw_290, mw_56, mw_291, by decide, by decide, by decide +kernel⟩) ⟨rfl, rfl⟩ ⟨by show 0 + 1 ≤ R.frames; omega, by show 8 + (1 + 11) + 0 ≤ R.locals; omega⟩ (r_C hC h) rfl rfl hl.1 (Nat.le_of_ble_eq_true rfl) dL_law_1870 ⟨by omega, by omega⟩ (fun r u H locs hp h => ?_)
  replace h := cH_sw h
  refine lv_aload_n hx hcd dL_law_1873 rfl (lv_at hl 3 rfl) ?_
  refine fk_Vi (F := mWs V) (u0 := M) (As := []) (rest := [.int r]) (b := eX V 500) G hC hB hV h (met_X4_sprintCount l _ M B hg hA.1) mw_1746 (show kV yX4_sprintCount cX4_sprintCount 1 (some .int) 0 from ⟨mw_1747, mw_1748, mw_64, mw_1749, by decide, by decide, by decide +kernel⟩) ⟨rfl, rfl⟩ ⟨by show 0 + 1 ≤ R.frames; omega, by show 8 + (1 + 11) + 0 ≤ R.locals; omega⟩ (r_M hC h) rfl rfl hl.1 (Nat.le_of_ble_eq_true rfl) dL_law_1874 ⟨by omega, by omega⟩ (fun r2 u2 H locs hq h => ?_)
  obtain ⟨q1, q2⟩ := cd_sprintCount hd r u r2 u2 hp hq
  exact lv_icmp_eq (tgt := 2868) hx hcd dL_law_1877 (by decide) (fun _ => kk _ _ _ _ H locs ls _ _ q2 (cH_sw h) hl (by omega) (by omega)) (fun z => absurd q1 z)
set_option maxHeartbeats 4000000 in
set_option maxRecDepth 100000 in
theorem lc_32_scope (hst : l.stackTraces = false) (hV : kOk V) (G : CallFix p m c cL_law 9 s args LW RL) (hC : cSt V s) (hB : eB V ≤ s.heap.size) (hX : va_X b LN xs s s.heap) (hbl : b < s.heap.size) (hbA : ¬ eA V b) (hn : n ≤ 600) (hr : rel n S M) (h : cH V s H locs (LWs V S M O OD)) (hi : i + 3 ≤ LN) (hLN : LN ≤ 1536) (hl : lv_has ls 9 (lv0 V b i)) (hRf : 30 ≤ R.frames) (hRl : 1500 ≤ R.locals) (hc : cells + 24 ≤ R.cells) (hs : slots + 3000 ≤ R.slots)
    (kk : ∀ (S : kCs) (M : kMs) (O : Nat → Int64) (OD : Nat → UInt64) (H : Heap) (locs : List Loc) (ls : Array Slot) (cells1 slots1 : Nat), rel (n + 1) S M → cH V s H locs (LWs V S M O OD) → lv_has ls 9 (lv0 V b i) → cells1 ≤ cells + 24 → slots1 ≤ slots + 3000 → W p l e R s m args below meth c H locs cells1 slots1 Q (F0 m 2868 ls [])) : W p l e R s m args below meth c H locs cells slots Q (F0 m 1989 ls []) := by
  have hx := G.1
  have hcd := G.2.1
  obtain ⟨B, nx, sz, L0, L, ep, fp, s0, hd⟩ := hr
  obtain ⟨e1, hA, hg, hH, hSs, hLL, hTT, hEE, hXX⟩ := id hd
  obtain ⟨f0, hf0⟩ := hXX.2.2.1
  obtain ⟨g0, hg0⟩ := hXX.2.2.2.1
  obtain ⟨pp, hpp⟩ := hXX.2.2.2.2.1
  obtain ⟨cm, hcm⟩ := hXX.2.2.2.2.2.1
  obtain ⟨sg, hsg, hsg2⟩ := hLL.2.2.2
  have hx5 : nx < 60000 := by have := hH.2.2.1; omega
  have eS : setB S 0 B = S := rel_S hd
  replace h : cH V s H locs (LWs V (setB S 0 B) M O OD) := by rw [eS]; exact h
  refine lv_aload_n hx hcd dL_law_1989 rfl (lv_at hl 4 rfl) ?_
  refine fk_Vi (F := cWs V) (u0 := setB S 0 B) (As := []) (rest := []) (b := eX V 96) G hC hB hV h (met_X3_scope l _ S B hA.1) mw_292 (show kV yX3_scope cX3_scope 1 (some .int) 0 from ⟨mw_293, mw_294, mw_56, mw_295, by decide, by decide, by decide +kernel⟩) ⟨rfl, rfl⟩ ⟨by show 3 + 1 ≤ R.frames; omega, by show 8 + (1 + 11) + 64 ≤ R.locals; omega⟩ (r_C hC h) rfl rfl hl.1 (Nat.le_of_ble_eq_true rfl) dL_law_1990 ⟨by omega, by omega⟩ (fun r u H locs hp h => ?_)
  replace h := cH_sw h
  refine lv_aload_n hx hcd dL_law_1993 rfl (lv_at hl 3 rfl) ?_
  refine fk_Vi (F := mWs V) (u0 := M) (As := []) (rest := [.int r]) (b := eX V 500) G hC hB hV h (met_X4_scope l _ M B hg hA.1) mw_1762 (show kV yX4_scope cX4_scope 1 (some .int) 0 from ⟨mw_1763, mw_1764, mw_64, mw_1765, by decide, by decide, by decide +kernel⟩) ⟨rfl, rfl⟩ ⟨by show 2 + 1 ≤ R.frames; omega, by show 8 + (1 + 11) + 45 ≤ R.locals; omega⟩ (r_M hC h) rfl rfl hl.1 (Nat.le_of_ble_eq_true rfl) dL_law_1994 ⟨by omega, by omega⟩ (fun r2 u2 H locs hq h => ?_)
  obtain ⟨q1, q2⟩ := cd_scope hd r u r2 u2 hp hq
  exact lv_icmp_eq (tgt := 2868) hx hcd dL_law_1997 (by decide) (fun _ => kk _ _ _ _ H locs ls _ _ q2 (cH_sw h) hl (by omega) (by omega)) (fun z => absurd q1 z)
set_option maxHeartbeats 4000000 in
set_option maxRecDepth 100000 in
theorem lc_33_left (hst : l.stackTraces = false) (hV : kOk V) (G : CallFix p m c cL_law 9 s args LW RL) (hC : cSt V s) (hB : eB V ≤ s.heap.size) (hX : va_X b LN xs s s.heap) (hbl : b < s.heap.size) (hbA : ¬ eA V b) (hn : n ≤ 600) (hr : rel n S M) (h : cH V s H locs (LWs V S M O OD)) (hi : i + 3 ≤ LN) (hLN : LN ≤ 1536) (hl : lv_has ls 9 (lv0 V b i)) (hRf : 30 ≤ R.frames) (hRl : 1500 ≤ R.locals) (hc : cells + 24 ≤ R.cells) (hs : slots + 3000 ≤ R.slots)
    (kk : ∀ (S : kCs) (M : kMs) (O : Nat → Int64) (OD : Nat → UInt64) (H : Heap) (locs : List Loc) (ls : Array Slot) (cells1 slots1 : Nat), rel (n + 1) S M → cH V s H locs (LWs V S M O OD) → lv_has ls 9 (lv0 V b i) → cells1 ≤ cells + 24 → slots1 ≤ slots + 3000 → W p l e R s m args below meth c H locs cells1 slots1 Q (F0 m 2868 ls [])) : W p l e R s m args below meth c H locs cells slots Q (F0 m 2002 ls []) := by
  have hx := G.1
  have hcd := G.2.1
  obtain ⟨B, nx, sz, L0, L, ep, fp, s0, hd⟩ := hr
  obtain ⟨e1, hA, hg, hH, hSs, hLL, hTT, hEE, hXX⟩ := id hd
  obtain ⟨f0, hf0⟩ := hXX.2.2.1
  obtain ⟨g0, hg0⟩ := hXX.2.2.2.1
  obtain ⟨pp, hpp⟩ := hXX.2.2.2.2.1
  obtain ⟨cm, hcm⟩ := hXX.2.2.2.2.2.1
  obtain ⟨sg, hsg, hsg2⟩ := hLL.2.2.2
  have hx5 : nx < 60000 := by have := hH.2.2.1; omega
  have eS : setB S 0 B = S := rel_S hd
  replace h : cH V s H locs (LWs V (setB S 0 B) M O OD) := by rw [eS]; exact h
  refine lv_aload_n hx hcd dL_law_2002 rfl (lv_at hl 4 rfl) ?_
  refine fk_Vi (F := cWs V) (u0 := setB S 0 B) (As := []) (rest := []) (b := eX V 96) G hC hB hV h (met_X3_left l _ S B hA.1) mw_307 (show kV yX3_left cX3_left 1 (some .int) 0 from ⟨mw_308, mw_309, mw_56, mw_310, by decide, by decide, by decide +kernel⟩) ⟨rfl, rfl⟩ ⟨by show 3 + 1 ≤ R.frames; omega, by show 8 + (1 + 11) + 64 ≤ R.locals; omega⟩ (r_C hC h) rfl rfl hl.1 (Nat.le_of_ble_eq_true rfl) dL_law_2003 ⟨by omega, by omega⟩ (fun r u H locs hp h => ?_)
  replace h := cH_sw h
  refine lv_aload_n hx hcd dL_law_2006 rfl (lv_at hl 3 rfl) ?_
  refine fk_Vi (F := mWs V) (u0 := M) (As := []) (rest := [.int r]) (b := eX V 500) G hC hB hV h (met_X4_left l _ M B hg hA.1) mw_1766 (show kV yX4_left cX4_left 1 (some .int) 0 from ⟨mw_1767, mw_1768, mw_64, mw_1769, by decide, by decide, by decide +kernel⟩) ⟨rfl, rfl⟩ ⟨by show 2 + 1 ≤ R.frames; omega, by show 8 + (1 + 11) + 45 ≤ R.locals; omega⟩ (r_M hC h) rfl rfl hl.1 (Nat.le_of_ble_eq_true rfl) dL_law_2007 ⟨by omega, by omega⟩ (fun r2 u2 H locs hq h => ?_)
  obtain ⟨q1, q2⟩ := cd_left hd r u r2 u2 hp hq
  exact lv_icmp_eq (tgt := 2868) hx hcd dL_law_2010 (by decide) (fun _ => kk _ _ _ _ H locs ls _ _ q2 (cH_sw h) hl (by omega) (by omega)) (fun z => absurd q1 z)
set_option maxHeartbeats 4000000 in
set_option maxRecDepth 100000 in
theorem lc_34_worked (hst : l.stackTraces = false) (hV : kOk V) (G : CallFix p m c cL_law 9 s args LW RL) (hC : cSt V s) (hB : eB V ≤ s.heap.size) (hX : va_X b LN xs s s.heap) (hbl : b < s.heap.size) (hbA : ¬ eA V b) (hn : n ≤ 600) (hr : rel n S M) (h : cH V s H locs (LWs V S M O OD)) (hi : i + 3 ≤ LN) (hLN : LN ≤ 1536) (hl : lv_has ls 9 (lv0 V b i)) (hRf : 30 ≤ R.frames) (hRl : 1500 ≤ R.locals) (hc : cells + 24 ≤ R.cells) (hs : slots + 3000 ≤ R.slots)
    (kk : ∀ (S : kCs) (M : kMs) (O : Nat → Int64) (OD : Nat → UInt64) (H : Heap) (locs : List Loc) (ls : Array Slot) (cells1 slots1 : Nat), rel (n + 1) S M → cH V s H locs (LWs V S M O OD) → lv_has ls 9 (lv0 V b i) → cells1 ≤ cells + 24 → slots1 ≤ slots + 3000 → W p l e R s m args below meth c H locs cells1 slots1 Q (F0 m 2868 ls [])) : W p l e R s m args below meth c H locs cells slots Q (F0 m 2015 ls []) := by
  have hx := G.1
  have hcd := G.2.1
  obtain ⟨B, nx, sz, L0, L, ep, fp, s0, hd⟩ := hr
  obtain ⟨e1, hA, hg, hH, hSs, hLL, hTT, hEE, hXX⟩ := id hd
  obtain ⟨f0, hf0⟩ := hXX.2.2.1
  obtain ⟨g0, hg0⟩ := hXX.2.2.2.1
  obtain ⟨pp, hpp⟩ := hXX.2.2.2.2.1
  obtain ⟨cm, hcm⟩ := hXX.2.2.2.2.2.1
  obtain ⟨sg, hsg, hsg2⟩ := hLL.2.2.2
  have hx5 : nx < 60000 := by have := hH.2.2.1; omega
  have eS : setB S 0 B = S := rel_S hd
  replace h : cH V s H locs (LWs V (setB S 0 B) M O OD) := by rw [eS]; exact h
  refine lv_aload_n hx hcd dL_law_2015 rfl (lv_at hl 4 rfl) ?_
  refine fk_Vi (F := cWs V) (u0 := setB S 0 B) (As := []) (rest := []) (b := eX V 96) G hC hB hV h (met_X3_worked l _ S B hA.1) mw_315 (show kV yX3_worked cX3_worked 1 (some .int) 0 from ⟨mw_316, mw_317, mw_56, mw_318, by decide, by decide, by decide +kernel⟩) ⟨rfl, rfl⟩ ⟨by show 2 + 1 ≤ R.frames; omega, by show 8 + (1 + 11) + 43 ≤ R.locals; omega⟩ (r_C hC h) rfl rfl hl.1 (Nat.le_of_ble_eq_true rfl) dL_law_2016 ⟨by omega, by omega⟩ (fun r u H locs hp h => ?_)
  replace h := cH_sw h
  refine lv_aload_n hx hcd dL_law_2019 rfl (lv_at hl 3 rfl) ?_
  refine fk_Vi (F := mWs V) (u0 := M) (As := []) (rest := [.int r]) (b := eX V 500) G hC hB hV h (met_X4_worked l _ M B hg hA.1) mw_1770 (show kV yX4_worked cX4_worked 1 (some .int) 0 from ⟨mw_1771, mw_1772, mw_64, mw_1773, by decide, by decide, by decide +kernel⟩) ⟨rfl, rfl⟩ ⟨by show 2 + 1 ≤ R.frames; omega, by show 8 + (1 + 11) + 45 ≤ R.locals; omega⟩ (r_M hC h) rfl rfl hl.1 (Nat.le_of_ble_eq_true rfl) dL_law_2020 ⟨by omega, by omega⟩ (fun r2 u2 H locs hq h => ?_)
  obtain ⟨q1, q2⟩ := cd_worked hd r u r2 u2 hp hq
  exact lv_icmp_eq (tgt := 2868) hx hcd dL_law_2023 (by decide) (fun _ => kk _ _ _ _ H locs ls _ _ q2 (cH_sw h) hl (by omega) (by omega)) (fun z => absurd q1 z)
set_option maxHeartbeats 4000000 in
set_option maxRecDepth 100000 in
theorem lc_43_writeBurnDown (hst : l.stackTraces = false) (hV : kOk V) (G : CallFix p m c cL_law 9 s args LW RL) (hC : cSt V s) (hB : eB V ≤ s.heap.size) (hX : va_X b LN xs s s.heap) (hbl : b < s.heap.size) (hbA : ¬ eA V b) (hn : n ≤ 600) (hr : rel n S M) (h : cH V s H locs (LWs V S M O OD)) (hi : i + 3 ≤ LN) (hLN : LN ≤ 1536) (hl : lv_has ls 9 (lv0 V b i)) (hRf : 30 ≤ R.frames) (hRl : 1500 ≤ R.locals) (hc : cells + 24 ≤ R.cells) (hs : slots + 3000 ≤ R.slots)
    (kk : ∀ (S : kCs) (M : kMs) (O : Nat → Int64) (OD : Nat → UInt64) (H : Heap) (locs : List Loc) (ls : Array Slot) (cells1 slots1 : Nat), rel (n + 1) S M → cH V s H locs (LWs V S M O OD) → lv_has ls 9 (lv0 V b i) → cells1 ≤ cells + 24 → slots1 ≤ slots + 3000 → W p l e R s m args below meth c H locs cells1 slots1 Q (F0 m 2868 ls [])) : W p l e R s m args below meth c H locs cells slots Q (F0 m 2495 ls []) := by
  have hx := G.1
  have hcd := G.2.1
  obtain ⟨B, nx, sz, L0, L, ep, fp, s0, hd⟩ := hr
  obtain ⟨e1, hA, hg, hH, hSs, hLL, hTT, hEE, hXX⟩ := id hd
  obtain ⟨f0, hf0⟩ := hXX.2.2.1
  obtain ⟨g0, hg0⟩ := hXX.2.2.2.1
  obtain ⟨pp, hpp⟩ := hXX.2.2.2.2.1
  obtain ⟨cm, hcm⟩ := hXX.2.2.2.2.2.1
  obtain ⟨sg, hsg, hsg2⟩ := hLL.2.2.2
  have hx5 : nx < 60000 := by have := hH.2.2.1; omega
  have eS : setB S 0 B = S := rel_S hd
  replace h : cH V s H locs (LWs V (setB S 0 B) M O OD) := by rw [eS]; exact h
  refine lv_aload_n hx hcd dL_law_2495 rfl (lv_at hl 4 rfl) ?_
  refine fk_Vi (F := cWs V) (u0 := setB S 0 B) (As := []) (rest := []) (b := eX V 96) G hC hB hV h (met_X3_writeBurnDown l _ S B hA.1 (frV_ok _ _ _) L0 hLL.1) mw_323 (show kV yX3_writeBurnDown cX3_writeBurnDown 2 (some .int) 0 from ⟨mw_324, mw_325, mw_56, mw_326, by decide, by decide, by decide +kernel⟩) ⟨rfl, rfl⟩ ⟨by show 6 + 1 ≤ R.frames; omega, by show 8 + (2 + 11) + 156 ≤ R.locals; omega⟩ (r_C hC h) rfl rfl hl.1 (Nat.le_of_ble_eq_true rfl) dL_law_2496 ⟨by omega, by omega⟩ (fun r u H locs hp h => ?_)
  replace h := cH_sw h
  refine lv_aload_n hx hcd dL_law_2499 rfl (lv_at hl 3 rfl) ?_
  refine fk_Vi (F := mWs V) (u0 := M) (As := []) (rest := [.int r]) (b := eX V 500) G hC hB hV h (met_X4_writeBurnDown l _ M B hg hA.1) mw_1822 (show kV yX4_writeBurnDown cX4_writeBurnDown 2 (some .int) 0 from ⟨mw_1823, mw_1824, mw_64, mw_1825, by decide, by decide, by decide +kernel⟩) ⟨rfl, rfl⟩ ⟨by show 4 + 1 ≤ R.frames; omega, by show 8 + (2 + 11) + 84 ≤ R.locals; omega⟩ (r_M hC h) rfl rfl hl.1 (Nat.le_of_ble_eq_true rfl) dL_law_2500 ⟨by omega, by omega⟩ (fun r2 u2 H locs hq h => ?_)
  obtain ⟨q1, q2⟩ := cd_writeBurnDown hd r u r2 u2 hp hq
  exact lv_icmp_eq (tgt := 2868) hx hcd dL_law_2503 (by decide) (fun _ => kk _ _ _ _ H locs ls _ _ q2 (cH_sw h) hl (by omega) (by omega)) (fun z => absurd q1 z)
set_option maxHeartbeats 4000000 in
set_option maxRecDepth 100000 in
theorem lc_45_isConsistent (hst : l.stackTraces = false) (hV : kOk V) (G : CallFix p m c cL_law 9 s args LW RL) (hC : cSt V s) (hB : eB V ≤ s.heap.size) (hX : va_X b LN xs s s.heap) (hbl : b < s.heap.size) (hbA : ¬ eA V b) (hn : n ≤ 600) (hr : rel n S M) (h : cH V s H locs (LWs V S M O OD)) (hi : i + 3 ≤ LN) (hLN : LN ≤ 1536) (hl : lv_has ls 9 (lv0 V b i)) (hRf : 30 ≤ R.frames) (hRl : 1500 ≤ R.locals) (hc : cells + 24 ≤ R.cells) (hs : slots + 3000 ≤ R.slots)
    (kk : ∀ (S : kCs) (M : kMs) (O : Nat → Int64) (OD : Nat → UInt64) (H : Heap) (locs : List Loc) (ls : Array Slot) (cells1 slots1 : Nat), rel (n + 1) S M → cH V s H locs (LWs V S M O OD) → lv_has ls 9 (lv0 V b i) → cells1 ≤ cells + 24 → slots1 ≤ slots + 3000 → W p l e R s m args below meth c H locs cells1 slots1 Q (F0 m 2868 ls [])) : W p l e R s m args below meth c H locs cells slots Q (F0 m 2564 ls []) := by
  have hx := G.1
  have hcd := G.2.1
  obtain ⟨B, nx, sz, L0, L, ep, fp, s0, hd⟩ := hr
  obtain ⟨e1, hA, hg, hH, hSs, hLL, hTT, hEE, hXX⟩ := id hd
  obtain ⟨f0, hf0⟩ := hXX.2.2.1
  obtain ⟨g0, hg0⟩ := hXX.2.2.2.1
  obtain ⟨pp, hpp⟩ := hXX.2.2.2.2.1
  obtain ⟨cm, hcm⟩ := hXX.2.2.2.2.2.1
  obtain ⟨sg, hsg, hsg2⟩ := hLL.2.2.2
  have hx5 : nx < 60000 := by have := hH.2.2.1; omega
  have eS : setB S 0 B = S := rel_S hd
  replace h : cH V s H locs (LWs V (setB S 0 B) M O OD) := by rw [eS]; exact h
  have hdec9 : Decidable (∀ k, k < B.2 0 → conK B k) := Classical.propDecidable _
  refine lv_aload_n hx hcd dL_law_2564 rfl (lv_at hl 4 rfl) ?_
  refine fk_Vi (F := cWs V) (u0 := setB S 0 B) (As := []) (rest := []) (b := eX V 96) G hC hB hV h (met_X3_isConsistent l _ S B hA.1 (hXX.1 1 (by decide)) hdec9) mw_702 (show kV yX3_isConsistent cX3_isConsistent 2 (some .boolean) 0 from ⟨mw_703, mw_704, mw_56, mw_705, by decide, by decide, by decide +kernel⟩) ⟨rfl, rfl⟩ ⟨by show 20 + 1 ≤ R.frames; omega, by show 8 + (2 + 11) + 522 ≤ R.locals; omega⟩ (r_C hC h) rfl rfl hl.1 (Nat.le_of_ble_eq_true rfl) dL_law_2565 ⟨by omega, by omega⟩ (fun r u H locs hp h => ?_)
  replace h := cH_sw h
  refine lv_aload_n hx hcd dL_law_2568 rfl (lv_at hl 3 rfl) ?_
  refine fk_Vi (F := mWs V) (u0 := M) (As := []) (rest := [.int r]) (b := eX V 500) G hC hB hV h (met_X4_isConsistent l _ M B hg hA.1) mw_1830 (show kV yX4_isConsistent cX4_isConsistent 2 (some .boolean) 0 from ⟨mw_1831, mw_1832, mw_64, mw_1833, by decide, by decide, by decide +kernel⟩) ⟨rfl, rfl⟩ ⟨by show 3 + 1 ≤ R.frames; omega, by show 8 + (2 + 11) + 68 ≤ R.locals; omega⟩ (r_M hC h) rfl rfl hl.1 (Nat.le_of_ble_eq_true rfl) dL_law_2569 ⟨by omega, by omega⟩ (fun r2 u2 H locs hq h => ?_)
  obtain ⟨q1, q2⟩ := cd_isConsistent hd hdec9 r u r2 u2 hp hq
  exact lv_icmp_eq (tgt := 2868) hx hcd dL_law_2572 (by decide) (fun _ => kk _ _ _ _ H locs ls _ _ q2 (cH_sw h) hl (by omega) (by omega)) (fun z => absurd q1 z)
set_option maxHeartbeats 4000000 in
set_option maxRecDepth 100000 in
theorem lc_51_save (hst : l.stackTraces = false) (hV : kOk V) (G : CallFix p m c cL_law 9 s args LW RL) (hC : cSt V s) (hB : eB V ≤ s.heap.size) (hX : va_X b LN xs s s.heap) (hbl : b < s.heap.size) (hbA : ¬ eA V b) (hn : n ≤ 600) (hr : rel n S M) (h : cH V s H locs (LWs V S M O OD)) (hi : i + 3 ≤ LN) (hLN : LN ≤ 1536) (hl : lv_has ls 9 (lv0 V b i)) (hRf : 30 ≤ R.frames) (hRl : 1500 ≤ R.locals) (hc : cells + 24 ≤ R.cells) (hs : slots + 3000 ≤ R.slots)
    (kk : ∀ (S : kCs) (M : kMs) (O : Nat → Int64) (OD : Nat → UInt64) (H : Heap) (locs : List Loc) (ls : Array Slot) (cells1 slots1 : Nat), rel (n + 1) S M → cH V s H locs (LWs V S M O OD) → lv_has ls 9 (lv0 V b i) → cells1 ≤ cells + 24 → slots1 ≤ slots + 3000 → W p l e R s m args below meth c H locs cells1 slots1 Q (F0 m 2868 ls [])) : W p l e R s m args below meth c H locs cells slots Q (F0 m 2811 ls []) := by
  have hx := G.1
  have hcd := G.2.1
  obtain ⟨B, nx, sz, L0, L, ep, fp, s0, hd⟩ := hr
  obtain ⟨e1, hA, hg, hH, hSs, hLL, hTT, hEE, hXX⟩ := id hd
  obtain ⟨f0, hf0⟩ := hXX.2.2.1
  obtain ⟨g0, hg0⟩ := hXX.2.2.2.1
  obtain ⟨pp, hpp⟩ := hXX.2.2.2.2.1
  obtain ⟨cm, hcm⟩ := hXX.2.2.2.2.2.1
  obtain ⟨sg, hsg, hsg2⟩ := hLL.2.2.2
  have hx5 : nx < 60000 := by have := hH.2.2.1; omega
  have eS : setB S 0 B = S := rel_S hd
  replace h : cH V s H locs (LWs V (setB S 0 B) M O OD) := by rw [eS]; exact h
  refine lv_aload_n hx hcd dL_law_2811 rfl (lv_at hl 4 rfl) ?_
  refine fk_Vi (F := cWs V) (u0 := setB S 0 B) (As := []) (rest := []) (b := eX V 96) G hC hB hV h (met_X3_save l _ S B hA.1 (hXX.1 3 (by decide))) mw_775 (show kV yX3_save cX3_save 1 (some .int) 0 from ⟨mw_776, mw_777, mw_56, mw_778, by decide, by decide, by decide +kernel⟩) ⟨rfl, rfl⟩ ⟨by show 2 + 1 ≤ R.frames; omega, by show 8 + (1 + 11) + 43 ≤ R.locals; omega⟩ (r_C hC h) rfl rfl hl.1 (Nat.le_of_ble_eq_true rfl) dL_law_2812 ⟨by omega, by omega⟩ (fun r u H locs hp h => ?_)
  replace h := cH_sw h
  refine lv_aload_n hx hcd dL_law_2815 rfl (lv_at hl 3 rfl) ?_
  refine fk_Vi (F := mWs V) (u0 := M) (As := []) (rest := [.int r]) (b := eX V 500) G hC hB hV h (met_X4_save l _ M B hg hA.1) mw_1919 (show kV yX4_save cX4_save 1 (some .int) 0 from ⟨mw_1920, mw_1921, mw_64, mw_1922, by decide, by decide, by decide +kernel⟩) ⟨rfl, rfl⟩ ⟨by show 1 + 1 ≤ R.frames; omega, by show 8 + (1 + 11) + 24 ≤ R.locals; omega⟩ (r_M hC h) rfl rfl hl.1 (Nat.le_of_ble_eq_true rfl) dL_law_2816 ⟨by omega, by omega⟩ (fun r2 u2 H locs hq h => ?_)
  obtain ⟨q1, q2⟩ := cd_save hd r u r2 u2 hp hq
  exact lv_icmp_eq (tgt := 2868) hx hcd dL_law_2819 (by decide) (fun _ => kk _ _ _ _ H locs ls _ _ q2 (cH_sw h) hl (by omega) (by omega)) (fun z => absurd q1 z)
end LC
