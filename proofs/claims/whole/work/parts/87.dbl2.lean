/-! THE LAW: its two cases with a double. -/
section LD
variable {p : Program} {l : Launch} {e : Env} {R : Room} {s : State} {m : MethodId} {args : Array Value} {below : List Frame} {meth : Method} {c : Code} {H : Heap} {locs : List Loc} {cells slots : Nat} {Q : State → Prop}
variable {ls : Array Slot} {V : kEnv} {S : kCs} {M : kMs} {O : Nat → Int64} {OD : Nat → UInt64} {n b LN i : Nat} {xs : Nat → Int32}
set_option maxHeartbeats 4000000 in
set_option maxRecDepth 100000 in
theorem lc_37_idealBurnDown (hst : l.stackTraces = false) (hV : kOk V) (G : CallFix p m c cL_law 9 s args LW RL) (hC : cSt V s) (hB : eB V ≤ s.heap.size) (hX : va_X b LN xs s s.heap) (hbl : b < s.heap.size) (hbA : ¬ eA V b) (hn : n ≤ 600) (hr : rel n S M) (h : cH V s H locs (LWs V S M O OD)) (hi : i + 3 ≤ LN) (hLN : LN ≤ 1536) (hl : lv_has ls 9 (lv0 V b i)) (hRf : 30 ≤ R.frames) (hRl : 1500 ≤ R.locals) (hc : cells + 24 ≤ R.cells) (hs : slots + 3000 ≤ R.slots)
    (kk : ∀ (S : kCs) (M : kMs) (O : Nat → Int64) (OD : Nat → UInt64) (H : Heap) (locs : List Loc) (ls : Array Slot) (cells1 slots1 : Nat), rel (n + 1) S M → cH V s H locs (LWs V S M O OD) → lv_has ls 9 (lv0 V b i) → cells1 ≤ cells + 24 → slots1 ≤ slots + 3000 → W p l e R s m args below meth c H locs cells1 slots1 Q (F0 m 2868 ls [])) : W p l e R s m args below meth c H locs cells slots Q (F0 m 2128 ls []) := by
  have hx := G.1
  have hcd := G.2.1
  obtain ⟨B, nx, sz, L0, L, ep, fp, s0, hd⟩ := hr
  obtain ⟨e1, hA, hg, hH, hSs, hLL, hTT, hEE, hXX⟩ := id hd
  obtain ⟨f0, hf0⟩ := hXX.2.2.1
  obtain ⟨g0, hg0⟩ := hXX.2.2.2.1
  obtain ⟨pp, hpp⟩ := hXX.2.2.2.2.1
  obtain ⟨cm, hcm⟩ := hXX.2.2.2.2.2.1
  obtain ⟨sg, hsg, hsg2⟩ := hLL.2.2.2
  have hx5 : nx < 60000 := by have := hH.2.2.1; omega
  have eS : setB S 0 B = S := rel_S hd
  replace h : cH V s H locs (LWs V (setB S 0 B) M O OD) := by rw [eS]; exact h
  refine lv_aload_n hx hcd dL_law_2128 rfl (lv_at hl 4 rfl) ?_
  refine lv_aload_n hx hcd dL_law_2129 rfl (lv_at hl 5 rfl) ?_
  refine lv_iload hx hcd dL_law_2130 (lv_at hl 0 rfl) ?_
  refine lv_iconst (v := nI 1) hx hcd dL_law_2132 (by decide) ?_
  refine w_iadd (v := nI (i + 1)) hx hcd dL_law_2133 (nI_add _ _) ?_
  refine va_sld hx hcd hX hbl hbA h.2.2 (vp_in_nI (n := i + 1) (by omega) (by omega)) dL_law_2134 ?_
  refine lv_aload hx hcd dL_law_2135 (lv_at hl 1 rfl) ?_
  replace h := cH_d h
  have hcs := cs_idealBurnDown (x := (xs (nI (i + 1)).toNatClampNeg)) hd
  have hnan : ∀ (r : UInt32) (u : kCs), ((fun r u => ∃ (k : Nat), (((decide (B.2 3 ≠ 0) && decide (0 < B.2 4)) && decide (0 ≤ (xs (nI (i + 1)).toNatClampNeg).toInt ∧ (xs (nI (i + 1)).toNatClampNeg).toInt ≤ (B.2 4 : Nat)))) = true ∧ (xs (nI (i + 1)).toNatClampNeg) = nI k ∧ k ≤ B.2 4 ∧ r = fI (B.1 5 0) (B.2 4 - k) (B.2 4) ∧ u = setB S 0 B) r u) → vf_n64 (FP.f2d r) := by
    rintro r u ⟨k, hc0, -, hk, rfl, -⟩
    simp only [Bool.and_eq_true, decide_eq_true_eq] at hc0
    exact fok_2 (fI_ok (hA.1.2.2.2.2.2.2.2.2.2.2.2.2 0) (Nat.sub_le _ _) hc0.1.2 hA.1.2.2.2.2.2.2.1)
  refine lw_S (F := ldF V) (u0 := (setB S 0 B, OD)) (As := [.ref (eX V 96), .int (xs (nI (i + 1)).toNatClampNeg), .ref (eX V 601)]) (rest := []) G hC hB hV h (met_L_idealBurnDown l _ (frV_ok _ _ _) (setB S 0 B) OD (xs (nI (i + 1)).toNatClampNeg) (fun ws n => met_X3_idealBurnDown l hst _ S B hA.1 (xs (nI (i + 1)).toNatClampNeg)) (fun E u hp => hp.1) hnan) mw_1238 (show kSw yL_idealBurnDown cL_idealBurnDown 4 [(0, 9, 12, 66)] 3 from ⟨mw_1239, mw_55, mw_1240, by decide, by decide, by decide +kernel⟩) ⟨rfl, rfl⟩ ⟨by show 8 + 1 ≤ R.frames; omega, by show 8 + (4 + 11) + 131 ≤ R.locals; omega⟩ rfl rfl hl.1 (Nat.le_of_ble_eq_true rfl) dL_law_2137 ⟨by omega, by omega⟩ (fun k u H locs hp h => ?_)
  refine lv_istore (lv' := [(6, .int k), (5, .int (nI i)), (4, .ref (eX V 601)), (3, .ref (eX V 600)), (2, .ref (eX V 500)), (1, .ref (eX V 96)), (0, .ref b)]) hx hcd dL_law_2140 hl (by decide) rfl (fun ls hl => ?_)
  replace h := cH_e h
  refine lv_aload_n hx hcd dL_law_2142 rfl (lv_at hl 4 rfl) ?_
  refine lv_aload_n hx hcd dL_law_2143 rfl (lv_at hl 6 rfl) ?_
  refine lv_iload hx hcd dL_law_2144 (lv_at hl 1 rfl) ?_
  refine lv_iconst (v := nI 1) hx hcd dL_law_2146 (by decide) ?_
  refine w_iadd (v := nI (i + 1)) hx hcd dL_law_2147 (nI_add _ _) ?_
  refine va_sld hx hcd hX hbl hbA h.2.2 (vp_in_nI (n := i + 1) (by omega) (by omega)) dL_law_2148 ?_
  refine fk_Vf (F := mWs V) (u0 := M) (As := [.int (xs (nI (i + 1)).toNatClampNeg)]) (rest := []) (b := eX V 500) G hC hB hV h (met_X4_idealBurnDown l _ M B hg hA.1 hA.2.2.2.2.2.2.2.1 (xs (nI (i + 1)).toNatClampNeg)) mw_1782 (show kV yX4_idealBurnDown cX4_idealBurnDown 2 (some .float) 1 from ⟨mw_1783, mw_1784, mw_64, mw_1785, by decide, by decide, by decide +kernel⟩) ⟨rfl, rfl⟩ ⟨by show 1 + 1 ≤ R.frames; omega, by show 8 + (2 + 11) + 22 ≤ R.locals; omega⟩ (r_M hC h) rfl rfl hl.1 (Nat.le_of_ble_eq_true rfl) dL_law_2149 ⟨by omega, by omega⟩ (fun r2 u2 H locs hq h => ?_)
  refine lv_fstore (lv' := [(7, .float r2), (6, .int k), (5, .int (nI i)), (4, .ref (eX V 601)), (3, .ref (eX V 600)), (2, .ref (eX V 500)), (1, .ref (eX V 96)), (0, .ref b)]) hx hcd dL_law_2152 hl (by decide) rfl (fun ls hl => ?_)
  have key : u2.1 3 = k ∧ (k = nI 0 → u.2 0 = FP.f2d r2 ∧ vf_n64 (FP.f2d r2)) ∧ rel (n + 1) u.1 u2 := by
    rcases hp with ⟨hk0, r, hp1, hu⟩ | ⟨hk0, hp1⟩
    · obtain ⟨q1, q2, q3⟩ := hcs.1 _ _ _ _ hp1 hq
      have hnn := hnan r u.1 hp1
      rw [q2] at hu hnn
      exact ⟨q1.trans hk0.symm, fun _ => ⟨by rw [hu]; rfl, hnn⟩, q3⟩
    · have q := hcs.2 _ _ _ _ hp1 hq
      exact ⟨q.2.1.trans hk0.symm, fun z => absurd (hk0.symm.trans z) (by decide), q.2.2⟩
  obtain ⟨k1, k2, k3⟩ := key
  replace h : cH V s H locs (mWs V u2 ++ (cWs V u.1 ++ (oC V O ++ dC V u.2))) := h
  refine lv_aload_n hx hcd dL_law_2154 rfl (lv_at hl 5 rfl) ?_
  refine fk_Vi (F := mWs V) (u0 := u2) (As := []) (rest := []) (b := eX V 500) G hC hB hV h (met_X4_thrown l _ u2) mw_1531 kv_thrown ⟨rfl, rfl⟩ ⟨by show 0 + 1 ≤ R.frames; omega, by show 8 + (1 + 11) + 0 ≤ R.locals; omega⟩ (r_M hC h) rfl rfl hl.1 (Nat.le_of_ble_eq_true rfl) dL_law_2155 ⟨by omega, by omega⟩ (fun r3 u3 H locs hp3 h => ?_)
  obtain ⟨hr1, hu1⟩ := hp3
  rw [hu1] at h
  rw [hr1, k1]
  refine lv_iload hx hcd dL_law_2158 (lv_at hl 1 rfl) ?_
  refine lv_icmp_eq (tgt := 2165) hx hcd dL_law_2160 (by decide) (fun _ => ?_) (fun z => absurd rfl z)
  have hb := cH_bk h
  have fin : ∀ (H' : Heap) (locs' : List Loc) (c1 s1 : Nat), c1 ≤ cells + 24 → s1 ≤ slots + 3000 → cH V s H' locs' (LWs V u.1 u2 O u.2) → W p l e R s m args below meth c H' locs' c1 s1 Q (F0 m 2203 ls []) := fun H' locs' c1 s1 hc1 hs1 h' =>
    lv_goto (tgt := 2868) hx hcd dL_law_2203 (by decide) (kk _ _ _ _ H' locs' ls _ _ k3 h' (lv_sub hl [2, 3, 4, 5, 6, 7] rfl) hc1 hs1)
  refine lv_iload hx hcd dL_law_2165 (lv_at hl 1 rfl) ?_
  refine lv_if_ne (tgt := 2203) hx hcd dL_law_2167 (by decide) (fun _ => fin _ _ _ _ (by omega) (by omega) hb) (fun z => ?_)
  obtain ⟨k4, k5⟩ := k2 z
  refine lv_aload hx hcd dL_law_2170 (lv_at hl 3 rfl) ?_
  refine lv_iconst (v := nI 0) hx hcd dL_law_2172 (by decide) ?_
  refine va_dald (D := eD V) (cl := vwCl) (tys := eT V) hx hcd hC.1 (cH_od hb).1 0 5 rfl rfl (vp_in_nI (n := 0) (by decide) (by decide)) dL_law_2173 ?_
  rw [show (nI 0).toNatClampNeg = 0 from nI_clamp (by decide), k4]
  refine lv_fload hx hcd dL_law_2174 (lv_at hl 0 rfl) ?_
  refine lv_f2d hx hcd dL_law_2176 k5 ?_
  refine lv_dcmp hx hcd dL_law_2177 ?_
  rw [dcmp_s k5]
  exact lv_if_eq (tgt := 2203) hx hcd dL_law_2178 (by decide) (fun _ => fin _ _ _ _ (by omega) (by omega) hb) (fun z => absurd rfl z)
set_option maxHeartbeats 4000000 in
set_option maxRecDepth 100000 in
theorem lc_39_meanVelocity (hst : l.stackTraces = false) (hV : kOk V) (G : CallFix p m c cL_law 9 s args LW RL) (hC : cSt V s) (hB : eB V ≤ s.heap.size) (hX : va_X b LN xs s s.heap) (hbl : b < s.heap.size) (hbA : ¬ eA V b) (hn : n ≤ 600) (hr : rel n S M) (h : cH V s H locs (LWs V S M O OD)) (hi : i + 3 ≤ LN) (hLN : LN ≤ 1536) (hl : lv_has ls 9 (lv0 V b i)) (hRf : 30 ≤ R.frames) (hRl : 1500 ≤ R.locals) (hc : cells + 24 ≤ R.cells) (hs : slots + 3000 ≤ R.slots)
    (kk : ∀ (S : kCs) (M : kMs) (O : Nat → Int64) (OD : Nat → UInt64) (H : Heap) (locs : List Loc) (ls : Array Slot) (cells1 slots1 : Nat), rel (n + 1) S M → cH V s H locs (LWs V S M O OD) → lv_has ls 9 (lv0 V b i) → cells1 ≤ cells + 24 → slots1 ≤ slots + 3000 → W p l e R s m args below meth c H locs cells1 slots1 Q (F0 m 2868 ls [])) : W p l e R s m args below meth c H locs cells slots Q (F0 m 2262 ls []) := by
  have hx := G.1
  have hcd := G.2.1
  obtain ⟨B, nx, sz, L0, L, ep, fp, s0, hd⟩ := hr
  obtain ⟨e1, hA, hg, hH, hSs, hLL, hTT, hEE, hXX⟩ := id hd
  obtain ⟨f0, hf0⟩ := hXX.2.2.1
  obtain ⟨g0, hg0⟩ := hXX.2.2.2.1
  obtain ⟨pp, hpp⟩ := hXX.2.2.2.2.1
  obtain ⟨cm, hcm⟩ := hXX.2.2.2.2.2.1
  obtain ⟨sg, hsg, hsg2⟩ := hLL.2.2.2
  have hx5 : nx < 60000 := by have := hH.2.2.1; omega
  have eS : setB S 0 B = S := rel_S hd
  replace h : cH V s H locs (LWs V (setB S 0 B) M O OD) := by rw [eS]; exact h
  refine lv_aload_n hx hcd dL_law_2262 rfl (lv_at hl 4 rfl) ?_
  refine lv_aload hx hcd dL_law_2263 (lv_at hl 1 rfl) ?_
  replace h := cH_d h
  have hcs := cs_meanVelocity hd
  refine lw_S (F := ldF V) (u0 := (setB S 0 B, OD)) (As := [.ref (eX V 96), .ref (eX V 601)]) (rest := []) G hC hB hV h (met_L_meanVelocity l _ (frV_ok _ _ _) (setB S 0 B) OD  (fun ws n => met_X3_meanVelocity l hst _ S B hA.1 hA.2.2.2.2.2.2.1) (fun E u hp => hp.1)) mw_1260 (show kSw yL_meanVelocity cL_meanVelocity 3 [(0, 7, 10, 125)] 2 from ⟨mw_1261, mw_55, mw_1262, by decide, by decide, by decide +kernel⟩) ⟨rfl, rfl⟩ ⟨by show 7 + 1 ≤ R.frames; omega, by show 8 + (3 + 11) + 110 ≤ R.locals; omega⟩ rfl rfl hl.1 (Nat.le_of_ble_eq_true rfl) dL_law_2265 ⟨by omega, by omega⟩ (fun k u H locs hp h => ?_)
  refine lv_istore (lv' := [(6, .int k), (5, .int (nI i)), (4, .ref (eX V 601)), (3, .ref (eX V 600)), (2, .ref (eX V 500)), (1, .ref (eX V 96)), (0, .ref b)]) hx hcd dL_law_2268 hl (by decide) rfl (fun ls hl => ?_)
  replace h := cH_e h
  refine lv_aload_n hx hcd dL_law_2270 rfl (lv_at hl 4 rfl) ?_
  refine fk_Vd (F := mWs V) (u0 := M) (As := []) (rest := []) (b := eX V 500) G hC hB hV h (met_X4_meanVelocity l _ M B hg hA.1 hA.2.2.2.2.2.2.1) mw_1790 (show kV yX4_meanVelocity cX4_meanVelocity 3 (some .double) 0 from ⟨mw_1791, mw_1792, mw_64, mw_1793, by decide, by decide, by decide +kernel⟩) ⟨rfl, rfl⟩ ⟨by show 1 + 1 ≤ R.frames; omega, by show 8 + (3 + 11) + 21 ≤ R.locals; omega⟩ (r_M hC h) rfl rfl hl.1 (Nat.le_of_ble_eq_true rfl) dL_law_2271 ⟨by omega, by omega⟩ (fun r2 u2 H locs hq h => ?_)
  refine lv_dstore (lv' := [(7, .double r2), (6, .int k), (5, .int (nI i)), (4, .ref (eX V 601)), (3, .ref (eX V 600)), (2, .ref (eX V 500)), (1, .ref (eX V 96)), (0, .ref b)]) hx hcd dL_law_2274 hl (by decide) rfl (fun ls hl => ?_)
  have key : u2.1 3 = k ∧ (k = nI 0 → u.2 0 = r2 ∧ vf_n64 (r2)) ∧ rel (n + 1) u.1 u2 := by
    rcases hp with ⟨hk0, r, hp1, hu⟩ | ⟨hk0, hp1⟩
    · obtain ⟨q1, q2, q3⟩ := hcs.1 _ _ _ _ hp1 hq
      have hnn : vf_n64 r := by
        obtain ⟨a1, a2, -⟩ := hp1
        rw [a2]
        exact dM_ok (vsum_le hA.2.2.2.2.2.2.1) a1 hA.1.2.2.2.2.2.2.2.1
      rw [q2] at hu hnn
      exact ⟨q1.trans hk0.symm, fun _ => ⟨by rw [hu]; rfl, hnn⟩, q3⟩
    · have q := hcs.2 _ _ _ _ hp1 hq
      exact ⟨q.2.1.trans hk0.symm, fun z => absurd (hk0.symm.trans z) (by decide), q.2.2⟩
  obtain ⟨k1, k2, k3⟩ := key
  replace h : cH V s H locs (mWs V u2 ++ (cWs V u.1 ++ (oC V O ++ dC V u.2))) := h
  refine lv_aload_n hx hcd dL_law_2276 rfl (lv_at hl 5 rfl) ?_
  refine fk_Vi (F := mWs V) (u0 := u2) (As := []) (rest := []) (b := eX V 500) G hC hB hV h (met_X4_thrown l _ u2) mw_1531 kv_thrown ⟨rfl, rfl⟩ ⟨by show 0 + 1 ≤ R.frames; omega, by show 8 + (1 + 11) + 0 ≤ R.locals; omega⟩ (r_M hC h) rfl rfl hl.1 (Nat.le_of_ble_eq_true rfl) dL_law_2277 ⟨by omega, by omega⟩ (fun r3 u3 H locs hp3 h => ?_)
  obtain ⟨hr1, hu1⟩ := hp3
  rw [hu1] at h
  rw [hr1, k1]
  refine lv_iload hx hcd dL_law_2280 (lv_at hl 1 rfl) ?_
  refine lv_icmp_eq (tgt := 2287) hx hcd dL_law_2282 (by decide) (fun _ => ?_) (fun z => absurd rfl z)
  have hb := cH_bk h
  have fin : ∀ (H' : Heap) (locs' : List Loc) (c1 s1 : Nat), c1 ≤ cells + 24 → s1 ≤ slots + 3000 → cH V s H' locs' (LWs V u.1 u2 O u.2) → W p l e R s m args below meth c H' locs' c1 s1 Q (F0 m 2324 ls []) := fun H' locs' c1 s1 hc1 hs1 h' =>
    lv_goto (tgt := 2868) hx hcd dL_law_2324 (by decide) (kk _ _ _ _ H' locs' ls _ _ k3 h' (lv_sub hl [2, 3, 4, 5, 6, 7] rfl) hc1 hs1)
  refine lv_iload hx hcd dL_law_2287 (lv_at hl 1 rfl) ?_
  refine lv_if_ne (tgt := 2324) hx hcd dL_law_2289 (by decide) (fun _ => fin _ _ _ _ (by omega) (by omega) hb) (fun z => ?_)
  obtain ⟨k4, k5⟩ := k2 z
  refine lv_aload hx hcd dL_law_2292 (lv_at hl 3 rfl) ?_
  refine lv_iconst (v := nI 0) hx hcd dL_law_2294 (by decide) ?_
  refine va_dald (D := eD V) (cl := vwCl) (tys := eT V) hx hcd hC.1 (cH_od hb).1 0 5 rfl rfl (vp_in_nI (n := 0) (by decide) (by decide)) dL_law_2295 ?_
  rw [show (nI 0).toNatClampNeg = 0 from nI_clamp (by decide), k4]
  refine lv_dload hx hcd dL_law_2296 (lv_at hl 0 rfl) ?_
  refine lv_dcmp hx hcd dL_law_2298 ?_
  rw [dcmp_s k5]
  exact lv_if_eq (tgt := 2324) hx hcd dL_law_2299 (by decide) (fun _ => fin _ _ _ _ (by omega) (by omega) hb) (fun z => absurd rfl z)
end LD
