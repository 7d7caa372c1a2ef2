/-! THE LAW: its loop. -/
theorem ln_3 {LN : Nat} (h : LN ≤ 1536) : (nI LN - nI 3).toInt = (LN : Int) - 3 := by
  rcases Nat.lt_or_ge LN 3 with c | c
  · match LN, c with
    | 0, _ => decide
    | 1, _ => decide
    | 2, _ => decide
  · rw [pk_sub c, tN (by omega)]; omega
theorem and_63 (x : Int32) : ∃ w, w < 64 ∧ x &&& nI 63 = nI w := by
  have h1 : (x &&& nI 63).toBitVec.toNat ≤ 63 := by
    rw [Int32.toBitVec_and, BitVec.toNat_and]
    exact Nat.and_le_right
  have h2 : (x &&& nI 63).toInt = ((x &&& nI 63).toBitVec.toNat : Int) := BitVec.toInt_eq_toNat_of_lt (by omega)
  exact ⟨_, by omega, of_toInt h2 (by omega)⟩
section LP
variable {p : Program} {l : Launch} {e : Env} {R : Room} {s : State} {m : MethodId} {args : Array Value} {below : List Frame} {meth : Method} {c : Code} {Q : State → Prop}
variable {V : kEnv} {b LN : Nat} {xs : Nat → Int32} {c0 d0 : Nat}
set_option maxHeartbeats 4000000 in
set_option maxRecDepth 100000 in
theorem law_loop (hst : l.stackTraces = false) (hV : kOk V) (G : CallFix p m c cL_law 9 s args LW RL) (hC : cSt V s) (hB : eB V ≤ s.heap.size) (hX : va_X b LN xs s s.heap) (hbl : b < s.heap.size) (hbA : ¬ eA V b) (hLN : LN ≤ 1536) (hRf : 30 ≤ R.frames) (hRl : 1500 ≤ R.locals) (hRc : c0 + 24 * 520 ≤ R.cells) (hRs : d0 + 3000 * 520 ≤ R.slots)
    (kf : ∀ (H : Heap) (locs : List Loc) (ls : Array Slot) (cells slots : Nat), va_S (eA V) s.heap H locs → cells ≤ c0 + 24 * 513 → slots ≤ d0 + 3000 * 513 → W p l e R s m args below meth c H locs cells slots Q (F0 m 2874 ls [])) :
    ∀ (f n : Nat), 513 ≤ n + f → n ≤ 512 → ∀ (S : kCs) (M : kMs) (O : Nat → Int64) (OD : Nat → UInt64) (H : Heap) (locs : List Loc) (ls : Array Slot) (cells slots : Nat), rel n S M → cH V s H locs (LWs V S M O OD) → lv_has ls 9 (lv0 V b (3 * n)) → cells ≤ c0 + 24 * n → slots ≤ d0 + 3000 * n → W p l e R s m args below meth c H locs cells slots Q (F0 m 28 ls []) := by
  have hx := G.1
  have hcd := G.2.1
  intro f
  induction f with
  | zero => intro n h1 h2; exact absurd h1 (by omega)
  | succ f ih =>
    intro n h1 h2 S M O OD H locs ls cells slots hr h hl hc hs
    refine lv_iload hx hcd dL_law_28 (lv_at hl 0 rfl) ?_
    refine lv_aload_n hx hcd dL_law_30 rfl (lv_at hl 5 rfl) ?_
    refine va_slen hx hcd hX hbl hbA h.2.2 dL_law_31 ?_
    refine lv_iconst (v := nI 3) hx hcd dL_law_32 (by decide) ?_
    refine w_isub (v := nI LN - nI 3) hx hcd dL_law_33 rfl ?_
    refine lv_icmp_gt (tgt := 2874) hx hcd dL_law_34 (by decide) (fun _ => kf H locs ls cells slots h.2.2 (by omega) (by omega)) (fun z => ?_)
    have z2 := cNlt (ln_3 hLN) (tN (n := 3 * n) (by omega)) z
    have hi : 3 * n + 3 ≤ LN := by omega
    refine lv_aload_n hx hcd dL_law_37 rfl (lv_at hl 5 rfl) ?_
    refine lv_iload hx hcd dL_law_38 (lv_at hl 0 rfl) ?_
    refine va_sld hx hcd hX hbl hbA h.2.2 (vp_in_nI (n := 3 * n) (by omega) (by omega)) dL_law_40 ?_
    refine lv_bipush (v := nI 63) hx hcd dL_law_41 (by decide) ?_
    obtain ⟨w, hw, ew⟩ := and_63 (xs (nI (3 * n)).toNatClampNeg)
    refine w_iand (v := nI w) hx hcd dL_law_43 ew ?_
    have kk : ∀ (S : kCs) (M : kMs) (O : Nat → Int64) (OD : Nat → UInt64) (H : Heap) (locs : List Loc) (ls : Array Slot) (cells1 slots1 : Nat), rel (n + 1) S M → cH V s H locs (LWs V S M O OD) → lv_has ls 9 (lv0 V b (3 * n)) → cells1 ≤ cells + 24 → slots1 ≤ slots + 3000 → W p l e R s m args below meth c H locs cells1 slots1 Q (F0 m 2868 ls []) := by
      intro S M O OD H locs ls cells1 slots1 hr h hl hc1 hs1
      refine lv_iinc (v := nI (3 * n + 3)) (lv' := lv0 V b (3 * n + 3)) hx hcd dL_law_2868 hl (k := 0) rfl (by exact nI_add (3 * n) 3) (by decide) rfl (fun ls hl => ?_)
      refine lv_goto (tgt := 28) hx hcd dL_law_2871 (by decide) ?_
      exact ih (n + 1) (by omega) (by omega) S M O OD H locs ls cells1 slots1 hr h hl (by omega) (by omega)
    have hn : n ≤ 600 := by omega
    have hcc : cells + 24 ≤ R.cells := by omega
    have hss : slots + 3000 ≤ R.slots := by omega
    match w, hw with
    | 0, _ => exact lv_tableIn (off := 228) (tgt := 272) hx hcd dL_law_44 (by decide) (by decide) (by decide) (by decide) (lc_0_addStory hst hV G hC hB hX hbl hbA hn hr h hi hLN hl hRf hRl hcc hss kk)
    | 1, _ => exact lv_tableIn (off := 284) (tgt := 328) hx hcd dL_law_44 (by decide) (by decide) (by decide) (by decide) (lc_1_reestimate hst hV G hC hB hX hbl hbA hn hr h hi hLN hl hRf hRl hcc hss kk)
    | 2, _ => exact lv_tableIn (off := 352) (tgt := 396) hx hcd dL_law_44 (by decide) (by decide) (by decide) (by decide) (lc_2_block hst hV G hC hB hX hbl hbA hn hr h hi hLN hl hRf hRl hcc hss kk)
    | 3, _ => exact lv_tableIn (off := 420) (tgt := 464) hx hcd dL_law_44 (by decide) (by decide) (by decide) (by decide) (lc_3_unblock hst hV G hC hB hX hbl hbA hn hr h hi hLN hl hRf hRl hcc hss kk)
    | 4, _ => exact lv_tableIn (off := 488) (tgt := 532) hx hcd dL_law_44 (by decide) (by decide) (by decide) (by decide) (lc_4_storyCount hst hV G hC hB hX hbl hbA hn hr h hi hLN hl hRf hRl hcc hss kk)
    | 5, _ => exact lv_tableIn (off := 501) (tgt := 545) hx hcd dL_law_44 (by decide) (by decide) (by decide) (by decide) (lc_5_estimateOf hst hV G hC hB hX hbl hbA hn hr h hi hLN hl hRf hRl hcc hss kk)
    | 6, _ => exact lv_tableIn (off := 557) (tgt := 601) hx hcd dL_law_44 (by decide) (by decide) (by decide) (by decide) (lc_6_leftOf hst hV G hC hB hX hbl hbA hn hr h hi hLN hl hRf hRl hcc hss kk)
    | 7, _ => exact lv_tableIn (off := 613) (tgt := 657) hx hcd dL_law_44 (by decide) (by decide) (by decide) (by decide) (lc_7_workedOn hst hV G hC hB hX hbl hbA hn hr h hi hLN hl hRf hRl hcc hss kk)
    | 8, _ => exact lv_tableIn (off := 669) (tgt := 713) hx hcd dL_law_44 (by decide) (by decide) (by decide) (by decide) (lc_8_isDone hst hV G hC hB hX hbl hbA hn hr h hi hLN hl hRf hRl hcc hss kk)
    | 9, _ => exact lv_tableIn (off := 732) (tgt := 776) hx hcd dL_law_44 (by decide) (by decide) (by decide) (by decide) (lc_9_isBlocked hst hV G hC hB hX hbl hbA hn hr h hi hLN hl hRf hRl hcc hss kk)
    | 10, _ => exact lv_tableIn (off := 795) (tgt := 839) hx hcd dL_law_44 (by decide) (by decide) (by decide) (by decide) (lc_10_openBlockers hst hV G hC hB hX hbl hbA hn hr h hi hLN hl hRf hRl hcc hss kk)
    | 11, _ => exact lv_tableIn (off := 851) (tgt := 895) hx hcd dL_law_44 (by decide) (by decide) (by decide) (by decide) (lc_11_isBlocker hst hV G hC hB hX hbl hbA hn hr h hi hLN hl hRf hRl hcc hss kk)
    | 12, _ => exact lv_tableIn (off := 926) (tgt := 970) hx hcd dL_law_44 (by decide) (by decide) (by decide) (by decide) (lc_12_dependsOn hst hV G hC hB hX hbl hbA hn hr h hi hLN hl hRf hRl hcc hss kk)
    | 13, _ => exact lv_tableIn (off := 1001) (tgt := 1045) hx hcd dL_law_44 (by decide) (by decide) (by decide) (by decide) (lc_13_dependsOnByClosure hst hV G hC hB hX hbl hbA hn hr h hi hLN hl hRf hRl hcc hss kk)
    | 14, _ => exact lv_tableIn (off := 1076) (tgt := 1120) hx hcd dL_law_44 (by decide) (by decide) (by decide) (by decide) (lc_14_longestChain hst hV G hC hB hX hbl hbA hn hr h hi hLN hl hRf hRl hcc hss kk)
    | 15, _ => exact lv_tableIn (off := 1132) (tgt := 1176) hx hcd dL_law_44 (by decide) (by decide) (by decide) (by decide) (lc_15_storyInOrder hst hV G hC hB hX hbl hbA hn hr h hi hLN hl hRf hRl hcc hss kk)
    | 16, _ => exact lv_tableIn (off := 1188) (tgt := 1232) hx hcd dL_law_44 (by decide) (by decide) (by decide) (by decide) (lc_16_addDeveloper hst hV G hC hB hX hbl hbA hn hr h hi hLN hl hRf hRl hcc hss kk)
    | 17, _ => exact lv_tableIn (off := 1244) (tgt := 1288) hx hcd dL_law_44 (by decide) (by decide) (by decide) (by decide) (lc_17_assign hst hV G hC hB hX hbl hbA hn hr h hi hLN hl hRf hRl hcc hss kk)
    | 18, _ => exact lv_tableIn (off := 1319) (tgt := 1363) hx hcd dL_law_44 (by decide) (by decide) (by decide) (by decide) (lc_18_unassign hst hV G hC hB hX hbl hbA hn hr h hi hLN hl hRf hRl hcc hss kk)
    | 19, _ => exact lv_tableIn (off := 1375) (tgt := 1419) hx hcd dL_law_44 (by decide) (by decide) (by decide) (by decide) (lc_19_developerCount hst hV G hC hB hX hbl hbA hn hr h hi hLN hl hRf hRl hcc hss kk)
    | 20, _ => exact lv_tableIn (off := 1388) (tgt := 1432) hx hcd dL_law_44 (by decide) (by decide) (by decide) (by decide) (lc_20_speedOf hst hV G hC hB hX hbl hbA hn hr h hi hLN hl hRf hRl hcc hss kk)
    | 21, _ => exact lv_tableIn (off := 1444) (tgt := 1488) hx hcd dL_law_44 (by decide) (by decide) (by decide) (by decide) (lc_21_storyOf hst hV G hC hB hX hbl hbA hn hr h hi hLN hl hRf hRl hcc hss kk)
    | 22, _ => exact lv_tableIn (off := 1500) (tgt := 1544) hx hcd dL_law_44 (by decide) (by decide) (by decide) (by decide) (lc_22_developerOf hst hV G hC hB hX hbl hbA hn hr h hi hLN hl hRf hRl hcc hss kk)
    | 23, _ => exact lv_tableIn (off := 1556) (tgt := 1600) hx hcd dL_law_44 (by decide) (by decide) (by decide) (by decide) (lc_23_plan hst hV G hC hB hX hbl hbA hn hr h hi hLN hl hRf hRl hcc hss kk)
    | 24, _ => exact lv_tableIn (off := 1612) (tgt := 1656) hx hcd dL_law_44 (by decide) (by decide) (by decide) (by decide) (lc_24_unplan hst hV G hC hB hX hbl hbA hn hr h hi hLN hl hRf hRl hcc hss kk)
    | 25, _ => exact lv_tableIn (off := 1668) (tgt := 1712) hx hcd dL_law_44 (by decide) (by decide) (by decide) (by decide) (lc_25_startSprint hst hV G hC hB hX hbl hbA hn hr h hi hLN hl hRf hRl hcc hss kk)
    | 26, _ => exact lv_tableIn (off := 1724) (tgt := 1768) hx hcd dL_law_44 (by decide) (by decide) (by decide) (by decide) (lc_26_passDay hst hV G hC hB hX hbl hbA hn hr h hi hLN hl hRf hRl hcc hss kk)
    | 27, _ => exact lv_tableIn (off := 1768) (tgt := 1812) hx hcd dL_law_44 (by decide) (by decide) (by decide) (by decide) (lc_27_endSprint hst hV G hC hB hX hbl hbA hn hr h hi hLN hl hRf hRl hcc hss kk)
    | 28, _ => exact lv_tableIn (off := 1812) (tgt := 1856) hx hcd dL_law_44 (by decide) (by decide) (by decide) (by decide) (lc_28_isActive hst hV G hC hB hX hbl hbA hn hr h hi hLN hl hRf hRl hcc hss kk)
    | 29, _ => exact lv_tableIn (off := 1825) (tgt := 1869) hx hcd dL_law_44 (by decide) (by decide) (by decide) (by decide) (lc_29_sprintCount hst hV G hC hB hX hbl hbA hn hr h hi hLN hl hRf hRl hcc hss kk)
    | 30, _ => exact lv_tableIn (off := 1838) (tgt := 1882) hx hcd dL_law_44 (by decide) (by decide) (by decide) (by decide) (lc_30_daysPassed hst hV G hC hB hX hbl hbA hn hr h hi hLN hl hRf hRl hcc hss kk)
    | 31, _ => exact lv_tableIn (off := 1882) (tgt := 1926) hx hcd dL_law_44 (by decide) (by decide) (by decide) (by decide) (lc_31_isPlanned hst hV G hC hB hX hbl hbA hn hr h hi hLN hl hRf hRl hcc hss kk)
    | 32, _ => exact lv_tableIn (off := 1945) (tgt := 1989) hx hcd dL_law_44 (by decide) (by decide) (by decide) (by decide) (lc_32_scope hst hV G hC hB hX hbl hbA hn hr h hi hLN hl hRf hRl hcc hss kk)
    | 33, _ => exact lv_tableIn (off := 1958) (tgt := 2002) hx hcd dL_law_44 (by decide) (by decide) (by decide) (by decide) (lc_33_left hst hV G hC hB hX hbl hbA hn hr h hi hLN hl hRf hRl hcc hss kk)
    | 34, _ => exact lv_tableIn (off := 1971) (tgt := 2015) hx hcd dL_law_44 (by decide) (by decide) (by decide) (by decide) (lc_34_worked hst hV G hC hB hX hbl hbA hn hr h hi hLN hl hRf hRl hcc hss kk)
    | 35, _ => exact lv_tableIn (off := 1984) (tgt := 2028) hx hcd dL_law_44 (by decide) (by decide) (by decide) (by decide) (lc_35_scopeChange hst hV G hC hB hX hbl hbA hn hr h hi hLN hl hRf hRl hcc hss kk)
    | 36, _ => exact lv_tableIn (off := 2028) (tgt := 2072) hx hcd dL_law_44 (by decide) (by decide) (by decide) (by decide) (lc_36_burnDown hst hV G hC hB hX hbl hbA hn hr h hi hLN hl hRf hRl hcc hss kk)
    | 37, _ => exact lv_tableIn (off := 2084) (tgt := 2128) hx hcd dL_law_44 (by decide) (by decide) (by decide) (by decide) (lc_37_idealBurnDown hst hV G hC hB hX hbl hbA hn hr h hi hLN hl hRf hRl hcc hss kk)
    | 38, _ => exact lv_tableIn (off := 2162) (tgt := 2206) hx hcd dL_law_44 (by decide) (by decide) (by decide) (by decide) (lc_38_velocityOf hst hV G hC hB hX hbl hbA hn hr h hi hLN hl hRf hRl hcc hss kk)
    | 39, _ => exact lv_tableIn (off := 2218) (tgt := 2262) hx hcd dL_law_44 (by decide) (by decide) (by decide) (by decide) (lc_39_meanVelocity hst hV G hC hB hX hbl hbA hn hr h hi hLN hl hRf hRl hcc hss kk)
    | 40, _ => exact lv_tableIn (off := 2283) (tgt := 2327) hx hcd dL_law_44 (by decide) (by decide) (by decide) (by decide) (lc_40_finishDay hst hV G hC hB hX hbl hbA hn hr h hi hLN hl hRf hRl hcc hss kk)
    | 41, _ => exact lv_tableIn (off := 2339) (tgt := 2383) hx hcd dL_law_44 (by decide) (by decide) (by decide) (by decide) (lc_41_finishDayByRecursion hst hV G hC hB hX hbl hbA hn hr h hi hLN hl hRf hRl hcc hss kk)
    | 42, _ => exact lv_tableIn (off := 2395) (tgt := 2439) hx hcd dL_law_44 (by decide) (by decide) (by decide) (by decide) (lc_42_writeStory hst hV G hC hB hX hbl hbA hn hr h hi hLN hl hRf hRl hcc hss kk)
    | 43, _ => exact lv_tableIn (off := 2451) (tgt := 2495) hx hcd dL_law_44 (by decide) (by decide) (by decide) (by decide) (lc_43_writeBurnDown hst hV G hC hB hX hbl hbA hn hr h hi hLN hl hRf hRl hcc hss kk)
    | 44, _ => exact lv_tableIn (off := 2464) (tgt := 2508) hx hcd dL_law_44 (by decide) (by decide) (by decide) (by decide) (lc_44_lineAt hst hV G hC hB hX hbl hbA hn hr h hi hLN hl hRf hRl hcc hss kk)
    | 45, _ => exact lv_tableIn (off := 2520) (tgt := 2564) hx hcd dL_law_44 (by decide) (by decide) (by decide) (by decide) (lc_45_isConsistent hst hV G hC hB hX hbl hbA hn hr h hi hLN hl hRf hRl hcc hss kk)
    | 46, _ => exact lv_tableIn (off := 2533) (tgt := 2577) hx hcd dL_law_44 (by decide) (by decide) (by decide) (by decide) (lc_46_type hst hV G hC hB hX hbl hbA hn hr h hi hLN hl hRf hRl hcc hss kk)
    | 47, _ => exact lv_tableIn (off := 2591) (tgt := 2635) hx hcd dL_law_44 (by decide) (by decide) (by decide) (by decide) (lc_47_execute hst hV G hC hB hX hbl hbA hn hr h hi hLN hl hRf hRl hcc hss kk)
    | 48, _ => exact lv_tableIn (off := 2635) (tgt := 2679) hx hcd dL_law_44 (by decide) (by decide) (by decide) (by decide) (lc_48_errorPosition hst hV G hC hB hX hbl hbA hn hr h hi hLN hl hRf hRl hcc hss kk)
    | 49, _ => exact lv_tableIn (off := 2679) (tgt := 2723) hx hcd dL_law_44 (by decide) (by decide) (by decide) (by decide) (lc_49_failedCommand hst hV G hC hB hX hbl hbA hn hr h hi hLN hl hRf hRl hcc hss kk)
    | 50, _ => exact lv_tableIn (off := 2723) (tgt := 2767) hx hcd dL_law_44 (by decide) (by decide) (by decide) (by decide) (lc_50_undo hst hV G hC hB hX hbl hbA hn hr h hi hLN hl hRf hRl hcc hss kk)
    | 51, _ => exact lv_tableIn (off := 2767) (tgt := 2811) hx hcd dL_law_44 (by decide) (by decide) (by decide) (by decide) (lc_51_save hst hV G hC hB hX hbl hbA hn hr h hi hLN hl hRf hRl hcc hss kk)
    | 52, _ => exact lv_tableIn (off := 2780) (tgt := 2824) hx hcd dL_law_44 (by decide) (by decide) (by decide) (by decide) (lc_52_restore hst hV G hC hB hX hbl hbA hn hr h hi hLN hl hRf hRl hcc hss kk)
    | w + 53, hw => exact lv_tableOut (tgt := 2868) hx hcd dL_law_44 (Or.inr (by rw [tN (by omega)]; omega)) (by decide) (kk S M O OD H locs ls cells slots (rel_up hr) h hl (by omega) (by omega))
end LP
