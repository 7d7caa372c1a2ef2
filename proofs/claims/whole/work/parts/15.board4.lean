def addB (B : kBd) (p : Nat) : kBd := bPut (bSet (bSet (bSet B 0 (B.2 0) p) 1 (B.2 0) p) 2 (B.2 0) 0) 0 (B.2 0 + 1)
def devB (B : kBd) (p : Nat) : kBd := bPut (bSet (bSet B 3 (B.2 1) p) 4 (B.2 1) 0) 1 (B.2 1 + 1)
def blkB (B : kBd) (i j : Nat) : kBd := bSet B 2 i (B.1 2 i ||| 2 ^ j)
def ublB (B : kBd) (i j : Nat) : kBd := bSet B 2 i (andn (B.1 2 i) (2 ^ j))
def opn (B : kBd) (j : Nat) : Nat := if j < B.2 0 then pcn (B.1 2 j &&& unf B) else 0
theorem opn_le (B : kBd) (j : Nat) : opn B j ≤ 16 := by
  unfold opn
  split
  · exact pcn_le _
  · decide
def begB (B : kBd) (q : Nat) : kBd :=
  let B1 := bPut (bPut (bPut B 3 1) 4 q) 5 0
  let B2 := bPut B1 6 (psum B1 0)
  bSet B2 5 0 (psum B2 1)
def endB (B : kBd) : kBd := bSet (bSet (bSet (bSet (bPut (bPut (bPut (bSet B 6 (B.2 7) (pfin B)) 7 (B.2 7 + 1)) 3 0) 2 0) 4 0 0) 4 1 0) 4 2 0) 4 3 0
/-- the first story that waits for none but the placed, one up -/
def frdN (B : kBd) (q : Nat) : Nat → Nat → Nat
  | 0, _ => 0
  | f + 1, k => if k < B.2 0 then (if q.testBit k = false ∧ andn (B.1 2 k) q = 0 then k + 1 else frdN B q f (k + 1)) else 0
def frd (B : kBd) (q : Nat) : Nat := frdN B q 17 0
theorem frdN_le (B : kBd) (q : Nat) : ∀ f k, frdN B q f k ≤ B.2 0
  | 0, _ => Nat.zero_le _
  | f + 1, k => by
    unfold frdN
    split
    · split
      · omega
      · exact frdN_le B q f (k + 1)
    · exact Nat.zero_le _
theorem frd_le (B : kBd) (q : Nat) : frd B q ≤ B.2 0 := frdN_le B q 17 0
def satN (B : kBd) (z : Int) : Nat → Nat → Nat → Nat
  | 0, _, _ => 0
  | f + 1, i, q => if i < B.2 0 then (if frd B q = 0 ∨ (i : Int) = z then frd B q else satN B z f (i + 1) (q ||| 2 ^ (frd B q - 1))) else 0
def sat (B : kBd) (z : Int) : Nat := satN B z 17 0 0
def chlN (B : kBd) : Nat → Nat → Nat
  | 0, _ => 0
  | f + 1, q => if q = 0 then 0 else chlN B f (boa B q) + 1
def chl (B : kBd) (j : Nat) : Nat := chlN B 16 (2 ^ j)
theorem chlN_0 (B : kBd) (f : Nat) : chlN B f 0 = 0 := by cases f <;> simp [chlN]
def fndN (B : kBd) (g : Nat) : Nat → Nat → Nat → Bool
  | 0, _, _ => false
  | f + 1, seen, q => if q = 0 then false else if q.testBit g then true else fndN B g f (seen ||| q) (andn (boa B q) (seen ||| q))
def fnd (B : kBd) (i g : Nat) : Bool := fndN B g 16 0 (boa B (2 ^ i))
theorem fndN_0 (B : kBd) (g f s : Nat) : fndN B g f s 0 = false := by cases f <;> simp [fndN]
theorem ks_J6_bitCount_0f7a4 : kSt yJ6_bitCount_0f7a4 cJ6_bitCount_0f7a4 1 (some .int) 1 := ⟨mw_914, mw_75, mw_915, by decide, by decide, by decide +kernel⟩
theorem kv_X0_blockersOfAny : kV yX0_blockersOfAny cX0_blockersOfAny 4 (some .int) 1 := ⟨mw_730, mw_3, mw_57, mw_731, by decide, by decide, by decide +kernel⟩
theorem kv_X0_finds : kV yX0_finds cX0_finds 6 (some .boolean) 2 := ⟨mw_722, mw_723, mw_57, mw_724, by decide, by decide, by decide +kernel⟩
theorem kv_X0_finishedPoints : kV yX0_finishedPoints cX0_finishedPoints 3 (some .int) 0 := ⟨mw_1207, mw_9, mw_57, mw_1208, by decide, by decide, by decide +kernel⟩
theorem kv_X0_firstReady : kV yX0_firstReady cX0_firstReady 3 (some .int) 1 := ⟨mw_1026, mw_7, mw_57, mw_1027, by decide, by decide, by decide +kernel⟩
theorem kv_X0_plannedPoints : kV yX0_plannedPoints cX0_plannedPoints 1 (some .int) 0 := ⟨mw_297, mw_298, mw_57, mw_299, by decide, by decide, by decide +kernel⟩
theorem kv_X0_plannedRemains : kV yX0_plannedRemains cX0_plannedRemains 1 (some .int) 0 := ⟨mw_312, mw_313, mw_57, mw_314, by decide, by decide, by decide +kernel⟩
theorem kv_X0_unfinishedSet : kV yX0_unfinishedSet cX0_unfinishedSet 3 (some .int) 0 := ⟨mw_752, mw_5, mw_57, mw_753, by decide, by decide, by decide +kernel⟩
set_option maxHeartbeats 4000000 in
set_option maxRecDepth 100000 in
/-- putStory(p) -/
theorem met_X0_putStory (l : Launch) (V : kEnv) (S : kCs) (b : Nat) (B : kBd) (hb : b < 12) (hz : kSm B) (p0 : Nat) (hp0 : p0 < 65536) (hlt : B.2 0 < 16) : kI l yX0_putStory cX0_putStory 3 (some .int) { frames := 0, cells := 0, slots := 0, locals := 0 } V (cWs V) [.ref (eX V (8 * b)), .int (nI (p0))] (setB S b B) (fun r u => r = nI (B.2 0) ∧ u = setB S b (addB B p0)) 0 0 := by
  refine kI_of (by decide +kernel) (Nat.le_of_ble_eq_true rfl) ?_
  intro p e s m args below meth c G hret hlocks hC hB h ls hl Q hQ
  have hl : lv_has ls 3 [(0, .ref (eX V (8 * b))), (1, .int (nI (p0)))] := hl
  have hx := G.1
  have hcd := G.2.1
  refine lv_aload_n hx hcd dX0_putStory_0 rfl (lv_at hl 0 rfl) ?_
  refine r_bS G hC h b 0 hb (by decide) (setB_at _ _ _) mw_111 (x := nI (B.2 0)) rfl dX0_putStory_1 ?_
  have q_1 := hz.2 0
  refine lv_istore_n (lv' := [(2, .int (nI (B.2 0))), (0, .ref (eX V (8 * b))), (1, .int (nI (p0)))]) hx hcd dX0_putStory_4 rfl hl (by decide) rfl (fun ls hl => ?_)
  refine lv_iload_n hx hcd dX0_putStory_5 rfl (lv_at hl 0 rfl) ?_
  refine lv_if_lt (tgt := 15) hx hcd dX0_putStory_6 (by decide) (fun c_2 => ?_) (fun c_2 => ?_)
  · have c_2 := cLt (tN (n := B.2 0) (by omega)) t0 c_2
    exact absurd c_2 (by omega)
  · have c_2 := cNlt (tN (n := B.2 0) (by omega)) t0 c_2
    refine lv_iload_n hx hcd dX0_putStory_9 rfl (lv_at hl 0 rfl) ?_
    refine lv_bipush (v := nI 16) hx hcd dX0_putStory_10 (by decide) ?_
    refine lv_icmp_lt (tgt := 17) hx hcd dX0_putStory_12 (by decide) (fun c_3 => ?_) (fun c_3 => ?_)
    · have c_3 := cLt (tN (n := B.2 0) (by omega)) (tN (n := 16) (by decide)) c_3
      refine lv_aload_n hx hcd dX0_putStory_17 rfl (lv_at hl 1 rfl) ?_
      refine r_bA G hC h b 0 hb (by decide) mw_98 dX0_putStory_18 ?_
      refine lv_iload_n hx hcd dX0_putStory_21 rfl (lv_at hl 0 rfl) ?_
      refine lv_iload_n hx hcd dX0_putStory_22 rfl (lv_at hl 2 rfl) ?_
      refine r_bT G hC h b 0 (B.2 0) hb (by decide) (setB_at _ _ _) rfl (show B.2 0 < 16 by omega) (p0) rfl (setB_set _ _ _ _) dX0_putStory_23 (fun H locs h => ?_)
      refine lv_aload_n hx hcd dX0_putStory_24 rfl (lv_at hl 1 rfl) ?_
      refine r_bA G hC h b 1 hb (by decide) mw_100 dX0_putStory_25 ?_
      refine lv_iload_n hx hcd dX0_putStory_28 rfl (lv_at hl 0 rfl) ?_
      refine lv_iload_n hx hcd dX0_putStory_29 rfl (lv_at hl 2 rfl) ?_
      refine r_bT G hC h b 1 (B.2 0) hb (by decide) (setB_at _ _ _) rfl (show B.2 0 < 16 by omega) (p0) rfl (setB_set _ _ _ _) dX0_putStory_30 (fun H locs h => ?_)
      refine lv_aload_n hx hcd dX0_putStory_31 rfl (lv_at hl 1 rfl) ?_
      refine r_bA G hC h b 2 hb (by decide) mw_102 dX0_putStory_32 ?_
      refine lv_iload_n hx hcd dX0_putStory_35 rfl (lv_at hl 0 rfl) ?_
      refine lv_iconst (v := nI 0) hx hcd dX0_putStory_36 (by decide) ?_
      refine r_bT G hC h b 2 (B.2 0) hb (by decide) (setB_at _ _ _) rfl (show B.2 0 < 16 by omega) (0) rfl (setB_set _ _ _ _) dX0_putStory_37 (fun H locs h => ?_)
      refine lv_aload_n hx hcd dX0_putStory_38 rfl (lv_at hl 1 rfl) ?_
      refine lv_dup hx hcd dX0_putStory_39 rfl ?_
      refine r_bS G hC h b 0 hb (by decide) (setB_at _ _ _) mw_111 (x := nI (B.2 0)) rfl dX0_putStory_40 ?_
      have q_4 := hz.2 0
      refine lv_iconst (v := nI 1) hx hcd dX0_putStory_43 (by decide) ?_
      refine w_iadd (v := nI ((B.2 0) + 1)) hx hcd dX0_putStory_44 (nI_add _ _) ?_
      refine r_bP G hC h b 0 hb (by decide) (setB_at _ _ _) mw_111 (v := ((B.2 0) + 1)) rfl (fun z => absurd z (by decide)) (setB_set _ _ _ _) dX0_putStory_45 (fun H locs h => ?_)
      refine lv_iload_n hx hcd dX0_putStory_48 rfl (lv_at hl 0 rfl) ?_
      exact k_reti hQ G hret hlocks h (⟨rfl, rfl⟩) (Nat.le_of_ble_eq_true rfl) (Nat.le_of_ble_eq_true rfl) dX0_putStory_49
    · have c_3 := cNlt (tN (n := B.2 0) (by omega)) (tN (n := 16) (by decide)) c_3
      exact absurd c_3 (by omega)
set_option maxHeartbeats 4000000 in
set_option maxRecDepth 100000 in
/-- putDeveloper(p) -/
theorem met_X0_putDeveloper (l : Launch) (V : kEnv) (S : kCs) (b : Nat) (B : kBd) (hb : b < 12) (hz : kSm B) (p0 : Nat) (hp0 : p0 < 65536) (hlt : B.2 1 < 4) : kI l yX0_putDeveloper cX0_putDeveloper 3 (some .int) { frames := 0, cells := 0, slots := 0, locals := 0 } V (cWs V) [.ref (eX V (8 * b)), .int (nI (p0))] (setB S b B) (fun r u => r = nI (B.2 1) ∧ u = setB S b (devB B p0)) 0 0 := by
  refine kI_of (by decide +kernel) (Nat.le_of_ble_eq_true rfl) ?_
  intro p e s m args below meth c G hret hlocks hC hB h ls hl Q hQ
  have hl : lv_has ls 3 [(0, .ref (eX V (8 * b))), (1, .int (nI (p0)))] := hl
  have hx := G.1
  have hcd := G.2.1
  refine lv_aload_n hx hcd dX0_putDeveloper_0 rfl (lv_at hl 0 rfl) ?_
  refine r_bS G hC h b 1 hb (by decide) (setB_at _ _ _) mw_113 (x := nI (B.2 1)) rfl dX0_putDeveloper_1 ?_
  have q_1 := hz.2 1
  refine lv_istore_n (lv' := [(2, .int (nI (B.2 1))), (0, .ref (eX V (8 * b))), (1, .int (nI (p0)))]) hx hcd dX0_putDeveloper_4 rfl hl (by decide) rfl (fun ls hl => ?_)
  refine lv_iload_n hx hcd dX0_putDeveloper_5 rfl (lv_at hl 0 rfl) ?_
  refine lv_if_lt (tgt := 14) hx hcd dX0_putDeveloper_6 (by decide) (fun c_2 => ?_) (fun c_2 => ?_)
  · have c_2 := cLt (tN (n := B.2 1) (by omega)) t0 c_2
    exact absurd c_2 (by omega)
  · have c_2 := cNlt (tN (n := B.2 1) (by omega)) t0 c_2
    refine lv_iload_n hx hcd dX0_putDeveloper_9 rfl (lv_at hl 0 rfl) ?_
    refine lv_iconst (v := nI 4) hx hcd dX0_putDeveloper_10 (by decide) ?_
    refine lv_icmp_lt (tgt := 16) hx hcd dX0_putDeveloper_11 (by decide) (fun c_3 => ?_) (fun c_3 => ?_)
    · have c_3 := cLt (tN (n := B.2 1) (by omega)) (tN (n := 4) (by decide)) c_3
      refine lv_aload_n hx hcd dX0_putDeveloper_16 rfl (lv_at hl 1 rfl) ?_
      refine r_bA G hC h b 3 hb (by decide) mw_103 dX0_putDeveloper_17 ?_
      refine lv_iload_n hx hcd dX0_putDeveloper_20 rfl (lv_at hl 0 rfl) ?_
      refine lv_iload_n hx hcd dX0_putDeveloper_21 rfl (lv_at hl 2 rfl) ?_
      refine r_bT G hC h b 3 (B.2 1) hb (by decide) (setB_at _ _ _) rfl (show B.2 1 < 4 by omega) (p0) rfl (setB_set _ _ _ _) dX0_putDeveloper_22 (fun H locs h => ?_)
      refine lv_aload_n hx hcd dX0_putDeveloper_23 rfl (lv_at hl 1 rfl) ?_
      refine r_bA G hC h b 4 hb (by decide) mw_105 dX0_putDeveloper_24 ?_
      refine lv_iload_n hx hcd dX0_putDeveloper_27 rfl (lv_at hl 0 rfl) ?_
      refine lv_iconst (v := -1) hx hcd dX0_putDeveloper_28 (by decide) ?_
      refine r_bT G hC h b 4 (B.2 1) hb (by decide) (setB_at _ _ _) rfl (show B.2 1 < 4 by omega) (0) a0.symm (setB_set _ _ _ _) dX0_putDeveloper_29 (fun H locs h => ?_)
      refine lv_aload_n hx hcd dX0_putDeveloper_30 rfl (lv_at hl 1 rfl) ?_
      refine lv_dup hx hcd dX0_putDeveloper_31 rfl ?_
      refine r_bS G hC h b 1 hb (by decide) (setB_at _ _ _) mw_113 (x := nI (B.2 1)) rfl dX0_putDeveloper_32 ?_
      have q_4 := hz.2 1
      refine lv_iconst (v := nI 1) hx hcd dX0_putDeveloper_35 (by decide) ?_
      refine w_iadd (v := nI ((B.2 1) + 1)) hx hcd dX0_putDeveloper_36 (nI_add _ _) ?_
      refine r_bP G hC h b 1 hb (by decide) (setB_at _ _ _) mw_113 (v := ((B.2 1) + 1)) rfl (fun z => absurd z (by decide)) (setB_set _ _ _ _) dX0_putDeveloper_37 (fun H locs h => ?_)
      refine lv_iload_n hx hcd dX0_putDeveloper_40 rfl (lv_at hl 0 rfl) ?_
      exact k_reti hQ G hret hlocks h (⟨rfl, rfl⟩) (Nat.le_of_ble_eq_true rfl) (Nat.le_of_ble_eq_true rfl) dX0_putDeveloper_41
    · have c_3 := cNlt (tN (n := B.2 1) (by omega)) (tN (n := 4) (by decide)) c_3
      exact absurd c_3 (by omega)
set_option maxHeartbeats 4000000 in
set_option maxRecDepth 100000 in
/-- putBlocker(i, j) -/
theorem met_X0_putBlocker (l : Launch) (V : kEnv) (S : kCs) (b : Nat) (B : kBd) (hb : b < 12) (hz : kSm B) (hn : B.2 0 ≤ 16) (i : Nat) (hi : i < B.2 0) (j : Nat) (hj : j < B.2 0) : kI l yX0_putBlocker cX0_putBlocker 3 (some .int) { frames := 1, cells := 0, slots := 0, locals := 21 } V (cWs V) [.ref (eX V (8 * b)), .int (nI (i)), .int (nI (j))] (setB S b B) (fun r u => r = nI (pcn ((blkB B i j).1 2 i)) ∧ u = setB S b (blkB B i j)) 0 0 := by
  refine kI_of (by decide +kernel) (Nat.le_of_ble_eq_true rfl) ?_
  intro p e s m args below meth c G hret hlocks hC hB h ls hl Q hQ
  have hl : lv_has ls 3 [(0, .ref (eX V (8 * b))), (1, .int (nI (i))), (2, .int (nI (j)))] := hl
  have hx := G.1
  have hcd := G.2.1
  refine lv_aload_n hx hcd dX0_putBlocker_0 rfl (lv_at hl 0 rfl) ?_
  refine lv_iload_n hx hcd dX0_putBlocker_1 rfl (lv_at hl 1 rfl) ?_
  refine k_Vi (As := [.int (nI (i))]) (rest := []) (b := eX V (8 * b)) G hC hB h (met_X0_hasStoryN l V S b B hb hn i (by omega)) mw_745 kv_X0_hasStory ⟨rfl, rfl⟩ ⟨Nat.le_of_ble_eq_true rfl, Nat.le_of_ble_eq_true rfl⟩ (r_bV hC h b hb) rfl rfl hl.1 (Nat.le_of_ble_eq_true rfl) dX0_putBlocker_2 ⟨Nat.le_of_ble_eq_true rfl, Nat.le_of_ble_eq_true rfl⟩ (fun r u H locs hp h => ?_)
  obtain ⟨rfl, rfl⟩ := hp
  refine lv_if_eq (tgt := 16) hx hcd dX0_putBlocker_5 (by decide) (fun c_1 => ?_) (fun c_1 => ?_)
  · have c_1 := bz0 c_1
    have f_3 := of_decide_eq_false c_1
    exact absurd hi (by assumption)
  · have c_1 := bz1 c_1
    have f_2 := of_decide_eq_true c_1
    refine lv_aload_n hx hcd dX0_putBlocker_8 rfl (lv_at hl 0 rfl) ?_
    refine lv_iload_n hx hcd dX0_putBlocker_9 rfl (lv_at hl 2 rfl) ?_
    refine k_Vi (As := [.int (nI (j))]) (rest := []) (b := eX V (8 * b)) G hC hB h (met_X0_hasStoryN l V S b B hb hn j (by omega)) mw_745 kv_X0_hasStory ⟨rfl, rfl⟩ ⟨Nat.le_of_ble_eq_true rfl, Nat.le_of_ble_eq_true rfl⟩ (r_bV hC h b hb) rfl rfl hl.1 (Nat.le_of_ble_eq_true rfl) dX0_putBlocker_10 ⟨Nat.le_of_ble_eq_true rfl, Nat.le_of_ble_eq_true rfl⟩ (fun r u H locs hp h => ?_)
    obtain ⟨rfl, rfl⟩ := hp
    refine lv_if_ne (tgt := 18) hx hcd dX0_putBlocker_13 (by decide) (fun c_4 => ?_) (fun c_4 => ?_)
    · have c_4 := bz1 c_4
      have f_5 := of_decide_eq_true c_4
      refine lv_aload_n hx hcd dX0_putBlocker_18 rfl (lv_at hl 0 rfl) ?_
      refine r_bA G hC h b 2 hb (by decide) mw_102 dX0_putBlocker_19 ?_
      refine lv_iload_n hx hcd dX0_putBlocker_22 rfl (lv_at hl 1 rfl) ?_
      refine lv_dup2_11 hx hcd dX0_putBlocker_23 rfl rfl ?_
      refine r_bL G hC h b 2 i hb (by decide) (setB_at _ _ _) rfl (show i < 16 by omega) (x := nI (B.1 2 (i))) rfl dX0_putBlocker_24 ?_
      have q_7 := hz.1 2 (i)
      refine lv_iload_n hx hcd dX0_putBlocker_25 rfl (lv_at hl 2 rfl) ?_
      refine k_Ni (As := [.int (nI (j))]) (rest := [.int (nI (B.1 2 (i))), .int (nI (i)), .ref (eX V (8 * b + (2 + 1)))]) G hC hB h (met_X3_setOf l V (setB S b B) j (by omega)) hC.2.1.2.2.1 ks_X3_setOf ⟨rfl, rfl⟩ ⟨Nat.le_of_ble_eq_true rfl, Nat.le_of_ble_eq_true rfl⟩ rfl rfl hl.1 (Nat.le_of_ble_eq_true rfl) dX0_putBlocker_26 ⟨Nat.le_of_ble_eq_true rfl, Nat.le_of_ble_eq_true rfl⟩ (fun r u H locs hp h => ?_)
      obtain ⟨rfl, rfl⟩ := hp
      refine w_ior (v := nI ((B.1 2 (i)) ||| (2 ^ j))) hx hcd dX0_putBlocker_29 (n_or _ _) ?_
      have q_8 : (B.1 2 (i)) ||| (2 ^ j) < 65536 := or16 (by first | omega | exact p16 (by omega) | assumption) (by first | omega | exact p16 (by omega) | assumption)
      refine r_bT G hC h b 2 i hb (by decide) (setB_at _ _ _) rfl (show i < 16 by omega) ((B.1 2 (i)) ||| (2 ^ j)) rfl (setB_set _ _ _ _) dX0_putBlocker_30 (fun H locs h => ?_)
      refine lv_aload_n hx hcd dX0_putBlocker_31 rfl (lv_at hl 0 rfl) ?_
      refine r_bA G hC h b 2 hb (by decide) mw_102 dX0_putBlocker_32 ?_
      refine lv_iload_n hx hcd dX0_putBlocker_35 rfl (lv_at hl 1 rfl) ?_
      refine r_bL G hC h b 2 i hb (by decide) (setB_at _ _ _) rfl (show i < 16 by omega) (x := nI ((B.1 2 (i)) ||| (2 ^ j))) (congrArg (kE 2) (bset_1 B 2 (i) ((B.1 2 (i)) ||| (2 ^ j)))) dX0_putBlocker_36 ?_
      refine k_Si (As := [.int (nI ((B.1 2 (i)) ||| (2 ^ j)))]) (rest := []) G hC hB h (met_J6_bitCount_0f7a4 l V (setB S b (bSet B 2 (i) ((B.1 2 (i)) ||| (2 ^ j)))) ((B.1 2 (i)) ||| (2 ^ j)) (by first | omega | assumption)) mw_913 ks_J6_bitCount_0f7a4 ⟨rfl, rfl⟩ ⟨Nat.le_of_ble_eq_true rfl, Nat.le_of_ble_eq_true rfl⟩ rfl rfl hl.1 (Nat.le_of_ble_eq_true rfl) dX0_putBlocker_37 ⟨Nat.le_of_ble_eq_true rfl, Nat.le_of_ble_eq_true rfl⟩ (fun r u H locs hp h => ?_)
      obtain ⟨rfl, rfl⟩ := hp
      exact k_reti hQ G hret hlocks h (⟨by unfold blkB; rw [bset_1], rfl⟩) (Nat.le_of_ble_eq_true rfl) (Nat.le_of_ble_eq_true rfl) dX0_putBlocker_40
    · have c_4 := bz0 c_4
      have f_6 := of_decide_eq_false c_4
      exact absurd hj (by assumption)
set_option maxHeartbeats 4000000 in
set_option maxRecDepth 100000 in
/-- removeBlocker(i, j) -/
theorem met_X0_removeBlocker (l : Launch) (V : kEnv) (S : kCs) (b : Nat) (B : kBd) (hb : b < 12) (hz : kSm B) (hn : B.2 0 ≤ 16) (i : Nat) (hi : i < B.2 0) (j : Nat) (hj : j < B.2 0) : kI l yX0_removeBlocker cX0_removeBlocker 3 (some .int) { frames := 1, cells := 0, slots := 0, locals := 21 } V (cWs V) [.ref (eX V (8 * b)), .int (nI (i)), .int (nI (j))] (setB S b B) (fun r u => r = nI (pcn ((ublB B i j).1 2 i)) ∧ u = setB S b (ublB B i j)) 0 0 := by
  refine kI_of (by decide +kernel) (Nat.le_of_ble_eq_true rfl) ?_
  intro p e s m args below meth c G hret hlocks hC hB h ls hl Q hQ
  have hl : lv_has ls 3 [(0, .ref (eX V (8 * b))), (1, .int (nI (i))), (2, .int (nI (j)))] := hl
  have hx := G.1
  have hcd := G.2.1
  refine lv_aload_n hx hcd dX0_removeBlocker_0 rfl (lv_at hl 0 rfl) ?_
  refine lv_iload_n hx hcd dX0_removeBlocker_1 rfl (lv_at hl 1 rfl) ?_
  refine k_Vi (As := [.int (nI (i))]) (rest := []) (b := eX V (8 * b)) G hC hB h (met_X0_hasStoryN l V S b B hb hn i (by omega)) mw_745 kv_X0_hasStory ⟨rfl, rfl⟩ ⟨Nat.le_of_ble_eq_true rfl, Nat.le_of_ble_eq_true rfl⟩ (r_bV hC h b hb) rfl rfl hl.1 (Nat.le_of_ble_eq_true rfl) dX0_removeBlocker_2 ⟨Nat.le_of_ble_eq_true rfl, Nat.le_of_ble_eq_true rfl⟩ (fun r u H locs hp h => ?_)
  obtain ⟨rfl, rfl⟩ := hp
  refine lv_if_eq (tgt := 16) hx hcd dX0_removeBlocker_5 (by decide) (fun c_1 => ?_) (fun c_1 => ?_)
  · have c_1 := bz0 c_1
    have f_3 := of_decide_eq_false c_1
    exact absurd hi (by assumption)
  · have c_1 := bz1 c_1
    have f_2 := of_decide_eq_true c_1
    refine lv_aload_n hx hcd dX0_removeBlocker_8 rfl (lv_at hl 0 rfl) ?_
    refine lv_iload_n hx hcd dX0_removeBlocker_9 rfl (lv_at hl 2 rfl) ?_
    refine k_Vi (As := [.int (nI (j))]) (rest := []) (b := eX V (8 * b)) G hC hB h (met_X0_hasStoryN l V S b B hb hn j (by omega)) mw_745 kv_X0_hasStory ⟨rfl, rfl⟩ ⟨Nat.le_of_ble_eq_true rfl, Nat.le_of_ble_eq_true rfl⟩ (r_bV hC h b hb) rfl rfl hl.1 (Nat.le_of_ble_eq_true rfl) dX0_removeBlocker_10 ⟨Nat.le_of_ble_eq_true rfl, Nat.le_of_ble_eq_true rfl⟩ (fun r u H locs hp h => ?_)
    obtain ⟨rfl, rfl⟩ := hp
    refine lv_if_ne (tgt := 18) hx hcd dX0_removeBlocker_13 (by decide) (fun c_4 => ?_) (fun c_4 => ?_)
    · have c_4 := bz1 c_4
      have f_5 := of_decide_eq_true c_4
      refine lv_aload_n hx hcd dX0_removeBlocker_18 rfl (lv_at hl 0 rfl) ?_
      refine r_bA G hC h b 2 hb (by decide) mw_102 dX0_removeBlocker_19 ?_
      refine lv_iload_n hx hcd dX0_removeBlocker_22 rfl (lv_at hl 1 rfl) ?_
      refine lv_dup2_11 hx hcd dX0_removeBlocker_23 rfl rfl ?_
      refine r_bL G hC h b 2 i hb (by decide) (setB_at _ _ _) rfl (show i < 16 by omega) (x := nI (B.1 2 (i))) rfl dX0_removeBlocker_24 ?_
      have q_7 := hz.1 2 (i)
      refine lv_iload_n hx hcd dX0_removeBlocker_25 rfl (lv_at hl 2 rfl) ?_
      refine k_Ni (As := [.int (nI (j))]) (rest := [.int (nI (B.1 2 (i))), .int (nI (i)), .ref (eX V (8 * b + (2 + 1)))]) G hC hB h (met_X3_setOf l V (setB S b B) j (by omega)) hC.2.1.2.2.1 ks_X3_setOf ⟨rfl, rfl⟩ ⟨Nat.le_of_ble_eq_true rfl, Nat.le_of_ble_eq_true rfl⟩ rfl rfl hl.1 (Nat.le_of_ble_eq_true rfl) dX0_removeBlocker_26 ⟨Nat.le_of_ble_eq_true rfl, Nat.le_of_ble_eq_true rfl⟩ (fun r u H locs hp h => ?_)
      obtain ⟨rfl, rfl⟩ := hp
      refine lv_iconst (v := -1) hx hcd dX0_removeBlocker_29 (by decide) ?_
      refine w_ixor (v := nI (2 ^ j) ^^^ (-1)) hx hcd dX0_removeBlocker_30 rfl ?_
      refine w_iand (v := nI (andn (B.1 2 (i)) (2 ^ j))) hx hcd dX0_removeBlocker_31 (n_andn (by first | omega | exact p16 (by omega) | assumption) (by first | omega | exact p16 (by omega) | assumption)) ?_
      have q_8 : andn (B.1 2 (i)) (2 ^ j) < 65536 := andn_lt (by first | omega | exact p16 (by omega) | assumption)
      refine r_bT G hC h b 2 i hb (by decide) (setB_at _ _ _) rfl (show i < 16 by omega) (andn (B.1 2 (i)) (2 ^ j)) rfl (setB_set _ _ _ _) dX0_removeBlocker_32 (fun H locs h => ?_)
      refine lv_aload_n hx hcd dX0_removeBlocker_33 rfl (lv_at hl 0 rfl) ?_
      refine r_bA G hC h b 2 hb (by decide) mw_102 dX0_removeBlocker_34 ?_
      refine lv_iload_n hx hcd dX0_removeBlocker_37 rfl (lv_at hl 1 rfl) ?_
      refine r_bL G hC h b 2 i hb (by decide) (setB_at _ _ _) rfl (show i < 16 by omega) (x := nI (andn (B.1 2 (i)) (2 ^ j))) (congrArg (kE 2) (bset_1 B 2 (i) (andn (B.1 2 (i)) (2 ^ j)))) dX0_removeBlocker_38 ?_
      refine k_Si (As := [.int (nI (andn (B.1 2 (i)) (2 ^ j)))]) (rest := []) G hC hB h (met_J6_bitCount_0f7a4 l V (setB S b (bSet B 2 (i) (andn (B.1 2 (i)) (2 ^ j)))) (andn (B.1 2 (i)) (2 ^ j)) (by first | omega | assumption)) mw_913 ks_J6_bitCount_0f7a4 ⟨rfl, rfl⟩ ⟨Nat.le_of_ble_eq_true rfl, Nat.le_of_ble_eq_true rfl⟩ rfl rfl hl.1 (Nat.le_of_ble_eq_true rfl) dX0_removeBlocker_39 ⟨Nat.le_of_ble_eq_true rfl, Nat.le_of_ble_eq_true rfl⟩ (fun r u H locs hp h => ?_)
      obtain ⟨rfl, rfl⟩ := hp
      exact k_reti hQ G hret hlocks h (⟨by unfold ublB; rw [bset_1], rfl⟩) (Nat.le_of_ble_eq_true rfl) (Nat.le_of_ble_eq_true rfl) dX0_removeBlocker_42
    · have c_4 := bz0 c_4
      have f_6 := of_decide_eq_false c_4
      exact absurd hj (by assumption)
set_option maxHeartbeats 4000000 in
set_option maxRecDepth 100000 in
/-- openBlockerCount(j) -/
theorem met_X0_openBlockerCount (l : Launch) (V : kEnv) (S : kCs) (b : Nat) (B : kBd) (hb : b < 12) (hz : kSm B) (hn : B.2 0 ≤ 16) (j : Nat) (hj : j < 2147483648) : kI l yX0_openBlockerCount cX0_openBlockerCount 2 (some .int) { frames := 2, cells := 0, slots := 0, locals := 42 } V (cWs V) [.ref (eX V (8 * b)), .int (nI (j))] (setB S b B) (fun r u => r = nI (opn B j) ∧ u = setB S b B) 0 0 := by
  refine kI_of (by decide +kernel) (Nat.le_of_ble_eq_true rfl) ?_
  intro p e s m args below meth c G hret hlocks hC hB h ls hl Q hQ
  have hl : lv_has ls 2 [(0, .ref (eX V (8 * b))), (1, .int (nI (j)))] := hl
  have hx := G.1
  have hcd := G.2.1
  refine lv_aload_n hx hcd dX0_openBlockerCount_0 rfl (lv_at hl 0 rfl) ?_
  refine lv_iload_n hx hcd dX0_openBlockerCount_1 rfl (lv_at hl 1 rfl) ?_
  refine k_Vi (As := [.int (nI (j))]) (rest := []) (b := eX V (8 * b)) G hC hB h (met_X0_hasStoryN l V S b B hb hn j (by omega)) mw_745 kv_X0_hasStory ⟨rfl, rfl⟩ ⟨Nat.le_of_ble_eq_true rfl, Nat.le_of_ble_eq_true rfl⟩ (r_bV hC h b hb) rfl rfl hl.1 (Nat.le_of_ble_eq_true rfl) dX0_openBlockerCount_2 ⟨Nat.le_of_ble_eq_true rfl, Nat.le_of_ble_eq_true rfl⟩ (fun r u H locs hp h => ?_)
  obtain ⟨rfl, rfl⟩ := hp
  refine lv_if_eq (tgt := 25) hx hcd dX0_openBlockerCount_5 (by decide) (fun c_1 => ?_) (fun c_1 => ?_)
  · have c_1 := bz0 c_1
    have f_3 := of_decide_eq_false c_1
    refine lv_iconst (v := nI 0) hx hcd dX0_openBlockerCount_25 (by decide) ?_
    exact k_reti hQ G hret hlocks h (⟨by unfold opn; rw [if_neg (by omega)], rfl⟩) (Nat.le_of_ble_eq_true rfl) (Nat.le_of_ble_eq_true rfl) dX0_openBlockerCount_26
  · have c_1 := bz1 c_1
    have f_2 := of_decide_eq_true c_1
    refine lv_aload_n hx hcd dX0_openBlockerCount_8 rfl (lv_at hl 0 rfl) ?_
    refine r_bA G hC h b 2 hb (by decide) mw_102 dX0_openBlockerCount_9 ?_
    refine lv_iload_n hx hcd dX0_openBlockerCount_12 rfl (lv_at hl 1 rfl) ?_
    refine r_bL G hC h b 2 j hb (by decide) (setB_at _ _ _) rfl (show j < 16 by omega) (x := nI (B.1 2 (j))) rfl dX0_openBlockerCount_13 ?_
    have q_4 := hz.1 2 (j)
    refine lv_aload_n hx hcd dX0_openBlockerCount_14 rfl (lv_at hl 0 rfl) ?_
    refine k_Vi (As := []) (rest := [.int (nI (B.1 2 (j)))]) (b := eX V (8 * b)) G hC hB h (met_X0_unfinishedSet l V S b B hb hz) mw_750 kv_X0_unfinishedSet ⟨rfl, rfl⟩ ⟨Nat.le_of_ble_eq_true rfl, Nat.le_of_ble_eq_true rfl⟩ (r_bV hC h b hb) rfl rfl hl.1 (Nat.le_of_ble_eq_true rfl) dX0_openBlockerCount_15 ⟨Nat.le_of_ble_eq_true rfl, Nat.le_of_ble_eq_true rfl⟩ (fun r u H locs hp h => ?_)
    obtain ⟨rfl, rfl⟩ := hp
    refine w_iand (v := nI ((B.1 2 (j)) &&& (unf B))) hx hcd dX0_openBlockerCount_18 (n_and _ _) ?_
    have q_5 : (B.1 2 (j)) &&& (unf B) < 65536 := and16 (by first | omega | exact p16 (by omega) | assumption)
    refine k_Si (As := [.int (nI ((B.1 2 (j)) &&& (unf B)))]) (rest := []) G hC hB h (met_J6_bitCount_0f7a4 l V (setB S b B) ((B.1 2 (j)) &&& (unf B)) (by first | omega | assumption)) mw_913 ks_J6_bitCount_0f7a4 ⟨rfl, rfl⟩ ⟨Nat.le_of_ble_eq_true rfl, Nat.le_of_ble_eq_true rfl⟩ rfl rfl hl.1 (Nat.le_of_ble_eq_true rfl) dX0_openBlockerCount_19 ⟨Nat.le_of_ble_eq_true rfl, Nat.le_of_ble_eq_true rfl⟩ (fun r u H locs hp h => ?_)
    obtain ⟨rfl, rfl⟩ := hp
    refine lv_goto (tgt := 26) hx hcd dX0_openBlockerCount_22 (by decide) ?_
    exact k_reti hQ G hret hlocks h (⟨by unfold opn; rw [if_pos (by omega)], rfl⟩) (Nat.le_of_ble_eq_true rfl) (Nat.le_of_ble_eq_true rfl) dX0_openBlockerCount_26
set_option maxHeartbeats 4000000 in
set_option maxRecDepth 100000 in
/-- putAssignment(i, d) -/
theorem met_X0_putAssignment (l : Launch) (V : kEnv) (S : kCs) (b : Nat) (B : kBd) (hb : b < 12) (hz : kSm B) (hn : B.2 0 ≤ 16) (hm : B.2 1 ≤ 4) (i : Nat) (hi : i < B.2 0) (d : Nat) (hd : d < B.2 1) : kU l yX0_putAssignment cX0_putAssignment 3 { frames := 1, cells := 0, slots := 0, locals := 21 } V (cWs V) [.ref (eX V (8 * b)), .int (nI (i)), .int (nI (d))] (setB S b B) (fun u => u = setB S b (bSet B 4 d (i + 1))) 0 0 := by
  refine kU_of (by decide +kernel) (Nat.le_of_ble_eq_true rfl) ?_
  intro p e s m args below meth c G hret hlocks hC hB h ls hl Q hQ
  have hl : lv_has ls 3 [(0, .ref (eX V (8 * b))), (1, .int (nI (i))), (2, .int (nI (d)))] := hl
  have hx := G.1
  have hcd := G.2.1
  refine lv_aload_n hx hcd dX0_putAssignment_0 rfl (lv_at hl 0 rfl) ?_
  refine lv_iload_n hx hcd dX0_putAssignment_1 rfl (lv_at hl 1 rfl) ?_
  refine k_Vi (As := [.int (nI (i))]) (rest := []) (b := eX V (8 * b)) G hC hB h (met_X0_hasStoryN l V S b B hb hn i (by omega)) mw_745 kv_X0_hasStory ⟨rfl, rfl⟩ ⟨Nat.le_of_ble_eq_true rfl, Nat.le_of_ble_eq_true rfl⟩ (r_bV hC h b hb) rfl rfl hl.1 (Nat.le_of_ble_eq_true rfl) dX0_putAssignment_2 ⟨Nat.le_of_ble_eq_true rfl, Nat.le_of_ble_eq_true rfl⟩ (fun r u H locs hp h => ?_)
  obtain ⟨rfl, rfl⟩ := hp
  refine lv_if_eq (tgt := 23) hx hcd dX0_putAssignment_5 (by decide) (fun c_1 => ?_) (fun c_1 => ?_)
  · have c_1 := bz0 c_1
    have f_3 := of_decide_eq_false c_1
    exact absurd hi (by assumption)
  · have c_1 := bz1 c_1
    have f_2 := of_decide_eq_true c_1
    refine lv_aload_n hx hcd dX0_putAssignment_8 rfl (lv_at hl 0 rfl) ?_
    refine lv_iload_n hx hcd dX0_putAssignment_9 rfl (lv_at hl 2 rfl) ?_
    refine k_Vi (As := [.int (nI (d))]) (rest := []) (b := eX V (8 * b)) G hC hB h (met_X0_hasDeveloperN l V S b B hb hm d (by omega)) mw_766 kv_X0_hasDeveloper ⟨rfl, rfl⟩ ⟨Nat.le_of_ble_eq_true rfl, Nat.le_of_ble_eq_true rfl⟩ (r_bV hC h b hb) rfl rfl hl.1 (Nat.le_of_ble_eq_true rfl) dX0_putAssignment_10 ⟨Nat.le_of_ble_eq_true rfl, Nat.le_of_ble_eq_true rfl⟩ (fun r u H locs hp h => ?_)
    obtain ⟨rfl, rfl⟩ := hp
    refine lv_if_eq (tgt := 23) hx hcd dX0_putAssignment_13 (by decide) (fun c_4 => ?_) (fun c_4 => ?_)
    · have c_4 := bz0 c_4
      have f_6 := of_decide_eq_false c_4
      exact absurd hd (by assumption)
    · have c_4 := bz1 c_4
      have f_5 := of_decide_eq_true c_4
      refine lv_aload_n hx hcd dX0_putAssignment_16 rfl (lv_at hl 0 rfl) ?_
      refine r_bA G hC h b 4 hb (by decide) mw_105 dX0_putAssignment_17 ?_
      refine lv_iload_n hx hcd dX0_putAssignment_20 rfl (lv_at hl 2 rfl) ?_
      refine lv_iload_n hx hcd dX0_putAssignment_21 rfl (lv_at hl 1 rfl) ?_
      refine r_bT G hC h b 4 d hb (by decide) (setB_at _ _ _) rfl (show d < 4 by omega) (i + 1) aOf.symm (setB_set _ _ _ _) dX0_putAssignment_22 (fun H locs h => ?_)
      exact k_retv hQ G hret hlocks h (rfl) (Nat.le_of_ble_eq_true rfl) (Nat.le_of_ble_eq_true rfl) dX0_putAssignment_23
set_option maxHeartbeats 4000000 in
set_option maxRecDepth 100000 in
/-- removeAssignment(d) -/
theorem met_X0_removeAssignment (l : Launch) (V : kEnv) (S : kCs) (b : Nat) (B : kBd) (hb : b < 12) (hz : kSm B) (hm : B.2 1 ≤ 4) (d : Nat) (hd : d < B.2 1) : kI l yX0_removeAssignment cX0_removeAssignment 3 (some .int) { frames := 1, cells := 0, slots := 0, locals := 21 } V (cWs V) [.ref (eX V (8 * b)), .int (nI (d))] (setB S b B) (fun r u => r = nI (B.1 4 d) - 1 ∧ u = setB S b (bSet B 4 d 0)) 0 0 := by
  refine kI_of (by decide +kernel) (Nat.le_of_ble_eq_true rfl) ?_
  intro p e s m args below meth c G hret hlocks hC hB h ls hl Q hQ
  have hl : lv_has ls 3 [(0, .ref (eX V (8 * b))), (1, .int (nI (d)))] := hl
  have hx := G.1
  have hcd := G.2.1
  refine lv_aload_n hx hcd dX0_removeAssignment_0 rfl (lv_at hl 0 rfl) ?_
  refine lv_iload_n hx hcd dX0_removeAssignment_1 rfl (lv_at hl 1 rfl) ?_
  refine k_Vi (As := [.int (nI (d))]) (rest := []) (b := eX V (8 * b)) G hC hB h (met_X0_hasDeveloperN l V S b B hb hm d (by omega)) mw_766 kv_X0_hasDeveloper ⟨rfl, rfl⟩ ⟨Nat.le_of_ble_eq_true rfl, Nat.le_of_ble_eq_true rfl⟩ (r_bV hC h b hb) rfl rfl hl.1 (Nat.le_of_ble_eq_true rfl) dX0_removeAssignment_2 ⟨Nat.le_of_ble_eq_true rfl, Nat.le_of_ble_eq_true rfl⟩ (fun r u H locs hp h => ?_)
  obtain ⟨rfl, rfl⟩ := hp
  refine lv_if_ne (tgt := 10) hx hcd dX0_removeAssignment_5 (by decide) (fun c_1 => ?_) (fun c_1 => ?_)
  · have c_1 := bz1 c_1
    have f_2 := of_decide_eq_true c_1
    refine lv_aload_n hx hcd dX0_removeAssignment_10 rfl (lv_at hl 0 rfl) ?_
    refine r_bA G hC h b 4 hb (by decide) mw_105 dX0_removeAssignment_11 ?_
    refine lv_iload_n hx hcd dX0_removeAssignment_14 rfl (lv_at hl 1 rfl) ?_
    refine r_bL G hC h b 4 d hb (by decide) (setB_at _ _ _) rfl (show d < 4 by omega) (x := nI (B.1 4 (d)) - 1) rfl dX0_removeAssignment_15 ?_
    have q_4 := hz.1 4 (d)
    refine lv_istore_n (lv' := [(2, .int (nI (B.1 4 (d)) - 1)), (0, .ref (eX V (8 * b))), (1, .int (nI (d)))]) hx hcd dX0_removeAssignment_16 rfl hl (by decide) rfl (fun ls hl => ?_)
    refine lv_aload_n hx hcd dX0_removeAssignment_17 rfl (lv_at hl 1 rfl) ?_
    refine r_bA G hC h b 4 hb (by decide) mw_105 dX0_removeAssignment_18 ?_
    refine lv_iload_n hx hcd dX0_removeAssignment_21 rfl (lv_at hl 2 rfl) ?_
    refine lv_iconst (v := -1) hx hcd dX0_removeAssignment_22 (by decide) ?_
    refine r_bT G hC h b 4 d hb (by decide) (setB_at _ _ _) rfl (show d < 4 by omega) (0) a0.symm (setB_set _ _ _ _) dX0_removeAssignment_23 (fun H locs h => ?_)
    refine lv_iload_n hx hcd dX0_removeAssignment_24 rfl (lv_at hl 0 rfl) ?_
    exact k_reti hQ G hret hlocks h (⟨rfl, rfl⟩) (Nat.le_of_ble_eq_true rfl) (Nat.le_of_ble_eq_true rfl) dX0_removeAssignment_25
  · have c_1 := bz0 c_1
    have f_3 := of_decide_eq_false c_1
    exact absurd hd (by assumption)
set_option maxHeartbeats 4000000 in
set_option maxRecDepth 100000 in
/-- putIntoPlan(j) -/
theorem met_X0_putIntoPlan (l : Launch) (V : kEnv) (S : kCs) (b : Nat) (B : kBd) (hb : b < 12) (hz : kSm B) (j : Nat) (hj : j < 16) : kI l yX0_putIntoPlan cX0_putIntoPlan 2 (some .int) { frames := 3, cells := 0, slots := 0, locals := 64 } V (cWs V) [.ref (eX V (8 * b)), .int (nI (j))] (setB S b B) (fun r u => r = nI (psum (bPut B 2 (B.2 2 ||| 2 ^ j)) 0) ∧ u = setB S b (bPut B 2 (B.2 2 ||| 2 ^ j))) 0 0 := by
  refine kI_of (by decide +kernel) (Nat.le_of_ble_eq_true rfl) ?_
  intro p e s m args below meth c G hret hlocks hC hB h ls hl Q hQ
  have hl : lv_has ls 2 [(0, .ref (eX V (8 * b))), (1, .int (nI (j)))] := hl
  have hx := G.1
  have hcd := G.2.1
  refine lv_aload_n hx hcd dX0_putIntoPlan_0 rfl (lv_at hl 0 rfl) ?_
  refine lv_dup hx hcd dX0_putIntoPlan_1 rfl ?_
  refine r_bS G hC h b 2 hb (by decide) (setB_at _ _ _) mw_115 (x := nI (B.2 2)) rfl dX0_putIntoPlan_2 ?_
  have q_1 := hz.2 2
  refine lv_iload_n hx hcd dX0_putIntoPlan_5 rfl (lv_at hl 1 rfl) ?_
  refine k_Ni (As := [.int (nI (j))]) (rest := [.int (nI (B.2 2)), .ref (eX V (8 * b))]) G hC hB h (met_X3_setOf l V (setB S b B) j (by omega)) hC.2.1.2.2.1 ks_X3_setOf ⟨rfl, rfl⟩ ⟨Nat.le_of_ble_eq_true rfl, Nat.le_of_ble_eq_true rfl⟩ rfl rfl hl.1 (Nat.le_of_ble_eq_true rfl) dX0_putIntoPlan_6 ⟨Nat.le_of_ble_eq_true rfl, Nat.le_of_ble_eq_true rfl⟩ (fun r u H locs hp h => ?_)
  obtain ⟨rfl, rfl⟩ := hp
  refine w_ior (v := nI ((B.2 2) ||| (2 ^ j))) hx hcd dX0_putIntoPlan_9 (n_or _ _) ?_
  have q_2 : (B.2 2) ||| (2 ^ j) < 65536 := or16 (by first | omega | exact p16 (by omega) | assumption) (by first | omega | exact p16 (by omega) | assumption)
  refine r_bP G hC h b 2 hb (by decide) (setB_at _ _ _) mw_115 (v := ((B.2 2) ||| (2 ^ j))) rfl (fun z => absurd z (by decide)) (setB_set _ _ _ _) dX0_putIntoPlan_10 (fun H locs h => ?_)
  refine lv_aload_n hx hcd dX0_putIntoPlan_13 rfl (lv_at hl 0 rfl) ?_
  refine k_Vi (As := []) (rest := []) (b := eX V (8 * b)) G hC hB h (met_X0_plannedPoints l V S b (bPut B 2 ((B.2 2) ||| (2 ^ j))) hb (kSm_put hz 2 (or16 (hz.2 2) (p16 hj)))) mw_1142 kv_X0_plannedPoints ⟨rfl, rfl⟩ ⟨Nat.le_of_ble_eq_true rfl, Nat.le_of_ble_eq_true rfl⟩ (r_bV hC h b hb) rfl rfl hl.1 (Nat.le_of_ble_eq_true rfl) dX0_putIntoPlan_14 ⟨Nat.le_of_ble_eq_true rfl, Nat.le_of_ble_eq_true rfl⟩ (fun r u H locs hp h => ?_)
  obtain ⟨rfl, rfl⟩ := hp
  exact k_reti hQ G hret hlocks h (⟨rfl, rfl⟩) (Nat.le_of_ble_eq_true rfl) (Nat.le_of_ble_eq_true rfl) dX0_putIntoPlan_17
set_option maxHeartbeats 4000000 in
set_option maxRecDepth 100000 in
/-- removeFromPlan(j) -/
theorem met_X0_removeFromPlan (l : Launch) (V : kEnv) (S : kCs) (b : Nat) (B : kBd) (hb : b < 12) (hz : kSm B) (j : Nat) (hj : j < 16) : kI l yX0_removeFromPlan cX0_removeFromPlan 2 (some .int) { frames := 3, cells := 0, slots := 0, locals := 64 } V (cWs V) [.ref (eX V (8 * b)), .int (nI (j))] (setB S b B) (fun r u => r = nI (psum (bPut B 2 (andn (B.2 2) (2 ^ j))) 0) ∧ u = setB S b (bPut B 2 (andn (B.2 2) (2 ^ j)))) 0 0 := by
  refine kI_of (by decide +kernel) (Nat.le_of_ble_eq_true rfl) ?_
  intro p e s m args below meth c G hret hlocks hC hB h ls hl Q hQ
  have hl : lv_has ls 2 [(0, .ref (eX V (8 * b))), (1, .int (nI (j)))] := hl
  have hx := G.1
  have hcd := G.2.1
  refine lv_aload_n hx hcd dX0_removeFromPlan_0 rfl (lv_at hl 0 rfl) ?_
  refine lv_dup hx hcd dX0_removeFromPlan_1 rfl ?_
  refine r_bS G hC h b 2 hb (by decide) (setB_at _ _ _) mw_115 (x := nI (B.2 2)) rfl dX0_removeFromPlan_2 ?_
  have q_1 := hz.2 2
  refine lv_iload_n hx hcd dX0_removeFromPlan_5 rfl (lv_at hl 1 rfl) ?_
  refine k_Ni (As := [.int (nI (j))]) (rest := [.int (nI (B.2 2)), .ref (eX V (8 * b))]) G hC hB h (met_X3_setOf l V (setB S b B) j (by omega)) hC.2.1.2.2.1 ks_X3_setOf ⟨rfl, rfl⟩ ⟨Nat.le_of_ble_eq_true rfl, Nat.le_of_ble_eq_true rfl⟩ rfl rfl hl.1 (Nat.le_of_ble_eq_true rfl) dX0_removeFromPlan_6 ⟨Nat.le_of_ble_eq_true rfl, Nat.le_of_ble_eq_true rfl⟩ (fun r u H locs hp h => ?_)
  obtain ⟨rfl, rfl⟩ := hp
  refine lv_iconst (v := -1) hx hcd dX0_removeFromPlan_9 (by decide) ?_
  refine w_ixor (v := nI (2 ^ j) ^^^ (-1)) hx hcd dX0_removeFromPlan_10 rfl ?_
  refine w_iand (v := nI (andn (B.2 2) (2 ^ j))) hx hcd dX0_removeFromPlan_11 (n_andn (by first | omega | exact p16 (by omega) | assumption) (by first | omega | exact p16 (by omega) | assumption)) ?_
  have q_2 : andn (B.2 2) (2 ^ j) < 65536 := andn_lt (by first | omega | exact p16 (by omega) | assumption)
  refine r_bP G hC h b 2 hb (by decide) (setB_at _ _ _) mw_115 (v := (andn (B.2 2) (2 ^ j))) rfl (fun z => absurd z (by decide)) (setB_set _ _ _ _) dX0_removeFromPlan_12 (fun H locs h => ?_)
  refine lv_aload_n hx hcd dX0_removeFromPlan_15 rfl (lv_at hl 0 rfl) ?_
  refine k_Vi (As := []) (rest := []) (b := eX V (8 * b)) G hC hB h (met_X0_plannedPoints l V S b (bPut B 2 (andn (B.2 2) (2 ^ j))) hb (kSm_put hz 2 (andn_lt (hz.2 2)))) mw_1142 kv_X0_plannedPoints ⟨rfl, rfl⟩ ⟨Nat.le_of_ble_eq_true rfl, Nat.le_of_ble_eq_true rfl⟩ (r_bV hC h b hb) rfl rfl hl.1 (Nat.le_of_ble_eq_true rfl) dX0_removeFromPlan_16 ⟨Nat.le_of_ble_eq_true rfl, Nat.le_of_ble_eq_true rfl⟩ (fun r u H locs hp h => ?_)
  obtain ⟨rfl, rfl⟩ := hp
  exact k_reti hQ G hret hlocks h (⟨rfl, rfl⟩) (Nat.le_of_ble_eq_true rfl) (Nat.le_of_ble_eq_true rfl) dX0_removeFromPlan_19
set_option maxHeartbeats 4000000 in
set_option maxRecDepth 100000 in
/-- beginSprint(q) -/
theorem met_X0_beginSprint (l : Launch) (V : kEnv) (S : kCs) (b : Nat) (B : kBd) (hb : b < 12) (hz : kSm B) (q : Nat) (hq : q < 65536) (hs0 : psum B 0 < 65536) : kI l yX0_beginSprint cX0_beginSprint 2 (some .int) { frames := 3, cells := 0, slots := 0, locals := 64 } V (cWs V) [.ref (eX V (8 * b)), .int (nI (q))] (setB S b B) (fun r u => r = nI (B.2 7) ∧ u = setB S b (begB B q)) 0 0 := by
  refine kI_of (by decide +kernel) (Nat.le_of_ble_eq_true rfl) ?_
  intro p e s m args below meth c G hret hlocks hC hB h ls hl Q hQ
  have hl : lv_has ls 2 [(0, .ref (eX V (8 * b))), (1, .int (nI (q)))] := hl
  have hx := G.1
  have hcd := G.2.1
  have z1 := kSm_put (kSm_put (kSm_put hz 3 (v := 1) (by decide)) 4 hq) 5 (v := 0) (by decide)
  have z2 := kSm_put z1 6 (v := psum (bPut (bPut (bPut B 3 1) 4 q) 5 0) 0) hs0
  refine lv_aload_n hx hcd dX0_beginSprint_0 rfl (lv_at hl 0 rfl) ?_
  refine lv_iconst (v := nI 1) hx hcd dX0_beginSprint_1 (by decide) ?_
  refine r_bP G hC h b 3 hb (by decide) (setB_at _ _ _) mw_116 (v := 1) rfl (by first | decide | (intro _; omega)) (setB_set _ _ _ _) dX0_beginSprint_2 (fun H locs h => ?_)
  refine lv_aload_n hx hcd dX0_beginSprint_5 rfl (lv_at hl 0 rfl) ?_
  refine lv_iload_n hx hcd dX0_beginSprint_6 rfl (lv_at hl 1 rfl) ?_
  refine r_bP G hC h b 4 hb (by decide) (setB_at _ _ _) mw_118 (v := q) rfl (fun z => absurd z (by decide)) (setB_set _ _ _ _) dX0_beginSprint_7 (fun H locs h => ?_)
  refine lv_aload_n hx hcd dX0_beginSprint_10 rfl (lv_at hl 0 rfl) ?_
  refine lv_iconst (v := nI 0) hx hcd dX0_beginSprint_11 (by decide) ?_
  refine r_bP G hC h b 5 hb (by decide) (setB_at _ _ _) mw_120 (v := 0) rfl (fun z => absurd z (by decide)) (setB_set _ _ _ _) dX0_beginSprint_12 (fun H locs h => ?_)
  refine lv_aload_n hx hcd dX0_beginSprint_15 rfl (lv_at hl 0 rfl) ?_
  refine lv_aload_n hx hcd dX0_beginSprint_16 rfl (lv_at hl 0 rfl) ?_
  refine k_Vi (As := []) (rest := [.ref (eX V (8 * b))]) (b := eX V (8 * b)) G hC hB h (met_X0_plannedPoints l V S b (bPut (bPut (bPut B 3 (1)) 4 (q)) 5 (0)) hb (by assumption)) mw_1142 kv_X0_plannedPoints ⟨rfl, rfl⟩ ⟨Nat.le_of_ble_eq_true rfl, Nat.le_of_ble_eq_true rfl⟩ (r_bV hC h b hb) rfl rfl hl.1 (Nat.le_of_ble_eq_true rfl) dX0_beginSprint_17 ⟨Nat.le_of_ble_eq_true rfl, Nat.le_of_ble_eq_true rfl⟩ (fun r u H locs hp h => ?_)
  obtain ⟨rfl, rfl⟩ := hp
  refine r_bP G hC h b 6 hb (by decide) (setB_at _ _ _) mw_122 (v := (psum (bPut (bPut (bPut B 3 (1)) 4 (q)) 5 (0)) 0)) rfl (fun z => absurd z (by decide)) (setB_set _ _ _ _) dX0_beginSprint_20 (fun H locs h => ?_)
  refine lv_aload_n hx hcd dX0_beginSprint_23 rfl (lv_at hl 0 rfl) ?_
  refine r_bA G hC h b 5 hb (by decide) mw_107 dX0_beginSprint_24 ?_
  refine lv_iconst (v := nI 0) hx hcd dX0_beginSprint_27 (by decide) ?_
  refine lv_aload_n hx hcd dX0_beginSprint_28 rfl (lv_at hl 0 rfl) ?_
  refine k_Vi (As := []) (rest := [.int (nI 0), .ref (eX V (8 * b + (5 + 1)))]) (b := eX V (8 * b)) G hC hB h (met_X0_plannedRemains l V S b (bPut (bPut (bPut (bPut B 3 (1)) 4 (q)) 5 (0)) 6 (psum (bPut (bPut (bPut B 3 (1)) 4 (q)) 5 (0)) 0)) hb (by assumption)) mw_1177 kv_X0_plannedRemains ⟨rfl, rfl⟩ ⟨Nat.le_of_ble_eq_true rfl, Nat.le_of_ble_eq_true rfl⟩ (r_bV hC h b hb) rfl rfl hl.1 (Nat.le_of_ble_eq_true rfl) dX0_beginSprint_29 ⟨Nat.le_of_ble_eq_true rfl, Nat.le_of_ble_eq_true rfl⟩ (fun r u H locs hp h => ?_)
  obtain ⟨rfl, rfl⟩ := hp
  refine r_bT G hC h b 5 0 hb (by decide) (setB_at _ _ _) rfl (show 0 < 11 by omega) (psum (bPut (bPut (bPut (bPut B 3 (1)) 4 (q)) 5 (0)) 6 (psum (bPut (bPut (bPut B 3 (1)) 4 (q)) 5 (0)) 0)) 1) rfl (setB_set _ _ _ _) dX0_beginSprint_32 (fun H locs h => ?_)
  refine lv_aload_n hx hcd dX0_beginSprint_33 rfl (lv_at hl 0 rfl) ?_
  refine r_bS G hC h b 7 hb (by decide) (setB_at _ _ _) mw_124 (x := nI (B.2 7)) rfl dX0_beginSprint_34 ?_
  have q_1 := hz.2 7
  exact k_reti hQ G hret hlocks h (⟨rfl, rfl⟩) (Nat.le_of_ble_eq_true rfl) (Nat.le_of_ble_eq_true rfl) dX0_beginSprint_37
set_option maxHeartbeats 4000000 in
set_option maxRecDepth 100000 in
/-- closeSprint() -/
theorem met_X0_closeSprint (l : Launch) (V : kEnv) (S : kCs) (b : Nat) (B : kBd) (hb : b < 12) (hz : kSm B) (h7 : B.2 7 < 9) : kI l yX0_closeSprint cX0_closeSprint 3 (some .int) { frames := 2, cells := 0, slots := 0, locals := 43 } V (cWs V) [.ref (eX V (8 * b))] (setB S b B) (fun r u => r = nI (pfin B) ∧ u = setB S b (endB B)) 0 0 := by
  refine kI_of (by decide +kernel) (Nat.le_of_ble_eq_true rfl) ?_
  intro p e s m args below meth c G hret hlocks hC hB h ls hl Q hQ
  have hl : lv_has ls 3 [(0, .ref (eX V (8 * b)))] := hl
  have hx := G.1
  have hcd := G.2.1
  refine lv_aload_n hx hcd dX0_closeSprint_0 rfl (lv_at hl 0 rfl) ?_
  refine k_Vi (As := []) (rest := []) (b := eX V (8 * b)) G hC hB h (met_X0_finishedPoints l V S b B hb hz) mw_1205 kv_X0_finishedPoints ⟨rfl, rfl⟩ ⟨Nat.le_of_ble_eq_true rfl, Nat.le_of_ble_eq_true rfl⟩ (r_bV hC h b hb) rfl rfl hl.1 (Nat.le_of_ble_eq_true rfl) dX0_closeSprint_1 ⟨Nat.le_of_ble_eq_true rfl, Nat.le_of_ble_eq_true rfl⟩ (fun r u H locs hp h => ?_)
  obtain ⟨rfl, rfl⟩ := hp
  refine lv_istore_n (lv' := [(1, .int (nI (pfin B))), (0, .ref (eX V (8 * b)))]) hx hcd dX0_closeSprint_4 rfl hl (by decide) rfl (fun ls hl => ?_)
  refine lv_aload_n hx hcd dX0_closeSprint_5 rfl (lv_at hl 1 rfl) ?_
  refine r_bS G hC h b 7 hb (by decide) (setB_at _ _ _) mw_124 (x := nI (B.2 7)) rfl dX0_closeSprint_6 ?_
  have q_1 := hz.2 7
  refine lv_if_lt (tgt := 34) hx hcd dX0_closeSprint_9 (by decide) (fun c_2 => ?_) (fun c_2 => ?_)
  · have c_2 := cLt (tN (n := B.2 7) (by omega)) t0 c_2
    exact absurd c_2 (by omega)
  · have c_2 := cNlt (tN (n := B.2 7) (by omega)) t0 c_2
    refine lv_aload_n hx hcd dX0_closeSprint_12 rfl (lv_at hl 1 rfl) ?_
    refine r_bS G hC h b 7 hb (by decide) (setB_at _ _ _) mw_124 (x := nI (B.2 7)) rfl dX0_closeSprint_13 ?_
    have q_3 := hz.2 7
    refine lv_aload_n hx hcd dX0_closeSprint_16 rfl (lv_at hl 1 rfl) ?_
    refine r_bA G hC h b 6 hb (by decide) mw_109 dX0_closeSprint_17 ?_
    refine r_bN G hC h b 6 hb (by decide) (x := nI (9)) rfl dX0_closeSprint_20 ?_
    refine lv_icmp_ge (tgt := 34) hx hcd dX0_closeSprint_21 (by decide) (fun c_4 => ?_) (fun c_4 => ?_)
    · have c_4 := cLe (tN (n := 9) (by decide)) (tN (n := B.2 7) (by omega)) c_4
      exact absurd c_4 (by omega)
    · have c_4 := cNle (tN (n := 9) (by decide)) (tN (n := B.2 7) (by omega)) c_4
      refine lv_aload_n hx hcd dX0_closeSprint_24 rfl (lv_at hl 1 rfl) ?_
      refine r_bA G hC h b 6 hb (by decide) mw_109 dX0_closeSprint_25 ?_
      refine lv_aload_n hx hcd dX0_closeSprint_28 rfl (lv_at hl 1 rfl) ?_
      refine r_bS G hC h b 7 hb (by decide) (setB_at _ _ _) mw_124 (x := nI (B.2 7)) rfl dX0_closeSprint_29 ?_
      have q_5 := hz.2 7
      refine lv_iload_n hx hcd dX0_closeSprint_32 rfl (lv_at hl 0 rfl) ?_
      refine r_bT G hC h b 6 (B.2 7) hb (by decide) (setB_at _ _ _) rfl (show B.2 7 < 9 by omega) (pfin B) rfl (setB_set _ _ _ _) dX0_closeSprint_33 (fun H locs h => ?_)
      refine lv_aload_n hx hcd dX0_closeSprint_34 rfl (lv_at hl 1 rfl) ?_
      refine lv_dup hx hcd dX0_closeSprint_35 rfl ?_
      refine r_bS G hC h b 7 hb (by decide) (setB_at _ _ _) mw_124 (x := nI (B.2 7)) rfl dX0_closeSprint_36 ?_
      have q_6 := hz.2 7
      refine lv_iconst (v := nI 1) hx hcd dX0_closeSprint_39 (by decide) ?_
      refine w_iadd (v := nI ((B.2 7) + 1)) hx hcd dX0_closeSprint_40 (nI_add _ _) ?_
      refine r_bP G hC h b 7 hb (by decide) (setB_at _ _ _) mw_124 (v := ((B.2 7) + 1)) rfl (fun z => absurd z (by decide)) (setB_set _ _ _ _) dX0_closeSprint_41 (fun H locs h => ?_)
      refine lv_aload_n hx hcd dX0_closeSprint_44 rfl (lv_at hl 1 rfl) ?_
      refine lv_iconst (v := nI 0) hx hcd dX0_closeSprint_45 (by decide) ?_
      refine r_bP G hC h b 3 hb (by decide) (setB_at _ _ _) mw_116 (v := 0) rfl (by first | decide | (intro _; omega)) (setB_set _ _ _ _) dX0_closeSprint_46 (fun H locs h => ?_)
      refine lv_aload_n hx hcd dX0_closeSprint_49 rfl (lv_at hl 1 rfl) ?_
      refine lv_iconst (v := nI 0) hx hcd dX0_closeSprint_50 (by decide) ?_
      refine r_bP G hC h b 2 hb (by decide) (setB_at _ _ _) mw_115 (v := 0) rfl (fun z => absurd z (by decide)) (setB_set _ _ _ _) dX0_closeSprint_51 (fun H locs h => ?_)
      refine lv_iconst (v := nI 0) hx hcd dX0_closeSprint_54 (by decide) ?_
      refine lv_istore_n (lv' := [(2, .int (nI 0)), (1, .int (nI (pfin B))), (0, .ref (eX V (8 * b)))]) hx hcd dX0_closeSprint_55 rfl hl (by decide) rfl (fun ls hl => ?_)
      refine lv_iload_n hx hcd dX0_closeSprint_56 rfl (lv_at hl 0 rfl) ?_
      refine lv_aload_n hx hcd dX0_closeSprint_57 rfl (lv_at hl 2 rfl) ?_
      refine r_bA G hC h b 4 hb (by decide) mw_105 dX0_closeSprint_58 ?_
      refine r_bN G hC h b 4 hb (by decide) (x := nI (4)) rfl dX0_closeSprint_61 ?_
      refine lv_icmp_ge (tgt := 78) hx hcd dX0_closeSprint_62 (by decide) (fun c_8 => absurd c_8 (by decide)) (fun _ => ?_)
      refine lv_aload_n hx hcd dX0_closeSprint_65 rfl (lv_at hl 2 rfl) ?_
      refine r_bA G hC h b 4 hb (by decide) mw_105 dX0_closeSprint_66 ?_
      refine lv_iload_n hx hcd dX0_closeSprint_69 rfl (lv_at hl 0 rfl) ?_
      refine lv_iconst (v := -1) hx hcd dX0_closeSprint_70 (by decide) ?_
      refine r_bT G hC h b 4 0 hb (by decide) (setB_at _ _ _) rfl (show 0 < 4 by omega) (0) a0.symm (setB_set _ _ _ _) dX0_closeSprint_71 (fun H locs h => ?_)
      refine lv_iinc (v := nI 1) (lv' := [(2, .int (nI 1)), (1, .int (nI (pfin B))), (0, .ref (eX V (8 * b)))]) hx hcd dX0_closeSprint_72 hl (k := 0) rfl (by decide) (by decide) rfl (fun ls hl => ?_)
      refine lv_goto (tgt := 56) hx hcd dX0_closeSprint_75 (by decide) ?_
      refine lv_iload_n hx hcd dX0_closeSprint_56 rfl (lv_at hl 0 rfl) ?_
      refine lv_aload_n hx hcd dX0_closeSprint_57 rfl (lv_at hl 2 rfl) ?_
      refine r_bA G hC h b 4 hb (by decide) mw_105 dX0_closeSprint_58 ?_
      refine r_bN G hC h b 4 hb (by decide) (x := nI (4)) rfl dX0_closeSprint_61 ?_
      refine lv_icmp_ge (tgt := 78) hx hcd dX0_closeSprint_62 (by decide) (fun c_9 => absurd c_9 (by decide)) (fun _ => ?_)
      refine lv_aload_n hx hcd dX0_closeSprint_65 rfl (lv_at hl 2 rfl) ?_
      refine r_bA G hC h b 4 hb (by decide) mw_105 dX0_closeSprint_66 ?_
      refine lv_iload_n hx hcd dX0_closeSprint_69 rfl (lv_at hl 0 rfl) ?_
      refine lv_iconst (v := -1) hx hcd dX0_closeSprint_70 (by decide) ?_
      refine r_bT G hC h b 4 1 hb (by decide) (setB_at _ _ _) rfl (show 1 < 4 by omega) (0) a0.symm (setB_set _ _ _ _) dX0_closeSprint_71 (fun H locs h => ?_)
      refine lv_iinc (v := nI 2) (lv' := [(2, .int (nI 2)), (1, .int (nI (pfin B))), (0, .ref (eX V (8 * b)))]) hx hcd dX0_closeSprint_72 hl (k := 0) rfl (by decide) (by decide) rfl (fun ls hl => ?_)
      refine lv_goto (tgt := 56) hx hcd dX0_closeSprint_75 (by decide) ?_
      refine lv_iload_n hx hcd dX0_closeSprint_56 rfl (lv_at hl 0 rfl) ?_
      refine lv_aload_n hx hcd dX0_closeSprint_57 rfl (lv_at hl 2 rfl) ?_
      refine r_bA G hC h b 4 hb (by decide) mw_105 dX0_closeSprint_58 ?_
      refine r_bN G hC h b 4 hb (by decide) (x := nI (4)) rfl dX0_closeSprint_61 ?_
      refine lv_icmp_ge (tgt := 78) hx hcd dX0_closeSprint_62 (by decide) (fun c_10 => absurd c_10 (by decide)) (fun _ => ?_)
      refine lv_aload_n hx hcd dX0_closeSprint_65 rfl (lv_at hl 2 rfl) ?_
      refine r_bA G hC h b 4 hb (by decide) mw_105 dX0_closeSprint_66 ?_
      refine lv_iload_n hx hcd dX0_closeSprint_69 rfl (lv_at hl 0 rfl) ?_
      refine lv_iconst (v := -1) hx hcd dX0_closeSprint_70 (by decide) ?_
      refine r_bT G hC h b 4 2 hb (by decide) (setB_at _ _ _) rfl (show 2 < 4 by omega) (0) a0.symm (setB_set _ _ _ _) dX0_closeSprint_71 (fun H locs h => ?_)
      refine lv_iinc (v := nI 3) (lv' := [(2, .int (nI 3)), (1, .int (nI (pfin B))), (0, .ref (eX V (8 * b)))]) hx hcd dX0_closeSprint_72 hl (k := 0) rfl (by decide) (by decide) rfl (fun ls hl => ?_)
      refine lv_goto (tgt := 56) hx hcd dX0_closeSprint_75 (by decide) ?_
      refine lv_iload_n hx hcd dX0_closeSprint_56 rfl (lv_at hl 0 rfl) ?_
      refine lv_aload_n hx hcd dX0_closeSprint_57 rfl (lv_at hl 2 rfl) ?_
      refine r_bA G hC h b 4 hb (by decide) mw_105 dX0_closeSprint_58 ?_
      refine r_bN G hC h b 4 hb (by decide) (x := nI (4)) rfl dX0_closeSprint_61 ?_
      refine lv_icmp_ge (tgt := 78) hx hcd dX0_closeSprint_62 (by decide) (fun c_11 => absurd c_11 (by decide)) (fun _ => ?_)
      refine lv_aload_n hx hcd dX0_closeSprint_65 rfl (lv_at hl 2 rfl) ?_
      refine r_bA G hC h b 4 hb (by decide) mw_105 dX0_closeSprint_66 ?_
      refine lv_iload_n hx hcd dX0_closeSprint_69 rfl (lv_at hl 0 rfl) ?_
      refine lv_iconst (v := -1) hx hcd dX0_closeSprint_70 (by decide) ?_
      refine r_bT G hC h b 4 3 hb (by decide) (setB_at _ _ _) rfl (show 3 < 4 by omega) (0) a0.symm (setB_set _ _ _ _) dX0_closeSprint_71 (fun H locs h => ?_)
      refine lv_iinc (v := nI 4) (lv' := [(2, .int (nI 4)), (1, .int (nI (pfin B))), (0, .ref (eX V (8 * b)))]) hx hcd dX0_closeSprint_72 hl (k := 0) rfl (by decide) (by decide) rfl (fun ls hl => ?_)
      refine lv_goto (tgt := 56) hx hcd dX0_closeSprint_75 (by decide) ?_
      refine lv_iload_n hx hcd dX0_closeSprint_56 rfl (lv_at hl 0 rfl) ?_
      refine lv_aload_n hx hcd dX0_closeSprint_57 rfl (lv_at hl 2 rfl) ?_
      refine r_bA G hC h b 4 hb (by decide) mw_105 dX0_closeSprint_58 ?_
      refine r_bN G hC h b 4 hb (by decide) (x := nI (4)) rfl dX0_closeSprint_61 ?_
      refine lv_icmp_ge (tgt := 78) hx hcd dX0_closeSprint_62 (by decide) (fun _ => ?_) (fun c_12 => absurd c_12 (by decide))
      refine lv_iload_n hx hcd dX0_closeSprint_78 rfl (lv_at hl 1 rfl) ?_
      exact k_reti hQ G hret hlocks h (⟨rfl, rfl⟩) (Nat.le_of_ble_eq_true rfl) (Nat.le_of_ble_eq_true rfl) dX0_closeSprint_79
set_option maxHeartbeats 4000000 in
set_option maxRecDepth 100000 in
/-- velocitySum() -/
theorem met_X0_velocitySum (l : Launch) (V : kEnv) (S : kCs) (b : Nat) (B : kBd) (hb : b < 12) (hz : kSm B) (h7 : B.2 7 ≤ 9) : kI l yX0_velocitySum cX0_velocitySum 3 (some .int) { frames := 0, cells := 0, slots := 0, locals := 0 } V (cWs V) [.ref (eX V (8 * b))] (setB S b B) (fun r u => r = nI (sumUp (B.1 6) (B.2 7)) ∧ u = setB S b B) 0 0 := by
  refine kI_of (by decide +kernel) (Nat.le_of_ble_eq_true rfl) ?_
  intro p e s m args below meth c G hret hlocks hC hB h ls hl Q hQ
  have hl : lv_has ls 3 [(0, .ref (eX V (8 * b)))] := hl
  have hx := G.1
  have hcd := G.2.1
  refine lv_iconst (v := nI 0) hx hcd dX0_velocitySum_0 (by decide) ?_
  refine lv_istore_n (lv' := [(1, .int (nI 0)), (0, .ref (eX V (8 * b)))]) hx hcd dX0_velocitySum_1 rfl hl (by decide) rfl (fun ls hl => ?_)
  refine lv_iconst (v := nI 0) hx hcd dX0_velocitySum_2 (by decide) ?_
  refine lv_istore_n (lv' := [(2, .int (nI 0)), (1, .int (nI 0)), (0, .ref (eX V (8 * b)))]) hx hcd dX0_velocitySum_3 rfl hl (by decide) rfl (fun ls hl => ?_)
  have L_1 : ∀ (fu_3 : Nat) (i : Nat) (acc : Nat) (hi : i ≤ (B.2 7)) (ha : acc = sumUp (B.1 6) i) (hb2 : acc ≤ i * 65536), (B.2 7) - i < fu_3 → ∀ (H : Heap) (locs : List Loc), cH V s H locs (cWs V (setB S b B)) → ∀ ls : Array Slot, lv_has ls 3 [(1, .int (nI (acc))), (2, .int (nI (i))), (0, .ref (eX V (8 * b)))] → W p l e { frames := 0, cells := 0, slots := 0, locals := 0 } s m args below meth c H locs 0 0 Q (F0 m 4 ls []) := by
    intro fu_3
    induction fu_3 with
    | zero => intro i acc hi ha hb2 hm; exact absurd hm (Nat.not_lt_zero _)
    | succ fu_3 ih_2 =>
      intro i acc hi ha hb2 hm H locs h ls hl
      refine lv_iload_n hx hcd dX0_velocitySum_4 rfl (lv_at hl 1 rfl) ?_
      refine lv_aload_n hx hcd dX0_velocitySum_5 rfl (lv_at hl 2 rfl) ?_
      refine r_bS G hC h b 7 hb (by decide) (setB_at _ _ _) mw_124 (x := nI (B.2 7)) rfl dX0_velocitySum_6 ?_
      have q_4 := hz.2 7
      refine lv_icmp_ge (tgt := 36) hx hcd dX0_velocitySum_9 (by decide) (fun c_5 => ?_) (fun c_5 => ?_)
      · have c_5 := cLe (tN (n := B.2 7) (by omega)) (tN (n := i) (by omega)) c_5
        refine lv_iload_n hx hcd dX0_velocitySum_36 rfl (lv_at hl 0 rfl) ?_
        exact k_reti hQ G hret hlocks h (⟨by rw [ha, show i = B.2 7 by omega], rfl⟩) (Nat.le_of_ble_eq_true rfl) (Nat.le_of_ble_eq_true rfl) dX0_velocitySum_37
      · have c_5 := cNle (tN (n := B.2 7) (by omega)) (tN (n := i) (by omega)) c_5
        refine lv_iload_n hx hcd dX0_velocitySum_12 rfl (lv_at hl 1 rfl) ?_
        refine lv_aload_n hx hcd dX0_velocitySum_13 rfl (lv_at hl 2 rfl) ?_
        refine r_bA G hC h b 6 hb (by decide) mw_109 dX0_velocitySum_14 ?_
        refine r_bN G hC h b 6 hb (by decide) (x := nI (9)) rfl dX0_velocitySum_17 ?_
        refine lv_icmp_ge (tgt := 36) hx hcd dX0_velocitySum_18 (by decide) (fun c_6 => ?_) (fun c_6 => ?_)
        · have c_6 := cLe (tN (n := 9) (by decide)) (tN (n := i) (by omega)) c_6
          exact absurd c_6 (by omega)
        · have c_6 := cNle (tN (n := 9) (by decide)) (tN (n := i) (by omega)) c_6
          refine lv_iload_n hx hcd dX0_velocitySum_21 rfl (lv_at hl 0 rfl) ?_
          refine lv_aload_n hx hcd dX0_velocitySum_22 rfl (lv_at hl 2 rfl) ?_
          refine r_bA G hC h b 6 hb (by decide) mw_109 dX0_velocitySum_23 ?_
          refine lv_iload_n hx hcd dX0_velocitySum_26 rfl (lv_at hl 1 rfl) ?_
          refine r_bL G hC h b 6 i hb (by decide) (setB_at _ _ _) rfl (show i < 9 by omega) (x := nI (B.1 6 (i))) rfl dX0_velocitySum_27 ?_
          have q_7 := hz.1 6 (i)
          refine w_iadd (v := nI (acc + (B.1 6 (i)))) hx hcd dX0_velocitySum_28 (nI_add _ _) ?_
          refine lv_istore_n (lv' := [(1, .int (nI (acc + (B.1 6 (i))))), (2, .int (nI (i))), (0, .ref (eX V (8 * b)))]) hx hcd dX0_velocitySum_29 rfl hl (by decide) rfl (fun ls hl => ?_)
          refine lv_iinc (v := nI (i + 1)) (lv' := [(2, .int (nI (i + 1))), (1, .int (nI (acc + (B.1 6 (i))))), (0, .ref (eX V (8 * b)))]) hx hcd dX0_velocitySum_30 hl (k := 1) rfl (by exact nI_add (i) 1) (by decide) rfl (fun ls hl => ?_)
          refine lv_goto (tgt := 4) hx hcd dX0_velocitySum_33 (by decide) ?_
          exact ih_2 (i + 1) (acc + (B.1 6 (i))) (by omega) (sumUp_t ha rfl) (acc_in hb2 (by omega)) (by omega) _ _ h _ (lv_sub hl [1, 0, 2] rfl)
  exact L_1 ((B.2 7) + 1) 0 0 (by omega) rfl (by omega) (by omega) _ _ h _ (lv_sub hl [1, 0, 2] rfl)
set_option maxHeartbeats 4000000 in
set_option maxRecDepth 100000 in
/-- firstReady(set) -/
theorem met_X0_firstReady (l : Launch) (V : kEnv) (S : kCs) (b : Nat) (B : kBd) (hb : b < 12) (hz : kSm B) (hn : B.2 0 ≤ 16) (q : Nat) (hq : q < 65536) : kI l yX0_firstReady cX0_firstReady 3 (some .int) { frames := 1, cells := 0, slots := 0, locals := 21 } V (cWs V) [.ref (eX V (8 * b)), .int (nI (q))] (setB S b B) (fun r u => r = nI (frd B q) - 1 ∧ u = setB S b B) 0 0 := by
  refine kI_of (by decide +kernel) (Nat.le_of_ble_eq_true rfl) ?_
  intro p e s m args below meth c G hret hlocks hC hB h ls hl Q hQ
  have hl : lv_has ls 3 [(0, .ref (eX V (8 * b))), (1, .int (nI (q)))] := hl
  have hx := G.1
  have hcd := G.2.1
  refine lv_iconst (v := nI 0) hx hcd dX0_firstReady_0 (by decide) ?_
  refine lv_istore_n (lv' := [(2, .int (nI 0)), (0, .ref (eX V (8 * b))), (1, .int (nI (q)))]) hx hcd dX0_firstReady_1 rfl hl (by decide) rfl (fun ls hl => ?_)
  have L_1 : ∀ (fu_3 : Nat) (i : Nat) (hi : i ≤ 16) (hF : frd B q = frdN B q (17 - i) i), 17 - i < fu_3 → ∀ (H : Heap) (locs : List Loc), cH V s H locs (cWs V (setB S b B)) → ∀ ls : Array Slot, lv_has ls 3 [(2, .int (nI (i))), (0, .ref (eX V (8 * b))), (1, .int (nI (q)))] → W p l e { frames := 1, cells := 0, slots := 0, locals := 21 } s m args below meth c H locs 0 0 Q (F0 m 2 ls []) := by
    intro fu_3
    induction fu_3 with
    | zero => intro i hi hF hm; exact absurd hm (Nat.not_lt_zero _)
    | succ fu_3 ih_2 =>
      intro i hi hF hm H locs h ls hl
      refine lv_iload_n hx hcd dX0_firstReady_2 rfl (lv_at hl 0 rfl) ?_
      refine lv_aload_n hx hcd dX0_firstReady_3 rfl (lv_at hl 1 rfl) ?_
      refine r_bS G hC h b 0 hb (by decide) (setB_at _ _ _) mw_111 (x := nI (B.2 0)) rfl dX0_firstReady_4 ?_
      have q_4 := hz.2 0
      refine lv_icmp_ge (tgt := 48) hx hcd dX0_firstReady_7 (by decide) (fun c_5 => ?_) (fun c_5 => ?_)
      · have c_5 := cLe (tN (n := B.2 0) (by omega)) (tN (n := i) (by omega)) c_5
        refine lv_iconst (v := -1) hx hcd dX0_firstReady_48 (by decide) ?_
        exact k_reti hQ G hret hlocks h (⟨by rw [hF, show 17 - i = (16 - i) + 1 by omega, frdN, if_neg (by omega)]; decide, rfl⟩) (Nat.le_of_ble_eq_true rfl) (Nat.le_of_ble_eq_true rfl) dX0_firstReady_49
      · have c_5 := cNle (tN (n := B.2 0) (by omega)) (tN (n := i) (by omega)) c_5
        refine lv_iload_n hx hcd dX0_firstReady_10 rfl (lv_at hl 0 rfl) ?_
        refine lv_aload_n hx hcd dX0_firstReady_11 rfl (lv_at hl 1 rfl) ?_
        refine r_bA G hC h b 2 hb (by decide) mw_102 dX0_firstReady_12 ?_
        refine r_bN G hC h b 2 hb (by decide) (x := nI (16)) rfl dX0_firstReady_15 ?_
        refine lv_icmp_ge (tgt := 48) hx hcd dX0_firstReady_16 (by decide) (fun c_6 => ?_) (fun c_6 => ?_)
        · have c_6 := cLe (tN (n := 16) (by decide)) (tN (n := i) (by omega)) c_6
          exact absurd c_6 (by omega)
        · have c_6 := cNle (tN (n := 16) (by decide)) (tN (n := i) (by omega)) c_6
          refine lv_iload_n hx hcd dX0_firstReady_19 rfl (lv_at hl 2 rfl) ?_
          refine lv_iload_n hx hcd dX0_firstReady_20 rfl (lv_at hl 0 rfl) ?_
          refine k_Ni (As := [.int (nI (q)), .int (nI (i))]) (rest := []) G hC hB h (met_X3_holds l V (setB S b B) q i (by omega) (by omega)) hC.2.1.2.1 ks_X3_holds ⟨rfl, rfl⟩ ⟨Nat.le_of_ble_eq_true rfl, Nat.le_of_ble_eq_true rfl⟩ rfl rfl hl.1 (Nat.le_of_ble_eq_true rfl) dX0_firstReady_21 ⟨Nat.le_of_ble_eq_true rfl, Nat.le_of_ble_eq_true rfl⟩ (fun r u H locs hp h => ?_)
          obtain ⟨rfl, rfl⟩ := hp
          refine lv_if_ne (tgt := 42) hx hcd dX0_firstReady_24 (by decide) (fun c_7 => ?_) (fun c_7 => ?_)
          · have c_7 := bz1 c_7
            refine lv_iinc (v := nI (i + 1)) (lv' := [(2, .int (nI (i + 1))), (0, .ref (eX V (8 * b))), (1, .int (nI (q)))]) hx hcd dX0_firstReady_42 hl (k := 0) rfl (by exact nI_add (i) 1) (by decide) rfl (fun ls hl => ?_)
            refine lv_goto (tgt := 2) hx hcd dX0_firstReady_45 (by decide) ?_
            exact ih_2 (i + 1) (by omega) (by rw [hF, show 17 - i = (17 - (i + 1)) + 1 by omega, frdN, if_pos (by omega), if_neg (fun z => by first | exact Bool.noConfusion (z.1.symm.trans (by assumption)) | omega)]) (by omega) _ _ h _ (lv_sub hl [0, 1, 2] rfl)
          · have c_7 := bz0 c_7
            refine lv_aload_n hx hcd dX0_firstReady_27 rfl (lv_at hl 1 rfl) ?_
            refine r_bA G hC h b 2 hb (by decide) mw_102 dX0_firstReady_28 ?_
            refine lv_iload_n hx hcd dX0_firstReady_31 rfl (lv_at hl 0 rfl) ?_
            refine r_bL G hC h b 2 i hb (by decide) (setB_at _ _ _) rfl (show i < 16 by omega) (x := nI (B.1 2 (i))) rfl dX0_firstReady_32 ?_
            have q_8 := hz.1 2 (i)
            refine lv_iload_n hx hcd dX0_firstReady_33 rfl (lv_at hl 2 rfl) ?_
            refine lv_iconst (v := -1) hx hcd dX0_firstReady_34 (by decide) ?_
            refine w_ixor (v := nI (q) ^^^ (-1)) hx hcd dX0_firstReady_35 rfl ?_
            refine w_iand (v := nI (andn (B.1 2 (i)) q)) hx hcd dX0_firstReady_36 (n_andn (by first | omega | exact p16 (by omega) | assumption) (by first | omega | exact p16 (by omega) | assumption)) ?_
            have q_9 : andn (B.1 2 (i)) q < 65536 := andn_lt (by first | omega | exact p16 (by omega) | assumption)
            refine lv_if_ne (tgt := 42) hx hcd dX0_firstReady_37 (by decide) (fun c_10 => ?_) (fun c_10 => ?_)
            · have c_10 := cNe (tN (n := andn (B.1 2 (i)) q) (by omega)) t0 c_10
              refine lv_iinc (v := nI (i + 1)) (lv' := [(2, .int (nI (i + 1))), (0, .ref (eX V (8 * b))), (1, .int (nI (q)))]) hx hcd dX0_firstReady_42 hl (k := 0) rfl (by exact nI_add (i) 1) (by decide) rfl (fun ls hl => ?_)
              refine lv_goto (tgt := 2) hx hcd dX0_firstReady_45 (by decide) ?_
              exact ih_2 (i + 1) (by omega) (by rw [hF, show 17 - i = (17 - (i + 1)) + 1 by omega, frdN, if_pos (by omega), if_neg (fun z => by first | exact Bool.noConfusion (z.1.symm.trans (by assumption)) | omega)]) (by omega) _ _ h _ (lv_sub hl [0, 1, 2] rfl)
            · have c_10 := cEq (tN (n := andn (B.1 2 (i)) q) (by omega)) t0 c_10
              refine lv_iload_n hx hcd dX0_firstReady_40 rfl (lv_at hl 0 rfl) ?_
              exact k_reti hQ G hret hlocks h (⟨by rw [hF, show 17 - i = (16 - i) + 1 by omega, frdN, if_pos (by omega), if_pos ⟨by assumption, by omega⟩]; exact aOf.symm, rfl⟩) (Nat.le_of_ble_eq_true rfl) (Nat.le_of_ble_eq_true rfl) dX0_firstReady_41
  exact L_1 (17 + 1) 0 (by omega) rfl (by omega) _ _ h _ (lv_sub hl [0, 1, 2] rfl)
set_option maxHeartbeats 4000000 in
set_option maxRecDepth 100000 in
/-- chainLength(j) -/
theorem met_X0_chainLength (l : Launch) (V : kEnv) (S : kCs) (b : Nat) (B : kBd) (hb : b < 12) (hz : kSm B) (j : Nat) (hj : j < 16) : kI l yX0_chainLength cX0_chainLength 4 (some .int) { frames := 2, cells := 0, slots := 0, locals := 44 } V (cWs V) [.ref (eX V (8 * b)), .int (nI (j))] (setB S b B) (fun r u => r = nI (chl B j) ∧ u = setB S b B) 0 0 := by
  refine kI_of (by decide +kernel) (Nat.le_of_ble_eq_true rfl) ?_
  intro p e s m args below meth c G hret hlocks hC hB h ls hl Q hQ
  have hl : lv_has ls 4 [(0, .ref (eX V (8 * b))), (1, .int (nI (j)))] := hl
  have hx := G.1
  have hcd := G.2.1
  have hp16 := p16 hj
  refine lv_iconst (v := nI 0) hx hcd dX0_chainLength_0 (by decide) ?_
  refine lv_istore_n (lv' := [(2, .int (nI 0)), (0, .ref (eX V (8 * b))), (1, .int (nI (j)))]) hx hcd dX0_chainLength_1 rfl hl (by decide) rfl (fun ls hl => ?_)
  refine lv_iload_n hx hcd dX0_chainLength_2 rfl (lv_at hl 2 rfl) ?_
  refine k_Ni (As := [.int (nI (j))]) (rest := []) G hC hB h (met_X3_setOf l V (setB S b B) j (by omega)) hC.2.1.2.2.1 ks_X3_setOf ⟨rfl, rfl⟩ ⟨Nat.le_of_ble_eq_true rfl, Nat.le_of_ble_eq_true rfl⟩ rfl rfl hl.1 (Nat.le_of_ble_eq_true rfl) dX0_chainLength_3 ⟨Nat.le_of_ble_eq_true rfl, Nat.le_of_ble_eq_true rfl⟩ (fun r u H locs hp h => ?_)
  obtain ⟨rfl, rfl⟩ := hp
  refine lv_istore_n (lv' := [(3, .int (nI (2 ^ j))), (2, .int (nI 0)), (0, .ref (eX V (8 * b))), (1, .int (nI (j)))]) hx hcd dX0_chainLength_6 rfl hl (by decide) rfl (fun ls hl => ?_)
  have L_1 : ∀ (fu_3 : Nat) (i : Nat) (q : Nat) (hi : i ≤ 16) (hq : q < 65536) (hF : chl B j = i + chlN B (16 - i) q), 17 - i < fu_3 → ∀ (H : Heap) (locs : List Loc), cH V s H locs (cWs V (setB S b B)) → ∀ ls : Array Slot, lv_has ls 4 [(2, .int (nI (i))), (3, .int (nI (q))), (0, .ref (eX V (8 * b))), (1, .int (nI (j)))] → W p l e { frames := 2, cells := 0, slots := 0, locals := 44 } s m args below meth c H locs 0 0 Q (F0 m 7 ls []) := by
    intro fu_3
    induction fu_3 with
    | zero => intro i q hi hq hF hm; exact absurd hm (Nat.not_lt_zero _)
    | succ fu_3 ih_2 =>
      intro i q hi hq hF hm H locs h ls hl
      refine lv_iload_n hx hcd dX0_chainLength_7 rfl (lv_at hl 0 rfl) ?_
      refine lv_bipush (v := nI 16) hx hcd dX0_chainLength_8 (by decide) ?_
      refine lv_icmp_ge (tgt := 29) hx hcd dX0_chainLength_10 (by decide) (fun c_4 => ?_) (fun c_4 => ?_)
      · have c_4 := cLe (tN (n := 16) (by decide)) (tN (n := i) (by omega)) c_4
        refine lv_iload_n hx hcd dX0_chainLength_29 rfl (lv_at hl 0 rfl) ?_
        exact k_reti hQ G hret hlocks h (⟨by rw [hF]; first | (rw [show 16 - i = 0 by omega, chlN, Nat.add_zero]; done) | (rw [show q = 0 by omega, chlN_0, Nat.add_zero]; done), rfl⟩) (Nat.le_of_ble_eq_true rfl) (Nat.le_of_ble_eq_true rfl) dX0_chainLength_30
      · have c_4 := cNle (tN (n := 16) (by decide)) (tN (n := i) (by omega)) c_4
        refine lv_iload_n hx hcd dX0_chainLength_13 rfl (lv_at hl 1 rfl) ?_
        refine lv_if_eq (tgt := 29) hx hcd dX0_chainLength_14 (by decide) (fun c_5 => ?_) (fun c_5 => ?_)
        · have c_5 := cEq (tN (n := q) (by omega)) t0 c_5
          refine lv_iload_n hx hcd dX0_chainLength_29 rfl (lv_at hl 0 rfl) ?_
          exact k_reti hQ G hret hlocks h (⟨by rw [hF]; first | (rw [show 16 - i = 0 by omega, chlN, Nat.add_zero]; done) | (rw [show q = 0 by omega, chlN_0, Nat.add_zero]; done), rfl⟩) (Nat.le_of_ble_eq_true rfl) (Nat.le_of_ble_eq_true rfl) dX0_chainLength_30
        · have c_5 := cNe (tN (n := q) (by omega)) t0 c_5
          refine lv_aload_n hx hcd dX0_chainLength_17 rfl (lv_at hl 2 rfl) ?_
          refine lv_iload_n hx hcd dX0_chainLength_18 rfl (lv_at hl 1 rfl) ?_
          refine k_Vi (As := [.int (nI (q))]) (rest := []) (b := eX V (8 * b)) G hC hB h (met_X0_blockersOfAny l V S b B hb hz q (by first | omega | assumption)) mw_728 kv_X0_blockersOfAny ⟨rfl, rfl⟩ ⟨Nat.le_of_ble_eq_true rfl, Nat.le_of_ble_eq_true rfl⟩ (r_bV hC h b hb) rfl rfl hl.1 (Nat.le_of_ble_eq_true rfl) dX0_chainLength_19 ⟨Nat.le_of_ble_eq_true rfl, Nat.le_of_ble_eq_true rfl⟩ (fun r u H locs hp h => ?_)
          obtain ⟨rfl, rfl⟩ := hp
          refine lv_istore_n (lv' := [(3, .int (nI (boa B q))), (2, .int (nI (i))), (0, .ref (eX V (8 * b))), (1, .int (nI (j)))]) hx hcd dX0_chainLength_22 rfl hl (by decide) rfl (fun ls hl => ?_)
          refine lv_iinc (v := nI (i + 1)) (lv' := [(2, .int (nI (i + 1))), (3, .int (nI (boa B q))), (0, .ref (eX V (8 * b))), (1, .int (nI (j)))]) hx hcd dX0_chainLength_23 hl (k := 1) rfl (by exact nI_add (i) 1) (by decide) rfl (fun ls hl => ?_)
          refine lv_goto (tgt := 7) hx hcd dX0_chainLength_26 (by decide) ?_
          exact ih_2 (i + 1) (boa B q) (by omega) (boa_lt hz q) (by rw [hF, show 16 - i = (16 - (i + 1)) + 1 by omega, chlN, if_neg (by omega)]; omega) (by omega) _ _ h _ (lv_sub hl [0, 1, 2, 3] rfl)
  exact L_1 (17 + 1) 0 (2 ^ j) (by omega) hp16 ((Nat.zero_add _).symm) (by omega) _ _ h _ (lv_sub hl [1, 0, 2, 3] rfl)
set_option maxHeartbeats 4000000 in
set_option maxRecDepth 100000 in
/-- finds(i, j) -/
theorem met_X0_finds (l : Launch) (V : kEnv) (S : kCs) (b : Nat) (B : kBd) (hb : b < 12) (hz : kSm B) (i0 j : Nat) (hi0 : i0 < 16) (hj : j < 16) : kI l yX0_finds cX0_finds 6 (some .boolean) { frames := 2, cells := 0, slots := 0, locals := 44 } V (cWs V) [.ref (eX V (8 * b)), .int (nI (i0)), .int (nI (j))] (setB S b B) (fun r u => r = bz (fnd B i0 j) ∧ u = setB S b B) 0 0 := by
  refine kI_of (by decide +kernel) (Nat.le_of_ble_eq_true rfl) ?_
  intro p e s m args below meth c G hret hlocks hC hB h ls hl Q hQ
  have hl : lv_has ls 6 [(0, .ref (eX V (8 * b))), (1, .int (nI (i0))), (2, .int (nI (j)))] := hl
  have hx := G.1
  have hcd := G.2.1
  have hp16 := p16 hi0
  refine lv_iconst (v := nI 0) hx hcd dX0_finds_0 (by decide) ?_
  refine lv_istore_n (lv' := [(3, .int (nI 0)), (0, .ref (eX V (8 * b))), (1, .int (nI (i0))), (2, .int (nI (j)))]) hx hcd dX0_finds_1 rfl hl (by decide) rfl (fun ls hl => ?_)
  refine lv_aload_n hx hcd dX0_finds_2 rfl (lv_at hl 1 rfl) ?_
  refine lv_iload_n hx hcd dX0_finds_3 rfl (lv_at hl 2 rfl) ?_
  refine k_Ni (As := [.int (nI (i0))]) (rest := [.ref (eX V (8 * b))]) G hC hB h (met_X3_setOf l V (setB S b B) i0 (by omega)) hC.2.1.2.2.1 ks_X3_setOf ⟨rfl, rfl⟩ ⟨Nat.le_of_ble_eq_true rfl, Nat.le_of_ble_eq_true rfl⟩ rfl rfl hl.1 (Nat.le_of_ble_eq_true rfl) dX0_finds_4 ⟨Nat.le_of_ble_eq_true rfl, Nat.le_of_ble_eq_true rfl⟩ (fun r u H locs hp h => ?_)
  obtain ⟨rfl, rfl⟩ := hp
  refine k_Vi (As := [.int (nI (2 ^ i0))]) (rest := []) (b := eX V (8 * b)) G hC hB h (met_X0_blockersOfAny l V S b B hb hz (2 ^ i0) (by first | omega | assumption)) mw_728 kv_X0_blockersOfAny ⟨rfl, rfl⟩ ⟨Nat.le_of_ble_eq_true rfl, Nat.le_of_ble_eq_true rfl⟩ (r_bV hC h b hb) rfl rfl hl.1 (Nat.le_of_ble_eq_true rfl) dX0_finds_7 ⟨Nat.le_of_ble_eq_true rfl, Nat.le_of_ble_eq_true rfl⟩ (fun r u H locs hp h => ?_)
  obtain ⟨rfl, rfl⟩ := hp
  refine lv_istore (lv' := [(4, .int (nI (boa B (2 ^ i0)))), (3, .int (nI 0)), (0, .ref (eX V (8 * b))), (1, .int (nI (i0))), (2, .int (nI (j)))]) hx hcd dX0_finds_10 hl (by decide) rfl (fun ls hl => ?_)
  refine lv_iconst (v := nI 0) hx hcd dX0_finds_12 (by decide) ?_
  refine lv_istore (lv' := [(5, .int (nI 0)), (4, .int (nI (boa B (2 ^ i0)))), (3, .int (nI 0)), (0, .ref (eX V (8 * b))), (1, .int (nI (i0))), (2, .int (nI (j)))]) hx hcd dX0_finds_13 hl (by decide) rfl (fun ls hl => ?_)
  have L_1 : ∀ (fu_3 : Nat) (i : Nat) (seen : Nat) (q : Nat) (hi : i ≤ 16) (hs : seen < 65536) (hq : q < 65536) (hF : fnd B i0 j = fndN B j (16 - i) seen q), 17 - i < fu_3 → ∀ (H : Heap) (locs : List Loc), cH V s H locs (cWs V (setB S b B)) → ∀ ls : Array Slot, lv_has ls 6 [(3, .int (nI (seen))), (4, .int (nI (q))), (5, .int (nI (i))), (0, .ref (eX V (8 * b))), (1, .int (nI (i0))), (2, .int (nI (j)))] → W p l e { frames := 2, cells := 0, slots := 0, locals := 44 } s m args below meth c H locs 0 0 Q (F0 m 15 ls []) := by
    intro fu_3
    induction fu_3 with
    | zero => intro i seen q hi hs hq hF hm; exact absurd hm (Nat.not_lt_zero _)
    | succ fu_3 ih_2 =>
      intro i seen q hi hs hq hF hm H locs h ls hl
      refine lv_iload hx hcd dX0_finds_15 (lv_at hl 2 rfl) ?_
      refine lv_bipush (v := nI 16) hx hcd dX0_finds_17 (by decide) ?_
      refine lv_icmp_ge (tgt := 61) hx hcd dX0_finds_19 (by decide) (fun c_4 => ?_) (fun c_4 => ?_)
      · have c_4 := cLe (tN (n := 16) (by decide)) (tN (n := i) (by omega)) c_4
        refine lv_iconst (v := nI 0) hx hcd dX0_finds_61 (by decide) ?_
        exact k_retz hQ G hret hlocks h (Or.inl rfl) (⟨(bz_f (by rw [hF]; first | (rw [show 16 - i = 0 by omega]; rfl) | (rw [show q = 0 by omega, fndN_0]; done))).symm, rfl⟩) (Nat.le_of_ble_eq_true rfl) (Nat.le_of_ble_eq_true rfl) dX0_finds_62
      · have c_4 := cNle (tN (n := 16) (by decide)) (tN (n := i) (by omega)) c_4
        refine lv_iload hx hcd dX0_finds_22 (lv_at hl 1 rfl) ?_
        refine lv_if_eq (tgt := 61) hx hcd dX0_finds_24 (by decide) (fun c_5 => ?_) (fun c_5 => ?_)
        · have c_5 := cEq (tN (n := q) (by omega)) t0 c_5
          refine lv_iconst (v := nI 0) hx hcd dX0_finds_61 (by decide) ?_
          exact k_retz hQ G hret hlocks h (Or.inl rfl) (⟨(bz_f (by rw [hF]; first | (rw [show 16 - i = 0 by omega]; rfl) | (rw [show q = 0 by omega, fndN_0]; done))).symm, rfl⟩) (Nat.le_of_ble_eq_true rfl) (Nat.le_of_ble_eq_true rfl) dX0_finds_62
        · have c_5 := cNe (tN (n := q) (by omega)) t0 c_5
          refine lv_iload hx hcd dX0_finds_27 (lv_at hl 1 rfl) ?_
          refine lv_iload_n hx hcd dX0_finds_29 rfl (lv_at hl 5 rfl) ?_
          refine k_Ni (As := [.int (nI (q)), .int (nI (j))]) (rest := []) G hC hB h (met_X3_holds l V (setB S b B) q j (by omega) (by omega)) hC.2.1.2.1 ks_X3_holds ⟨rfl, rfl⟩ ⟨Nat.le_of_ble_eq_true rfl, Nat.le_of_ble_eq_true rfl⟩ rfl rfl hl.1 (Nat.le_of_ble_eq_true rfl) dX0_finds_30 ⟨Nat.le_of_ble_eq_true rfl, Nat.le_of_ble_eq_true rfl⟩ (fun r u H locs hp h => ?_)
          obtain ⟨rfl, rfl⟩ := hp
          refine lv_if_eq (tgt := 38) hx hcd dX0_finds_33 (by decide) (fun c_6 => ?_) (fun c_6 => ?_)
          · have c_6 := bz0 c_6
            refine lv_iload_n hx hcd dX0_finds_38 rfl (lv_at hl 0 rfl) ?_
            refine lv_iload hx hcd dX0_finds_39 (lv_at hl 1 rfl) ?_
            refine w_ior (v := nI (seen ||| q)) hx hcd dX0_finds_41 (n_or _ _) ?_
            have q_7 : seen ||| q < 65536 := or16 (by first | omega | exact p16 (by omega) | assumption) (by first | omega | exact p16 (by omega) | assumption)
            refine lv_istore_n (lv' := [(3, .int (nI (seen ||| q))), (4, .int (nI (q))), (5, .int (nI (i))), (0, .ref (eX V (8 * b))), (1, .int (nI (i0))), (2, .int (nI (j)))]) hx hcd dX0_finds_42 rfl hl (by decide) rfl (fun ls hl => ?_)
            refine lv_aload_n hx hcd dX0_finds_43 rfl (lv_at hl 3 rfl) ?_
            refine lv_iload hx hcd dX0_finds_44 (lv_at hl 1 rfl) ?_
            refine k_Vi (As := [.int (nI (q))]) (rest := []) (b := eX V (8 * b)) G hC hB h (met_X0_blockersOfAny l V S b B hb hz q (by first | omega | assumption)) mw_728 kv_X0_blockersOfAny ⟨rfl, rfl⟩ ⟨Nat.le_of_ble_eq_true rfl, Nat.le_of_ble_eq_true rfl⟩ (r_bV hC h b hb) rfl rfl hl.1 (Nat.le_of_ble_eq_true rfl) dX0_finds_46 ⟨Nat.le_of_ble_eq_true rfl, Nat.le_of_ble_eq_true rfl⟩ (fun r u H locs hp h => ?_)
            obtain ⟨rfl, rfl⟩ := hp
            have hbq := boa_lt hz q
            refine lv_iload_n hx hcd dX0_finds_49 rfl (lv_at hl 0 rfl) ?_
            refine lv_iconst (v := -1) hx hcd dX0_finds_50 (by decide) ?_
            refine w_ixor (v := nI (seen ||| q) ^^^ (-1)) hx hcd dX0_finds_51 rfl ?_
            refine w_iand (v := nI (andn (boa B q) (seen ||| q))) hx hcd dX0_finds_52 (n_andn (by first | omega | exact p16 (by omega) | assumption) (by first | omega | exact p16 (by omega) | assumption)) ?_
            have q_8 : andn (boa B q) (seen ||| q) < 65536 := andn_lt (by first | omega | exact p16 (by omega) | assumption)
            refine lv_istore (lv' := [(4, .int (nI (andn (boa B q) (seen ||| q)))), (3, .int (nI (seen ||| q))), (5, .int (nI (i))), (0, .ref (eX V (8 * b))), (1, .int (nI (i0))), (2, .int (nI (j)))]) hx hcd dX0_finds_53 hl (by decide) rfl (fun ls hl => ?_)
            refine lv_iinc (v := nI (i + 1)) (lv' := [(5, .int (nI (i + 1))), (4, .int (nI (andn (boa B q) (seen ||| q)))), (3, .int (nI (seen ||| q))), (0, .ref (eX V (8 * b))), (1, .int (nI (i0))), (2, .int (nI (j)))]) hx hcd dX0_finds_55 hl (k := 2) rfl (by exact nI_add (i) 1) (by decide) rfl (fun ls hl => ?_)
            refine lv_goto (tgt := 15) hx hcd dX0_finds_58 (by decide) ?_
            exact ih_2 (i + 1) (seen ||| q) (andn (boa B q) (seen ||| q)) (by omega) (or16 hs hq) (andn_lt (boa_lt hz q)) (by rw [hF, show 16 - i = (16 - (i + 1)) + 1 by omega, fndN, if_neg (by omega), if_neg (by rw [Bool.not_eq_true]; assumption)]) (by omega) _ _ h _ (lv_sub hl [2, 1, 0, 3, 4, 5] rfl)
          · have c_6 := bz1 c_6
            refine lv_iconst (v := nI 1) hx hcd dX0_finds_36 (by decide) ?_
            exact k_retz hQ G hret hlocks h (Or.inr rfl) (⟨(bz_t (by rw [hF, show 16 - i = (15 - i) + 1 by omega, fndN, if_neg (by omega), if_pos (by assumption)])).symm, rfl⟩) (Nat.le_of_ble_eq_true rfl) (Nat.le_of_ble_eq_true rfl) dX0_finds_37
  exact L_1 (17 + 1) 0 0 (boa B (2 ^ i0)) (by omega) (by omega) (boa_lt hz _) rfl (by omega) _ _ h _ (lv_sub hl [2, 1, 0, 3, 4, 5] rfl)
set_option maxHeartbeats 4000000 in
set_option maxRecDepth 100000 in
/-- canBlock(i, j) -/
theorem met_X0_canBlock (l : Launch) (V : kEnv) (S : kCs) (b : Nat) (B : kBd) (hb : b < 12) (hz : kSm B) (hn : B.2 0 ≤ 16) (i : Nat) (hi : i < 2147483648) (j : Nat) (hj : j < 2147483648) : kI l yX0_canBlock cX0_canBlock 3 (some .boolean) { frames := 3, cells := 0, slots := 0, locals := 69 } V (cWs V) [.ref (eX V (8 * b)), .int (nI (i)), .int (nI (j))] (setB S b B) (fun r u => r = bz ((((((decide (i < B.2 0) && decide (j < B.2 0)) && decide (i ≠ j)) && !(B.1 2 i).testBit j) && decide (B.1 1 i ≠ 0)) && !fnd B j i)) ∧ u = setB S b B) 0 0 := by
  refine kI_of (by decide +kernel) (Nat.le_of_ble_eq_true rfl) ?_
  intro p e s m args below meth c G hret hlocks hC hB h ls hl Q hQ
  have hl : lv_has ls 3 [(0, .ref (eX V (8 * b))), (1, .int (nI (i))), (2, .int (nI (j)))] := hl
  have hx := G.1
  have hcd := G.2.1
  refine lv_aload_n hx hcd dX0_canBlock_0 rfl (lv_at hl 0 rfl) ?_
  refine lv_iload_n hx hcd dX0_canBlock_1 rfl (lv_at hl 1 rfl) ?_
  refine k_Vi (As := [.int (nI (i))]) (rest := []) (b := eX V (8 * b)) G hC hB h (met_X0_hasStoryN l V S b B hb hn i (by omega)) mw_745 kv_X0_hasStory ⟨rfl, rfl⟩ ⟨Nat.le_of_ble_eq_true rfl, Nat.le_of_ble_eq_true rfl⟩ (r_bV hC h b hb) rfl rfl hl.1 (Nat.le_of_ble_eq_true rfl) dX0_canBlock_2 ⟨Nat.le_of_ble_eq_true rfl, Nat.le_of_ble_eq_true rfl⟩ (fun r u H locs hp h => ?_)
  obtain ⟨rfl, rfl⟩ := hp
  refine lv_if_eq (tgt := 51) hx hcd dX0_canBlock_5 (by decide) (fun c_1 => ?_) (fun c_1 => ?_)
  · have c_1 := bz0 c_1
    have f_3 := of_decide_eq_false c_1
    refine lv_iconst (v := nI 0) hx hcd dX0_canBlock_51 (by decide) ?_
    exact k_retz hQ G hret hlocks h (Or.inl rfl) (⟨(bz_f (by first | assumption | exact band_f1 (by first | assumption | exact band_f1 (by first | assumption | exact band_f1 (by first | assumption | exact band_f1 (by first | assumption | exact band_f1 (by first | assumption | exact decide_eq_false (by omega)) | exact band_f2 (by first | assumption | exact decide_eq_false (by omega))) | exact band_f2 (by first | assumption | exact decide_eq_false (by omega))) | exact band_f2 (nb_f (by assumption))) | exact band_f2 (by first | assumption | exact decide_eq_false (by omega))) | exact band_f2 (nb_f (by assumption)))).symm, rfl⟩) (Nat.le_of_ble_eq_true rfl) (Nat.le_of_ble_eq_true rfl) dX0_canBlock_52
  · have c_1 := bz1 c_1
    have f_2 := of_decide_eq_true c_1
    refine lv_aload_n hx hcd dX0_canBlock_8 rfl (lv_at hl 0 rfl) ?_
    refine lv_iload_n hx hcd dX0_canBlock_9 rfl (lv_at hl 2 rfl) ?_
    refine k_Vi (As := [.int (nI (j))]) (rest := []) (b := eX V (8 * b)) G hC hB h (met_X0_hasStoryN l V S b B hb hn j (by omega)) mw_745 kv_X0_hasStory ⟨rfl, rfl⟩ ⟨Nat.le_of_ble_eq_true rfl, Nat.le_of_ble_eq_true rfl⟩ (r_bV hC h b hb) rfl rfl hl.1 (Nat.le_of_ble_eq_true rfl) dX0_canBlock_10 ⟨Nat.le_of_ble_eq_true rfl, Nat.le_of_ble_eq_true rfl⟩ (fun r u H locs hp h => ?_)
    obtain ⟨rfl, rfl⟩ := hp
    refine lv_if_eq (tgt := 51) hx hcd dX0_canBlock_13 (by decide) (fun c_4 => ?_) (fun c_4 => ?_)
    · have c_4 := bz0 c_4
      have f_6 := of_decide_eq_false c_4
      refine lv_iconst (v := nI 0) hx hcd dX0_canBlock_51 (by decide) ?_
      exact k_retz hQ G hret hlocks h (Or.inl rfl) (⟨(bz_f (by first | assumption | exact band_f1 (by first | assumption | exact band_f1 (by first | assumption | exact band_f1 (by first | assumption | exact band_f1 (by first | assumption | exact band_f1 (by first | assumption | exact decide_eq_false (by omega)) | exact band_f2 (by first | assumption | exact decide_eq_false (by omega))) | exact band_f2 (by first | assumption | exact decide_eq_false (by omega))) | exact band_f2 (nb_f (by assumption))) | exact band_f2 (by first | assumption | exact decide_eq_false (by omega))) | exact band_f2 (nb_f (by assumption)))).symm, rfl⟩) (Nat.le_of_ble_eq_true rfl) (Nat.le_of_ble_eq_true rfl) dX0_canBlock_52
    · have c_4 := bz1 c_4
      have f_5 := of_decide_eq_true c_4
      refine lv_iload_n hx hcd dX0_canBlock_16 rfl (lv_at hl 1 rfl) ?_
      refine lv_iload_n hx hcd dX0_canBlock_17 rfl (lv_at hl 2 rfl) ?_
      refine lv_icmp_eq (tgt := 51) hx hcd dX0_canBlock_18 (by decide) (fun c_7 => ?_) (fun c_7 => ?_)
      · have c_7 := cEq (tN (n := i) (by omega)) (tN (n := j) (by omega)) c_7
        refine lv_iconst (v := nI 0) hx hcd dX0_canBlock_51 (by decide) ?_
        exact k_retz hQ G hret hlocks h (Or.inl rfl) (⟨(bz_f (by first | assumption | exact band_f1 (by first | assumption | exact band_f1 (by first | assumption | exact band_f1 (by first | assumption | exact band_f1 (by first | assumption | exact band_f1 (by first | assumption | exact decide_eq_false (by omega)) | exact band_f2 (by first | assumption | exact decide_eq_false (by omega))) | exact band_f2 (by first | assumption | exact decide_eq_false (by omega))) | exact band_f2 (nb_f (by assumption))) | exact band_f2 (by first | assumption | exact decide_eq_false (by omega))) | exact band_f2 (nb_f (by assumption)))).symm, rfl⟩) (Nat.le_of_ble_eq_true rfl) (Nat.le_of_ble_eq_true rfl) dX0_canBlock_52
      · have c_7 := cNe (tN (n := i) (by omega)) (tN (n := j) (by omega)) c_7
        refine lv_aload_n hx hcd dX0_canBlock_21 rfl (lv_at hl 0 rfl) ?_
        refine lv_iload_n hx hcd dX0_canBlock_22 rfl (lv_at hl 1 rfl) ?_
        refine lv_iload_n hx hcd dX0_canBlock_23 rfl (lv_at hl 2 rfl) ?_
        refine k_Vi (As := [.int (nI (i)), .int (nI (j))]) (rest := []) (b := eX V (8 * b)) G hC hB h (met_X0_hasBlocker l V S b B hb hz hn i (by omega) j (by omega)) mw_888 kv_X0_hasBlocker ⟨rfl, rfl⟩ ⟨Nat.le_of_ble_eq_true rfl, Nat.le_of_ble_eq_true rfl⟩ (r_bV hC h b hb) rfl rfl hl.1 (Nat.le_of_ble_eq_true rfl) dX0_canBlock_24 ⟨Nat.le_of_ble_eq_true rfl, Nat.le_of_ble_eq_true rfl⟩ (fun r u H locs hp h => ?_)
        obtain ⟨rfl, rfl⟩ := hp
        refine lv_if_ne (tgt := 51) hx hcd dX0_canBlock_27 (by decide) (fun c_8 => ?_) (fun c_8 => ?_)
        · have c_8 := bz1 c_8
          have f_9 := of_decide_eq_true (band_l (band_l c_8))
          have f_10 := of_decide_eq_true (band_r (band_l c_8))
          have f_11 := (band_r c_8)
          refine lv_iconst (v := nI 0) hx hcd dX0_canBlock_51 (by decide) ?_
          exact k_retz hQ G hret hlocks h (Or.inl rfl) (⟨(bz_f (by first | assumption | exact band_f1 (by first | assumption | exact band_f1 (by first | assumption | exact band_f1 (by first | assumption | exact band_f1 (by first | assumption | exact band_f1 (by first | assumption | exact decide_eq_false (by omega)) | exact band_f2 (by first | assumption | exact decide_eq_false (by omega))) | exact band_f2 (by first | assumption | exact decide_eq_false (by omega))) | exact band_f2 (nb_f (by assumption))) | exact band_f2 (by first | assumption | exact decide_eq_false (by omega))) | exact band_f2 (nb_f (by assumption)))).symm, rfl⟩) (Nat.le_of_ble_eq_true rfl) (Nat.le_of_ble_eq_true rfl) dX0_canBlock_52
        · have c_8 := bz0 c_8
          have f_12 : ¬ (((i < B.2 0) ∧ (j < B.2 0)) ∧ ((B.1 2 i).testBit j = true)) := fun z => Bool.noConfusion (c_8.symm.trans (band_t (band_t (decide_eq_true z.1.1) (decide_eq_true z.1.2)) z.2))
          refine lv_aload_n hx hcd dX0_canBlock_30 rfl (lv_at hl 0 rfl) ?_
          refine lv_iload_n hx hcd dX0_canBlock_31 rfl (lv_at hl 1 rfl) ?_
          refine k_Vi (As := [.int (nI (i))]) (rest := []) (b := eX V (8 * b)) G hC hB h (met_X0_isFinished l V S b B hb hz hn i (by omega)) mw_870 kv_X0_isFinished ⟨rfl, rfl⟩ ⟨Nat.le_of_ble_eq_true rfl, Nat.le_of_ble_eq_true rfl⟩ (r_bV hC h b hb) rfl rfl hl.1 (Nat.le_of_ble_eq_true rfl) dX0_canBlock_32 ⟨Nat.le_of_ble_eq_true rfl, Nat.le_of_ble_eq_true rfl⟩ (fun r u H locs hp h => ?_)
          obtain ⟨rfl, rfl⟩ := hp
          refine lv_if_ne (tgt := 51) hx hcd dX0_canBlock_35 (by decide) (fun c_13 => ?_) (fun c_13 => ?_)
          · have c_13 := bz1 c_13
            have f_14 := of_decide_eq_true (band_l c_13)
            have f_15 := of_decide_eq_true (band_r c_13)
            refine lv_iconst (v := nI 0) hx hcd dX0_canBlock_51 (by decide) ?_
            exact k_retz hQ G hret hlocks h (Or.inl rfl) (⟨(bz_f (by first | assumption | exact band_f1 (by first | assumption | exact band_f1 (by first | assumption | exact band_f1 (by first | assumption | exact band_f1 (by first | assumption | exact band_f1 (by first | assumption | exact decide_eq_false (by omega)) | exact band_f2 (by first | assumption | exact decide_eq_false (by omega))) | exact band_f2 (by first | assumption | exact decide_eq_false (by omega))) | exact band_f2 (nb_f (by assumption))) | exact band_f2 (by first | assumption | exact decide_eq_false (by omega))) | exact band_f2 (nb_f (by assumption)))).symm, rfl⟩) (Nat.le_of_ble_eq_true rfl) (Nat.le_of_ble_eq_true rfl) dX0_canBlock_52
          · have c_13 := bz0 c_13
            have f_16 : ¬ ((i < B.2 0) ∧ (B.1 1 i = 0)) := fun z => Bool.noConfusion (c_13.symm.trans (band_t (decide_eq_true z.1) (decide_eq_true z.2)))
            refine lv_aload_n hx hcd dX0_canBlock_38 rfl (lv_at hl 0 rfl) ?_
            refine lv_iload_n hx hcd dX0_canBlock_39 rfl (lv_at hl 2 rfl) ?_
            refine lv_iload_n hx hcd dX0_canBlock_40 rfl (lv_at hl 1 rfl) ?_
            refine k_Vi (As := [.int (nI (j)), .int (nI (i))]) (rest := []) (b := eX V (8 * b)) G hC hB h (met_X0_finds l V S b B hb hz j i (by omega) (by omega)) mw_889 kv_X0_finds ⟨rfl, rfl⟩ ⟨Nat.le_of_ble_eq_true rfl, Nat.le_of_ble_eq_true rfl⟩ (r_bV hC h b hb) rfl rfl hl.1 (Nat.le_of_ble_eq_true rfl) dX0_canBlock_41 ⟨Nat.le_of_ble_eq_true rfl, Nat.le_of_ble_eq_true rfl⟩ (fun r u H locs hp h => ?_)
            obtain ⟨rfl, rfl⟩ := hp
            refine lv_if_ne (tgt := 51) hx hcd dX0_canBlock_44 (by decide) (fun c_17 => ?_) (fun c_17 => ?_)
            · have c_17 := bz1 c_17
              refine lv_iconst (v := nI 0) hx hcd dX0_canBlock_51 (by decide) ?_
              exact k_retz hQ G hret hlocks h (Or.inl rfl) (⟨(bz_f (by first | assumption | exact band_f1 (by first | assumption | exact band_f1 (by first | assumption | exact band_f1 (by first | assumption | exact band_f1 (by first | assumption | exact band_f1 (by first | assumption | exact decide_eq_false (by omega)) | exact band_f2 (by first | assumption | exact decide_eq_false (by omega))) | exact band_f2 (by first | assumption | exact decide_eq_false (by omega))) | exact band_f2 (nb_f (by assumption))) | exact band_f2 (by first | assumption | exact decide_eq_false (by omega))) | exact band_f2 (nb_f (by assumption)))).symm, rfl⟩) (Nat.le_of_ble_eq_true rfl) (Nat.le_of_ble_eq_true rfl) dX0_canBlock_52
            · have c_17 := bz0 c_17
              refine lv_iconst (v := nI 1) hx hcd dX0_canBlock_47 (by decide) ?_
              refine lv_goto (tgt := 52) hx hcd dX0_canBlock_48 (by decide) ?_
              exact k_retz hQ G hret hlocks h (Or.inr rfl) (⟨(bz_t (by first | assumption | exact band_t (by first | assumption | exact band_t (by first | assumption | exact band_t (by first | assumption | exact band_t (by first | assumption | exact band_t (by first | assumption | exact decide_eq_true (by omega)) (by first | assumption | exact decide_eq_true (by omega))) (by first | assumption | exact decide_eq_true (by omega))) (nb_t (by first | assumption | (exact Bool.eq_false_iff.mpr (fun z => by simp_all))))) (by first | assumption | exact decide_eq_true (by omega))) (nb_t (by first | assumption | (exact Bool.eq_false_iff.mpr (fun z => by simp_all)))))).symm, rfl⟩) (Nat.le_of_ble_eq_true rfl) (Nat.le_of_ble_eq_true rfl) dX0_canBlock_52
set_option maxHeartbeats 4000000 in
set_option maxRecDepth 100000 in
/-- storyAt(x) -/
theorem met_X0_storyAt (l : Launch) (V : kEnv) (S : kCs) (b : Nat) (B : kBd) (hb : b < 12) (hz : kSm B) (hn : B.2 0 ≤ 16) (x : Int32) : kI l yX0_storyAt cX0_storyAt 5 (some .int) { frames := 2, cells := 0, slots := 0, locals := 43 } V (cWs V) [.ref (eX V (8 * b)), .int (x)] (setB S b B) (fun r u => r = nI (sat B x.toInt) - 1 ∧ u = setB S b B) 0 0 := by
  refine kI_of (by decide +kernel) (Nat.le_of_ble_eq_true rfl) ?_
  intro p e s m args below meth c G hret hlocks hC hB h ls hl Q hQ
  have hl : lv_has ls 5 [(0, .ref (eX V (8 * b))), (1, .int (x))] := hl
  have hx := G.1
  have hcd := G.2.1
  refine lv_iconst (v := nI 0) hx hcd dX0_storyAt_0 (by decide) ?_
  refine lv_istore_n (lv' := [(2, .int (nI 0)), (0, .ref (eX V (8 * b))), (1, .int (x))]) hx hcd dX0_storyAt_1 rfl hl (by decide) rfl (fun ls hl => ?_)
  refine lv_iconst (v := nI 0) hx hcd dX0_storyAt_2 (by decide) ?_
  refine lv_istore_n (lv' := [(3, .int (nI 0)), (2, .int (nI 0)), (0, .ref (eX V (8 * b))), (1, .int (x))]) hx hcd dX0_storyAt_3 rfl hl (by decide) rfl (fun ls hl => ?_)
  have L_1 : ∀ (fu_3 : Nat) (i : Nat) (q : Nat) (hi : i ≤ B.2 0) (hq : q < 65536) (hF : sat B x.toInt = satN B x.toInt (17 - i) i q), 17 - i < fu_3 → ∀ (H : Heap) (locs : List Loc), cH V s H locs (cWs V (setB S b B)) → ∀ ls : Array Slot, lv_has ls 5 [(2, .int (nI (q))), (3, .int (nI (i))), (0, .ref (eX V (8 * b))), (1, .int (x))] → W p l e { frames := 2, cells := 0, slots := 0, locals := 43 } s m args below meth c H locs 0 0 Q (F0 m 4 ls []) := by
    intro fu_3
    induction fu_3 with
    | zero => intro i q hi hq hF hm; exact absurd hm (Nat.not_lt_zero _)
    | succ fu_3 ih_2 =>
      intro i q hi hq hF hm H locs h ls hl
      refine lv_iload_n hx hcd dX0_storyAt_4 rfl (lv_at hl 1 rfl) ?_
      refine lv_aload_n hx hcd dX0_storyAt_5 rfl (lv_at hl 2 rfl) ?_
      refine r_bS G hC h b 0 hb (by decide) (setB_at _ _ _) mw_111 (x := nI (B.2 0)) rfl dX0_storyAt_6 ?_
      have q_4 := hz.2 0
      refine lv_icmp_ge (tgt := 47) hx hcd dX0_storyAt_9 (by decide) (fun c_5 => ?_) (fun c_5 => ?_)
      · have c_5 := cLe (tN (n := B.2 0) (by omega)) (tN (n := i) (by omega)) c_5
        refine lv_iconst (v := -1) hx hcd dX0_storyAt_47 (by decide) ?_
        exact k_reti hQ G hret hlocks h (⟨by rw [hF, show 17 - i = (16 - i) + 1 by omega, satN, if_neg (by omega)]; decide, rfl⟩) (Nat.le_of_ble_eq_true rfl) (Nat.le_of_ble_eq_true rfl) dX0_storyAt_48
      · have c_5 := cNle (tN (n := B.2 0) (by omega)) (tN (n := i) (by omega)) c_5
        refine lv_aload_n hx hcd dX0_storyAt_12 rfl (lv_at hl 2 rfl) ?_
        refine lv_iload_n hx hcd dX0_storyAt_13 rfl (lv_at hl 0 rfl) ?_
        refine k_Vi (As := [.int (nI (q))]) (rest := []) (b := eX V (8 * b)) G hC hB h (met_X0_firstReady l V S b B hb hz hn q (by first | omega | assumption)) mw_1024 kv_X0_firstReady ⟨rfl, rfl⟩ ⟨Nat.le_of_ble_eq_true rfl, Nat.le_of_ble_eq_true rfl⟩ (r_bV hC h b hb) rfl rfl hl.1 (Nat.le_of_ble_eq_true rfl) dX0_storyAt_14 ⟨Nat.le_of_ble_eq_true rfl, Nat.le_of_ble_eq_true rfl⟩ (fun r u H locs hp h => ?_)
        obtain ⟨rfl, rfl⟩ := hp
        have q_6 := frd_le B q
        refine lv_istore (lv' := [(4, .int (nI (frd B q) - 1)), (2, .int (nI (q))), (3, .int (nI (i))), (0, .ref (eX V (8 * b))), (1, .int (x))]) hx hcd dX0_storyAt_17 hl (by decide) rfl (fun ls hl => ?_)
        refine lv_iload hx hcd dX0_storyAt_19 (lv_at hl 0 rfl) ?_
        refine lv_iconst (v := -1) hx hcd dX0_storyAt_21 (by decide) ?_
        refine lv_icmp_eq (tgt := 30) hx hcd dX0_storyAt_22 (by decide) (fun c_7 => ?_) (fun c_7 => ?_)
        · have c_7 := cEq (tA (n := frd B q) (by omega)) tm1 c_7
          refine lv_iload hx hcd dX0_storyAt_30 (lv_at hl 0 rfl) ?_
          exact k_reti hQ G hret hlocks h (⟨by rw [hF, show 17 - i = (16 - i) + 1 by omega, satN, if_pos (by omega), if_pos (by omega)], rfl⟩) (Nat.le_of_ble_eq_true rfl) (Nat.le_of_ble_eq_true rfl) dX0_storyAt_32
        · have c_7 := cNe (tA (n := frd B q) (by omega)) tm1 c_7
          refine lv_iload_n hx hcd dX0_storyAt_25 rfl (lv_at hl 2 rfl) ?_
          refine lv_iload_n hx hcd dX0_storyAt_26 rfl (lv_at hl 4 rfl) ?_
          refine lv_icmp_ne (tgt := 33) hx hcd dX0_storyAt_27 (by decide) (fun c_8 => ?_) (fun c_8 => ?_)
          · have c_8 := cNe (tN (n := i) (by omega)) (rfl : (x : Int32).toInt = (x : Int32).toInt) c_8
            refine lv_iload_n hx hcd dX0_storyAt_33 rfl (lv_at hl 1 rfl) ?_
            refine lv_iload hx hcd dX0_storyAt_34 (lv_at hl 0 rfl) ?_
            refine lv_topi (fun z_9 e_z_9 => ?_)
            obtain rfl : z_9 = nI ((frd B q) - 1) := by rw [e_z_9]; exact pk_sub (b := 1) (by omega)
            refine k_Ni (As := [.int (nI ((frd B q) - 1))]) (rest := [.int (nI (q))]) G hC hB h (met_X3_setOf l V (setB S b B) ((frd B q) - 1) (by omega)) hC.2.1.2.2.1 ks_X3_setOf ⟨rfl, rfl⟩ ⟨Nat.le_of_ble_eq_true rfl, Nat.le_of_ble_eq_true rfl⟩ rfl rfl hl.1 (Nat.le_of_ble_eq_true rfl) dX0_storyAt_36 ⟨Nat.le_of_ble_eq_true rfl, Nat.le_of_ble_eq_true rfl⟩ (fun r u H locs hp h => ?_)
            obtain ⟨rfl, rfl⟩ := hp
            refine w_ior (v := nI (q ||| (2 ^ ((frd B q) - 1)))) hx hcd dX0_storyAt_39 (n_or _ _) ?_
            have q_10 : q ||| (2 ^ ((frd B q) - 1)) < 65536 := or16 (by first | omega | exact p16 (by omega) | assumption) (by first | omega | exact p16 (by omega) | assumption)
            refine lv_istore_n (lv' := [(2, .int (nI (q ||| (2 ^ ((frd B q) - 1))))), (4, .int (nI (frd B q) - 1)), (3, .int (nI (i))), (0, .ref (eX V (8 * b))), (1, .int (x))]) hx hcd dX0_storyAt_40 rfl hl (by decide) rfl (fun ls hl => ?_)
            refine lv_iinc (v := nI (i + 1)) (lv' := [(3, .int (nI (i + 1))), (2, .int (nI (q ||| (2 ^ ((frd B q) - 1))))), (4, .int (nI (frd B q) - 1)), (0, .ref (eX V (8 * b))), (1, .int (x))]) hx hcd dX0_storyAt_41 hl (k := 2) rfl (by exact nI_add (i) 1) (by decide) rfl (fun ls hl => ?_)
            refine lv_goto (tgt := 4) hx hcd dX0_storyAt_44 (by decide) ?_
            exact ih_2 (i + 1) (q ||| 2 ^ (frd B q - 1)) (by omega) (or16 hq (p16 (by omega))) (by rw [hF, show 17 - i = (17 - (i + 1)) + 1 by omega, satN, if_pos (by omega), if_neg (by omega)]) (by omega) _ _ h _ (lv_sub hl [1, 0, 3, 4] rfl)
          · have c_8 := cEq (tN (n := i) (by omega)) (rfl : (x : Int32).toInt = (x : Int32).toInt) c_8
            refine lv_iload hx hcd dX0_storyAt_30 (lv_at hl 0 rfl) ?_
            exact k_reti hQ G hret hlocks h (⟨by rw [hF, show 17 - i = (16 - i) + 1 by omega, satN, if_pos (by omega), if_pos (by omega)], rfl⟩) (Nat.le_of_ble_eq_true rfl) (Nat.le_of_ble_eq_true rfl) dX0_storyAt_32
  exact L_1 (17 + 1) 0 0 (by omega) (by omega) rfl (by omega) _ _ h _ (lv_sub hl [1, 0, 2, 3] rfl)
