theorem bz_inj {a b : Bool} (h : (bz a).toInt = (bz b).toInt) : a = b := by cases a <;> cases b <;> first | rfl | exact absurd h (by decide)
theorem pw_eq {B : kBd} (hr : ∀ k, B.1 1 k ≤ B.1 0 k) : pwork B + psum B 1 = psum B 0 := by
  have h : ∀ n, sumUp (fun k => if (B.2 2).testBit k then B.1 0 k - B.1 1 k else 0) n + sumUp (fun k => if (B.2 2).testBit k then B.1 1 k else 0) n = sumUp (fun k => if (B.2 2).testBit k then B.1 0 k else 0) n := by
    intro n
    induction n with
    | zero => rfl
    | succ n ih =>
      have := hr n
      simp only [sumUp]
      split <;> omega
  exact h 16
theorem dtN_le (j : Nat) : ∀ f d T, (dtN j f d T).1 ≤ d + f
  | 0, d, T => Nat.zero_le _
  | f + 1, d, T => by
    unfold dtN
    split
    · show d + 1 ≤ d + (f + 1); omega
    · have := dtN_le j f (d + 1) (wkN (unf T) T 4).1
      omega
/-- what isConsistent holds against each story -/
def conK (B : kBd) (k : Nat) : Prop := (∀ o, o < B.2 0 → fnd B k o = (wsO B 16 k).testBit o) ∧ (dtN k 53 0 B).1 = ndN B 16 k
theorem sEq_c (S : kCs) (B : kBd) (c : Nat → Nat) : sEq S (clW S 16 c) := ⟨fun _ _ _ => rfl, rfl, fun k hk => if_neg hk, rfl⟩
theorem sEq_t {S S' : kCs} (h : sEq S S') (T : kBd) : sEq S (setB S' 1 T) := ⟨fun b h0 h1 => (setB_ne S' T h1).trans (h.1 b h0 h1), h.2.1, h.2.2.1, h.2.2.2⟩
/-- the line of a story -/
def ln1 (B : kBd) (j : Nat) : List Nat := (((([] ++ dgs j) ++ [58]) ++ dgs (B.1 1 j)) ++ [47]) ++ dgs (B.1 0 j)
def ln2 (B : kBd) (j : Nat) : List Nat := if (decide (j < B.2 0) && (B.2 2).testBit j) = true then ln1 B j ++ [112] else ln1 B j
def ln3 (B : kBd) (j : Nat) : List Nat := if 0 < opn B j then ln2 B j ++ [98] else ln2 B j
def lnS (B : kBd) (j : Nat) : List Nat := if asgOf B j = 0 then ln3 B j else (ln3 B j ++ [64]) ++ dgs (asgOf B j - 1)
/-- the line of the burn-down: its first i numbers -/
def bdl (B : kBd) : Nat → List Nat
  | 0 => []
  | i + 1 => (if 0 < i then bdl B i ++ [32] else bdl B i) ++ dgs (B.1 5 i)
theorem lnU (S : kCs) (y z : kSb) (B : kBd) : uPut (setB (uPut S 0 y) 0 B) 0 z = setB (uPut S 0 z) 0 B := by
  show setB (uPut (uPut S 0 y) 0 z) 0 B = _
  rw [uPut_set]
theorem lapp1 {L : List Nat} {n : Nat} (h : L.length ≤ n) (c : Nat) : (L ++ [c]).length ≤ n + 1 := by rw [List.length_append]; exact Nat.add_le_add h (Nat.le_refl _)
theorem lapp3 {L : List Nat} {n : Nat} (h : L.length ≤ n) (v : Nat) : (L ++ dgs v).length ≤ n + 3 := by rw [List.length_append]; exact Nat.add_le_add h (dgs_len v).1
section KXc
variable {p : Program} {l : Launch} {e : Env} {R : Room} {s : State} {m : MethodId} {args : Array Value} {below : List Frame} {meth : Method} {c : Code} {H : Heap} {locs : List Loc} {cells slots : Nat} {Q : State → Prop}
variable {cc : ByteArray} {pc nL mc ms : Nat} {ls : Array Slot} {own : String} {V : kEnv} {τ : Type} {F : τ → va_W}
theorem kx_retc {post : Int32 → τ → Prop} {px : String → τ → Prop} {v : Int32} {u : τ} {ty : FieldType} (hQ : Q = kQi below V F post px args s mc ms) (G : CallFix p m c cc nL s args LW own) (hret : meth.sig.returnType = some ty) (hlocks : meth.locks = false) (h : cH V s H locs (F u)) (hv : narrow ty (.int v) = .int v) (hp : post v u) (hc : cells ≤ mc) (hs : slots ≤ ms) (hd : decode cc pc = .ok (.ireturn, 1)) :
    W p l e R s m args below meth c H locs cells slots Q (F0 m pc ls [.int v]) :=
  hQ ▸ vx_ret (k_retc rfl G hret hlocks h hv hp hc hs hd)
end KXc
theorem kv_X3_agreesWithClosure : kV yX3_agreesWithClosure cX3_agreesWithClosure 4 (some .boolean) 2 := ⟨mw_719, mw_2, mw_56, mw_720, by decide, by decide, by decide +kernel⟩
theorem kv_X3_daysOnTrial : kV yX3_daysOnTrial cX3_daysOnTrial 3 (some .int) 1 := ⟨mw_735, mw_4, mw_56, mw_736, by decide, by decide, by decide +kernel⟩
set_option maxHeartbeats 4000000 in
set_option maxRecDepth 100000 in
/-- agreesWithClosure(j, c) -/
theorem met_X3_agreesWithClosure (l : Launch) (V : kEnv) (S : kCs) (B : kBd) (hI : bI B) (j c0 : Nat) (hj : j < 16) (hc0 : c0 < 65536) : kI l yX3_agreesWithClosure cX3_agreesWithClosure 4 (some .boolean) { frames := 3, cells := 0, slots := 0, locals := 69 } V (cWs V) [.ref (eX V 96), .int (nI (j)), .int (nI (c0))] (setB S 0 B) (fun r u => r = bz (decide (∀ o, o < B.2 0 → fnd B j o = c0.testBit o)) ∧ u = setB S 0 B) 0 0 := by
  refine kI_of (by decide +kernel) (Nat.le_of_ble_eq_true rfl) ?_
  intro pg e s m args below meth c G hret hlocks hC hB h ls hl Q hQ
  have hl : lv_has ls 4 [(0, .ref (eX V 96)), (1, .int (nI (j))), (2, .int (nI (c0)))] := hl
  have hx := G.1
  have hcd := G.2.1
  obtain ⟨hz, hbn, hn, hm, h3, h54, h4, h7, hr, he, ha, hact, h5⟩ := hI
  refine lv_iconst (v := nI 0) hx hcd dX3_agreesWithClosure_0 (by decide) ?_
  refine lv_istore_n (lv' := [(3, .int (nI 0)), (0, .ref (eX V 96)), (1, .int (nI (j))), (2, .int (nI (c0)))]) hx hcd dX3_agreesWithClosure_1 rfl hl (by decide) rfl (fun ls hl => ?_)
  have L_1 : ∀ (fu_3 : Nat) (o : Nat) (ho : o ≤ B.2 0) (hA : ∀ q, q < o → fnd B j q = c0.testBit q), 17 - o < fu_3 → ∀ (H : Heap) (locs : List Loc), cH V s H locs (cWs V (setB S 0 B)) → ∀ ls : Array Slot, lv_has ls 4 [(3, .int (nI (o))), (0, .ref (eX V 96)), (1, .int (nI (j))), (2, .int (nI (c0)))] → W pg l e { frames := 3, cells := 0, slots := 0, locals := 69 } s m args below meth c H locs 0 0 Q (F0 m 2 ls []) := by
    intro fu_3
    induction fu_3 with
    | zero => intro o ho hA hm; exact absurd hm (Nat.not_lt_zero _)
    | succ fu_3 ih_2 =>
      intro o ho hA hm H locs h ls hl
      refine lv_iload_n hx hcd dX3_agreesWithClosure_2 rfl (lv_at hl 0 rfl) ?_
      refine lv_aload_n hx hcd dX3_agreesWithClosure_3 rfl (lv_at hl 1 rfl) ?_
      refine va_get (D := eD V) (ci := 7) (v := .ref (eX V (8 * 0))) (C := RX3) (T := TX3) (N := 11) hx hcd G.2.2.2.2 iwX3 G.2.2.2.1 hC.1 h.1 (96 + 0) (cF_at V _ (i := 0) (by decide)) rfl 0 (by decide) (G.2.2.2.2 _ mw_242) (fun y h9 => h9) rfl dX3_agreesWithClosure_4 ?_
      refine r_bS G hC h 0 0 (by omega) (by decide) (setB_at _ _ _) mw_112 (x := nI (B.2 0)) rfl dX3_agreesWithClosure_7 ?_
      have q_4 := hz.2 0
      refine lv_icmp_ge (tgt := 38) hx hcd dX3_agreesWithClosure_10 (by decide) (fun c_5 => ?_) (fun c_5 => ?_)
      · have c_5 := cLe (tN (n := B.2 0) (by omega)) (tN (n := o) (by omega)) c_5
        refine lv_iconst (v := nI 1) hx hcd dX3_agreesWithClosure_38 (by decide) ?_
        exact k_retz hQ G hret hlocks h (Or.inr rfl) (⟨(bz_t (decide_eq_true (fun q hq => hA q (by omega)))).symm, rfl⟩) (Nat.le_of_ble_eq_true rfl) (Nat.le_of_ble_eq_true rfl) dX3_agreesWithClosure_39
      · have c_5 := cNle (tN (n := B.2 0) (by omega)) (tN (n := o) (by omega)) c_5
        refine lv_aload_n hx hcd dX3_agreesWithClosure_13 rfl (lv_at hl 1 rfl) ?_
        refine va_get (D := eD V) (ci := 7) (v := .ref (eX V (8 * 0))) (C := RX3) (T := TX3) (N := 11) hx hcd G.2.2.2.2 iwX3 G.2.2.2.1 hC.1 h.1 (96 + 0) (cF_at V _ (i := 0) (by decide)) rfl 0 (by decide) (G.2.2.2.2 _ mw_242) (fun y h9 => h9) rfl dX3_agreesWithClosure_14 ?_
        refine lv_iload_n hx hcd dX3_agreesWithClosure_17 rfl (lv_at hl 2 rfl) ?_
        refine lv_iload_n hx hcd dX3_agreesWithClosure_18 rfl (lv_at hl 0 rfl) ?_
        refine k_Vi (As := [.int (nI (j)), .int (nI (o))]) (rest := []) (b := eX V (8 * 0)) G hC hB h (met_X0_finds l V S 0 B (by omega) hz j o (by omega) (by omega)) mw_721 kv_X0_finds ⟨rfl, rfl⟩ ⟨Nat.le_of_ble_eq_true rfl, Nat.le_of_ble_eq_true rfl⟩ (r_bV hC h 0 (by omega)) rfl rfl hl.1 (Nat.le_of_ble_eq_true rfl) dX3_agreesWithClosure_19 ⟨Nat.le_of_ble_eq_true rfl, Nat.le_of_ble_eq_true rfl⟩ (fun r u H locs hp h => ?_)
        obtain ⟨rfl, rfl⟩ := hp
        refine lv_iload_n hx hcd dX3_agreesWithClosure_22 rfl (lv_at hl 3 rfl) ?_
        refine lv_iload_n hx hcd dX3_agreesWithClosure_23 rfl (lv_at hl 0 rfl) ?_
        refine k_Si (As := [.int (nI (c0)), .int (nI (o))]) (rest := [.int (bz (fnd B j o))]) G hC hB h (met_X3_holds l V (setB S 0 B) c0 o (by omega) (by omega)) mw_732 ks_X3_holds ⟨rfl, rfl⟩ ⟨Nat.le_of_ble_eq_true rfl, Nat.le_of_ble_eq_true rfl⟩ rfl rfl hl.1 (Nat.le_of_ble_eq_true rfl) dX3_agreesWithClosure_24 ⟨Nat.le_of_ble_eq_true rfl, Nat.le_of_ble_eq_true rfl⟩ (fun r u H locs hp h => ?_)
        obtain ⟨rfl, hu⟩ := hp
        rw [hu] at h
        refine lv_icmp_eq (tgt := 32) hx hcd dX3_agreesWithClosure_27 (by decide) (fun c_6 => ?_) (fun c_6 => ?_)
        · have c_6 := cEq (rfl : (bz (fnd B j o) : Int32).toInt = (bz (fnd B j o) : Int32).toInt) (rfl : (bz (c0.testBit o) : Int32).toInt = (bz (c0.testBit o) : Int32).toInt) c_6
          have e7 : fnd B j o = c0.testBit o := bz_inj c_6
          refine lv_iinc (v := nI (o + 1)) (lv' := [(3, .int (nI (o + 1))), (0, .ref (eX V 96)), (1, .int (nI (j))), (2, .int (nI (c0)))]) hx hcd dX3_agreesWithClosure_32 hl (k := 0) rfl (by exact nI_add (o) 1) (by decide) rfl (fun ls hl => ?_)
          refine lv_goto (tgt := 2) hx hcd dX3_agreesWithClosure_35 (by decide) ?_
          exact ih_2 (o + 1) (by omega) (fun q hq => (Nat.lt_succ_iff_lt_or_eq.mp hq).elim (hA q) (fun z => by rw [z]; exact e7)) (by omega) _ _ h _ (lv_sub hl [0, 1, 2, 3] rfl)
        · have c_6 := cNe (rfl : (bz (fnd B j o) : Int32).toInt = (bz (fnd B j o) : Int32).toInt) (rfl : (bz (c0.testBit o) : Int32).toInt = (bz (c0.testBit o) : Int32).toInt) c_6
          have e7 : ¬ fnd B j o = c0.testBit o := fun z => c_6 (congrArg (fun b => (bz b).toInt) z)
          refine lv_iconst (v := nI 0) hx hcd dX3_agreesWithClosure_30 (by decide) ?_
          exact k_retz hQ G hret hlocks h (Or.inl rfl) (⟨(bz_f (decide_eq_false (fun z => e7 (z o (by omega))))).symm, rfl⟩) (Nat.le_of_ble_eq_true rfl) (Nat.le_of_ble_eq_true rfl) dX3_agreesWithClosure_31
  exact L_1 (17 + 1) 0 (by omega) (fun q hq => absurd hq (Nat.not_lt_zero _)) (by omega) _ _ h _ (lv_sub hl [0, 1, 2, 3] rfl)
set_option maxHeartbeats 4000000 in
set_option maxRecDepth 100000 in
/-- finishDay -/
theorem met_X3_finishDay (l : Launch) (hst : l.stackTraces = false) (V : kEnv) (S : kCs) (B : kBd) (hI : bI B) (hbt : bN (S.1 1)) (x : Int32) : kX l yX3_finishDay cX3_finishDay 3 (some .int) { frames := 8, cells := 6, slots := 36, locals := 131 } V (cWs V) [.ref (eX V 96), .int (x)] (setB S 0 B) (fun r u => ∃ (j : Nat), x = nI j ∧ j < B.2 0 ∧ (dtN j 53 0 B).1 ≠ 0 ∧ r = nI (dtN j 53 0 B).1 - 1 ∧ u = setB (setB S 0 B) 1 (dtN j 53 0 B).2) (fun E u => (E = "java/lang/IndexOutOfBoundsException" ∧ inR (B.2 0) x = false ∧ u = setB S 0 B) ∨ (∃ (j : Nat), x = nI j ∧ j < B.2 0 ∧ E = "java/util/NoSuchElementException" ∧ (dtN j 53 0 B).1 = 0 ∧ u = setB (setB S 0 B) 1 (dtN j 53 0 B).2)) 6 36 := by
  refine kX_of (by decide +kernel) (Nat.le_of_ble_eq_true rfl) ?_
  intro pg e s m args below meth c G hret hlocks htab hC hB h ls hl Q hQ
  have hl : lv_has ls 3 [(0, .ref (eX V 96)), (1, .int (x))] := hl
  have hx := G.1
  have hcd := G.2.1
  have hI0 := hI
  obtain ⟨hz, hbn, hn, hm, h3, h54, h4, h7, hr, he, ha, hact, h5⟩ := hI
  refine lv_aload_n hx hcd dX3_finishDay_0 rfl (lv_at hl 0 rfl) ?_
  refine lv_iload_n hx hcd dX3_finishDay_1 rfl (lv_at hl 1 rfl) ?_
  refine kx_Vv (As := [.int (x)]) (rest := []) (b := eX V 96) G hC hB h (met_X3_requireStory l hst V S B hI0 x) mw_846 kv_X3_requireStory ⟨rfl, rfl⟩ ⟨Nat.le_of_ble_eq_true rfl, Nat.le_of_ble_eq_true rfl⟩ (r_sV hC h) rfl rfl hl.1 (Nat.le_of_ble_eq_true rfl) dX3_finishDay_2 ⟨Nat.le_of_ble_eq_true rfl, Nat.le_of_ble_eq_true rfl⟩ (fun E ce q9 u t H1 locs1 ht9 hpx hb9 hS9 e1 e2 e3 => by subst hQ; exact kx_pass htab hlocks ht9 (Or.inl (hpx)) hb9 hS9 e1 e2 e3 (Nat.le_of_ble_eq_true rfl) (Nat.le_of_ble_eq_true rfl)) (fun u H locs hp h => ?_)
  obtain ⟨hs1, hu⟩ := hp; rw [hu] at h
  obtain ⟨j, hj, rfl⟩ := inR_ex (by omega) hs1
  refine lv_aload_n hx hcd dX3_finishDay_5 rfl (lv_at hl 0 rfl) ?_
  refine lv_iload_n hx hcd dX3_finishDay_6 rfl (lv_at hl 1 rfl) ?_
  refine k_Vi (As := [.int (nI (j))]) (rest := []) (b := eX V 96) G hC hB h (met_X3_daysOnTrial l V S B hI0 hbt j (by omega)) mw_733 kv_X3_daysOnTrial ⟨rfl, rfl⟩ ⟨Nat.le_of_ble_eq_true rfl, Nat.le_of_ble_eq_true rfl⟩ (r_sV hC h) rfl rfl hl.1 (Nat.le_of_ble_eq_true rfl) dX3_finishDay_7 ⟨Nat.le_of_ble_eq_true rfl, Nat.le_of_ble_eq_true rfl⟩ (fun r u H locs hp h => ?_)
  obtain ⟨rfl, hu, hbT⟩ := hp; rw [hu] at h
  have hle := dtN_le j 53 0 B
  refine lv_istore_n (lv' := [(2, .int (nI ((dtN j 53 0 B).1) - 1)), (0, .ref (eX V 96)), (1, .int (nI (j)))]) hx hcd dX3_finishDay_10 rfl hl (by decide) rfl (fun ls hl => ?_)
  refine lv_iload_n hx hcd dX3_finishDay_11 rfl (lv_at hl 0 rfl) ?_
  refine lv_iconst (v := -1) hx hcd dX3_finishDay_12 (by decide) ?_
  refine lv_icmp_eq (tgt := 20) hx hcd dX3_finishDay_13 (by decide) (fun c_1 => ?_) (fun c_1 => ?_)
  · have c_1 := cEq (tA (n := (dtN j 53 0 B).1) (by omega)) tm1 c_1
    refine lv_iconst (v := nI 0) hx hcd dX3_finishDay_20 (by decide) ?_
    refine kx_Sv (As := [.int (nI 0)]) (rest := []) G hC hB h (met_X3_requireFound l hst V (setB (setB S 0 B) 1 (dtN j 53 0 B).2) false) mw_1028 ks_X3_requireFound ⟨rfl, rfl⟩ ⟨Nat.le_of_ble_eq_true rfl, Nat.le_of_ble_eq_true rfl⟩ rfl rfl hl.1 (Nat.le_of_ble_eq_true rfl) dX3_finishDay_21 ⟨Nat.le_of_ble_eq_true rfl, Nat.le_of_ble_eq_true rfl⟩ (fun E ce q9 u t H1 locs1 ht9 hpx hb9 hS9 e1 e2 e3 => by subst hQ; exact kx_pass htab hlocks ht9 (Or.inr (⟨j, rfl, hj, ⟨hpx.1, by omega, hpx.2.2⟩⟩)) hb9 hS9 e1 e2 e3 (Nat.le_of_ble_eq_true rfl) (Nat.le_of_ble_eq_true rfl)) (fun u H locs hp h => ?_)
    obtain ⟨hlit, hu⟩ := hp; rw [hu] at h
    exact absurd hlit (by decide)
  · have c_1 := cNe (tA (n := (dtN j 53 0 B).1) (by omega)) tm1 c_1
    refine lv_iconst (v := nI 1) hx hcd dX3_finishDay_16 (by decide) ?_
    refine lv_goto (tgt := 21) hx hcd dX3_finishDay_17 (by decide) ?_
    refine kx_Sv (As := [.int (nI 1)]) (rest := []) G hC hB h (met_X3_requireFound l hst V (setB (setB S 0 B) 1 (dtN j 53 0 B).2) true) mw_1028 ks_X3_requireFound ⟨rfl, rfl⟩ ⟨Nat.le_of_ble_eq_true rfl, Nat.le_of_ble_eq_true rfl⟩ rfl rfl hl.1 (Nat.le_of_ble_eq_true rfl) dX3_finishDay_21 ⟨Nat.le_of_ble_eq_true rfl, Nat.le_of_ble_eq_true rfl⟩ (fun E ce q9 u t H1 locs1 ht9 hpx hb9 hS9 e1 e2 e3 => by subst hQ; exact kx_pass htab hlocks ht9 (absurd hpx.2.1 (by decide)) hb9 hS9 e1 e2 e3 (Nat.le_of_ble_eq_true rfl) (Nat.le_of_ble_eq_true rfl)) (fun u H locs hp h => ?_)
    obtain ⟨hlit, hu⟩ := hp; rw [hu] at h
    refine lv_iload_n hx hcd dX3_finishDay_24 rfl (lv_at hl 0 rfl) ?_
    exact kx_reti hQ G hret hlocks h (⟨j, rfl, hj, by omega, rfl, rfl⟩) (Nat.le_of_ble_eq_true rfl) (Nat.le_of_ble_eq_true rfl) dX3_finishDay_25
set_option maxHeartbeats 4000000 in
set_option maxRecDepth 100000 in
/-- finishDayByRecursion -/
theorem met_X3_finishDayByRecursion (l : Launch) (hst : l.stackTraces = false) (V : kEnv) (S : kCs) (B : kBd) (hI : bI B) (x : Int32) : kX l yX3_finishDayByRecursion cX3_finishDayByRecursion 3 (some .int) { frames := 20, cells := 6, slots := 36, locals := 522 } V (cWs V) [.ref (eX V 96), .int (x)] (setB S 0 B) (fun r u => ∃ (j : Nat), x = nI j ∧ j < B.2 0 ∧ ndN B 16 j ≠ 0 ∧ r = nI (ndN B 16 j) - 1 ∧ u = setB S 0 B) (fun E u => (E = "java/lang/IndexOutOfBoundsException" ∧ inR (B.2 0) x = false ∧ u = setB S 0 B) ∨ (∃ (j : Nat), x = nI j ∧ j < B.2 0 ∧ E = "java/util/NoSuchElementException" ∧ ndN B 16 j = 0 ∧ u = setB S 0 B)) 6 36 := by
  refine kX_of (by decide +kernel) (Nat.le_of_ble_eq_true rfl) ?_
  intro pg e s m args below meth c G hret hlocks htab hC hB h ls hl Q hQ
  have hl : lv_has ls 3 [(0, .ref (eX V 96)), (1, .int (x))] := hl
  have hx := G.1
  have hcd := G.2.1
  have hI0 := hI
  obtain ⟨hz, hbn, hn, hm, h3, h54, h4, h7, hr, he, ha, hact, h5⟩ := hI
  refine lv_aload_n hx hcd dX3_finishDayByRecursion_0 rfl (lv_at hl 0 rfl) ?_
  refine lv_iload_n hx hcd dX3_finishDayByRecursion_1 rfl (lv_at hl 1 rfl) ?_
  refine kx_Vv (As := [.int (x)]) (rest := []) (b := eX V 96) G hC hB h (met_X3_requireStory l hst V S B hI0 x) mw_846 kv_X3_requireStory ⟨rfl, rfl⟩ ⟨Nat.le_of_ble_eq_true rfl, Nat.le_of_ble_eq_true rfl⟩ (r_sV hC h) rfl rfl hl.1 (Nat.le_of_ble_eq_true rfl) dX3_finishDayByRecursion_2 ⟨Nat.le_of_ble_eq_true rfl, Nat.le_of_ble_eq_true rfl⟩ (fun E ce q9 u t H1 locs1 ht9 hpx hb9 hS9 e1 e2 e3 => by subst hQ; exact kx_pass htab hlocks ht9 (Or.inl (hpx)) hb9 hS9 e1 e2 e3 (Nat.le_of_ble_eq_true rfl) (Nat.le_of_ble_eq_true rfl)) (fun u H locs hp h => ?_)
  obtain ⟨hs1, hu⟩ := hp; rw [hu] at h
  obtain ⟨j, hj, rfl⟩ := inR_ex (by omega) hs1
  refine lv_aload_n hx hcd dX3_finishDayByRecursion_5 rfl (lv_at hl 0 rfl) ?_
  refine va_get (D := eD V) (ci := 7) (v := .ref (eX V (8 * 0))) (C := RX3) (T := TX3) (N := 11) hx hcd G.2.2.2.2 iwX3 G.2.2.2.1 hC.1 h.1 (96 + 0) (cF_at V _ (i := 0) (by decide)) rfl 0 (by decide) (G.2.2.2.2 _ mw_242) (fun y h9 => h9) rfl dX3_finishDayByRecursion_6 ?_
  refine lv_iload_n hx hcd dX3_finishDayByRecursion_9 rfl (lv_at hl 1 rfl) ?_
  refine lv_iconst (v := nI 0) hx hcd dX3_finishDayByRecursion_10 (by decide) ?_
  refine k_Si (As := [.ref (eX V (8 * 0)), .int (nI (j)), .int (nI 0)]) (rest := []) G hC hB h (met_dN l V S B hI0 16 0 j (by omega) (by omega) ) mw_755 ks_X3_daysNeeded ⟨rfl, rfl⟩ ⟨Nat.le_of_ble_eq_true rfl, Nat.le_of_ble_eq_true rfl⟩ rfl rfl hl.1 (Nat.le_of_ble_eq_true rfl) dX3_finishDayByRecursion_11 ⟨Nat.le_of_ble_eq_true rfl, Nat.le_of_ble_eq_true rfl⟩ (fun r u H locs hp h => ?_)
  obtain ⟨rfl, hu⟩ := hp; rw [hu] at h
  have hle := ndN_lt (B := B) he hr 16 j
  refine lv_istore_n (lv' := [(2, .int (nI (ndN B 16 j) - 1)), (0, .ref (eX V 96)), (1, .int (nI (j)))]) hx hcd dX3_finishDayByRecursion_14 rfl hl (by decide) rfl (fun ls hl => ?_)
  refine lv_iload_n hx hcd dX3_finishDayByRecursion_15 rfl (lv_at hl 0 rfl) ?_
  refine lv_iconst (v := -1) hx hcd dX3_finishDayByRecursion_16 (by decide) ?_
  refine lv_icmp_eq (tgt := 24) hx hcd dX3_finishDayByRecursion_17 (by decide) (fun c_1 => ?_) (fun c_1 => ?_)
  · have c_1 := cEq (tA (n := ndN B 16 j) (by omega)) tm1 c_1
    refine lv_iconst (v := nI 0) hx hcd dX3_finishDayByRecursion_24 (by decide) ?_
    refine kx_Sv (As := [.int (nI 0)]) (rest := []) G hC hB h (met_X3_requireFound l hst V (setB S 0 B) false) mw_1028 ks_X3_requireFound ⟨rfl, rfl⟩ ⟨Nat.le_of_ble_eq_true rfl, Nat.le_of_ble_eq_true rfl⟩ rfl rfl hl.1 (Nat.le_of_ble_eq_true rfl) dX3_finishDayByRecursion_25 ⟨Nat.le_of_ble_eq_true rfl, Nat.le_of_ble_eq_true rfl⟩ (fun E ce q9 u t H1 locs1 ht9 hpx hb9 hS9 e1 e2 e3 => by subst hQ; exact kx_pass htab hlocks ht9 (Or.inr (⟨j, rfl, hj, ⟨hpx.1, by omega, hpx.2.2⟩⟩)) hb9 hS9 e1 e2 e3 (Nat.le_of_ble_eq_true rfl) (Nat.le_of_ble_eq_true rfl)) (fun u H locs hp h => ?_)
    obtain ⟨hlit, hu⟩ := hp; rw [hu] at h
    exact absurd hlit (by decide)
  · have c_1 := cNe (tA (n := ndN B 16 j) (by omega)) tm1 c_1
    refine lv_iconst (v := nI 1) hx hcd dX3_finishDayByRecursion_20 (by decide) ?_
    refine lv_goto (tgt := 25) hx hcd dX3_finishDayByRecursion_21 (by decide) ?_
    refine kx_Sv (As := [.int (nI 1)]) (rest := []) G hC hB h (met_X3_requireFound l hst V (setB S 0 B) true) mw_1028 ks_X3_requireFound ⟨rfl, rfl⟩ ⟨Nat.le_of_ble_eq_true rfl, Nat.le_of_ble_eq_true rfl⟩ rfl rfl hl.1 (Nat.le_of_ble_eq_true rfl) dX3_finishDayByRecursion_25 ⟨Nat.le_of_ble_eq_true rfl, Nat.le_of_ble_eq_true rfl⟩ (fun E ce q9 u t H1 locs1 ht9 hpx hb9 hS9 e1 e2 e3 => by subst hQ; exact kx_pass htab hlocks ht9 (absurd hpx.2.1 (by decide)) hb9 hS9 e1 e2 e3 (Nat.le_of_ble_eq_true rfl) (Nat.le_of_ble_eq_true rfl)) (fun u H locs hp h => ?_)
    obtain ⟨hlit, hu⟩ := hp; rw [hu] at h
    refine lv_iload_n hx hcd dX3_finishDayByRecursion_28 rfl (lv_at hl 0 rfl) ?_
    exact kx_reti hQ G hret hlocks h (⟨j, rfl, hj, by omega, rfl, rfl⟩) (Nat.le_of_ble_eq_true rfl) (Nat.le_of_ble_eq_true rfl) dX3_finishDayByRecursion_29
set_option maxHeartbeats 4000000 in
set_option maxRecDepth 100000 in
/-- isConsistent() -/
theorem met_X3_isConsistent (l : Launch) (V : kEnv) (S : kCs) (B : kBd) (hI : bI B) (hbt : bN (S.1 1)) (hdec : Decidable (∀ k, k < B.2 0 → conK B k)) : kI l yX3_isConsistent cX3_isConsistent 2 (some .boolean) { frames := 20, cells := 0, slots := 0, locals := 522 } V (cWs V) [.ref (eX V 96)] (setB S 0 B) (fun r u => r = bz (@decide (∀ k, k < B.2 0 → conK B k) hdec) ∧ ∃ S9, sEq S S9 ∧ bN (S9.1 1) ∧ u = setB S9 0 B) 0 0 := by
  refine kI_of (by decide +kernel) (Nat.le_of_ble_eq_true rfl) ?_
  intro pg e s m args below meth c G hret hlocks hC hB h ls hl Q hQ
  have hl : lv_has ls 2 [(0, .ref (eX V 96))] := hl
  have hx := G.1
  have hcd := G.2.1
  have hI0 := hI
  obtain ⟨hz, hbn, hn, hm, h3, h54, h4, h7, hr, he, ha, hact, h5⟩ := hI
  have hp0 := psum_le (B := B) he hr (c := 0) (by decide)
  have hpw := pw_eq (B := B) hr
  refine lv_aload_n hx hcd dX3_isConsistent_0 rfl (lv_at hl 0 rfl) ?_
  refine va_get (D := eD V) (ci := 7) (v := .ref (eX V (8 * 0))) (C := RX3) (T := TX3) (N := 11) hx hcd G.2.2.2.2 iwX3 G.2.2.2.1 hC.1 h.1 (96 + 0) (cF_at V _ (i := 0) (by decide)) rfl 0 (by decide) (G.2.2.2.2 _ mw_242) (fun y h9 => h9) rfl dX3_isConsistent_1 ?_
  refine k_Vi (As := []) (rest := []) (b := eX V (8 * 0)) G hC hB h (met_X0_plannedWork l V S 0 B (by omega) hz hr) mw_319 kv_X0_plannedWork ⟨rfl, rfl⟩ ⟨Nat.le_of_ble_eq_true rfl, Nat.le_of_ble_eq_true rfl⟩ (r_bV hC h 0 (by omega)) rfl rfl hl.1 (Nat.le_of_ble_eq_true rfl) dX3_isConsistent_4 ⟨Nat.le_of_ble_eq_true rfl, Nat.le_of_ble_eq_true rfl⟩ (fun r u H locs hp h => ?_)
  obtain ⟨rfl, rfl⟩ := hp
  refine lv_aload_n hx hcd dX3_isConsistent_7 rfl (lv_at hl 0 rfl) ?_
  refine va_get (D := eD V) (ci := 7) (v := .ref (eX V (8 * 0))) (C := RX3) (T := TX3) (N := 11) hx hcd G.2.2.2.2 iwX3 G.2.2.2.1 hC.1 h.1 (96 + 0) (cF_at V _ (i := 0) (by decide)) rfl 0 (by decide) (G.2.2.2.2 _ mw_242) (fun y h9 => h9) rfl dX3_isConsistent_8 ?_
  refine k_Vi (As := []) (rest := [.int (nI (pwork B))]) (b := eX V (8 * 0)) G hC hB h (met_X0_plannedRemains l V S 0 B (by omega) hz) mw_311 kv_X0_plannedRemains ⟨rfl, rfl⟩ ⟨Nat.le_of_ble_eq_true rfl, Nat.le_of_ble_eq_true rfl⟩ (r_bV hC h 0 (by omega)) rfl rfl hl.1 (Nat.le_of_ble_eq_true rfl) dX3_isConsistent_11 ⟨Nat.le_of_ble_eq_true rfl, Nat.le_of_ble_eq_true rfl⟩ (fun r u H locs hp h => ?_)
  obtain ⟨rfl, rfl⟩ := hp
  refine w_iadd (v := nI ((pwork B) + (psum B 1))) hx hcd dX3_isConsistent_14 (nI_add _ _) ?_
  refine lv_aload_n hx hcd dX3_isConsistent_15 rfl (lv_at hl 0 rfl) ?_
  refine va_get (D := eD V) (ci := 7) (v := .ref (eX V (8 * 0))) (C := RX3) (T := TX3) (N := 11) hx hcd G.2.2.2.2 iwX3 G.2.2.2.1 hC.1 h.1 (96 + 0) (cF_at V _ (i := 0) (by decide)) rfl 0 (by decide) (G.2.2.2.2 _ mw_242) (fun y h9 => h9) rfl dX3_isConsistent_16 ?_
  refine k_Vi (As := []) (rest := [.int (nI ((pwork B) + (psum B 1)))]) (b := eX V (8 * 0)) G hC hB h (met_X0_plannedPoints l V S 0 B (by omega) hz) mw_296 kv_X0_plannedPoints ⟨rfl, rfl⟩ ⟨Nat.le_of_ble_eq_true rfl, Nat.le_of_ble_eq_true rfl⟩ (r_bV hC h 0 (by omega)) rfl rfl hl.1 (Nat.le_of_ble_eq_true rfl) dX3_isConsistent_19 ⟨Nat.le_of_ble_eq_true rfl, Nat.le_of_ble_eq_true rfl⟩ (fun r u H locs hp h => ?_)
  obtain ⟨rfl, rfl⟩ := hp
  refine lv_icmp_eq (tgt := 27) hx hcd dX3_isConsistent_22 (by decide) (fun c_2 => ?_) (fun c_2 => ?_)
  · have c_2 := cEq (tN (n := (pwork B) + (psum B 1)) (by omega)) (tN (n := psum B 0) (by omega)) c_2
    refine lv_aload_n hx hcd dX3_isConsistent_27 rfl (lv_at hl 0 rfl) ?_
    refine va_get (D := eD V) (ci := 7) (v := .ref (eX V (8 * 0))) (C := RX3) (T := TX3) (N := 11) hx hcd G.2.2.2.2 iwX3 G.2.2.2.1 hC.1 h.1 (96 + 0) (cF_at V _ (i := 0) (by decide)) rfl 0 (by decide) (G.2.2.2.2 _ mw_242) (fun y h9 => h9) rfl dX3_isConsistent_28 ?_
    refine lv_aload_n hx hcd dX3_isConsistent_31 rfl (lv_at hl 0 rfl) ?_
    refine va_get (D := eD V) (ci := 7) (v := .ref (eX V (100 + 0))) (C := RX3) (T := TX3) (N := 11) hx hcd G.2.2.2.2 iwX3 G.2.2.2.1 hC.1 h.1 (96 + 0) (cF_at V _ (i := 0) (by decide)) rfl 7 (by decide) (G.2.2.2.2 _ mw_249) (fun y h9 => h9) rfl dX3_isConsistent_32 ?_
    refine k_Vv (As := [.ref (eX V (100 + 0))]) (rest := []) (b := eX V (8 * 0)) G hC hB h (met_X0_closeInto l V S 0 B (by omega) hz) mw_706 kv_X0_closeInto ⟨rfl, rfl⟩ ⟨Nat.le_of_ble_eq_true rfl, Nat.le_of_ble_eq_true rfl⟩ (r_bV hC h 0 (by omega)) rfl rfl hl.1 (Nat.le_of_ble_eq_true rfl) dX3_isConsistent_35 ⟨Nat.le_of_ble_eq_true rfl, Nat.le_of_ble_eq_true rfl⟩ (fun u H locs hp h => ?_)
    obtain rfl := hp
    have h : cH V s H locs (cWs V (setB (clW S 16 (wsO B 16)) 0 B)) := h
    refine lv_iconst (v := nI 0) hx hcd dX3_isConsistent_38 (by decide) ?_
    refine lv_istore_n (lv' := [(1, .int (nI 0)), (0, .ref (eX V 96))]) hx hcd dX3_isConsistent_39 rfl hl (by decide) rfl (fun ls hl => ?_)
    have L_3 : ∀ (fu_5 : Nat) (k : Nat) (S9 : kCs) (hk : k ≤ B.2 0) (hS9 : sEq S S9) (hbt9 : bN (S9.1 1)) (hcl9 : ∀ i, i < 16 → S9.2.2.1 0 i = nI (wsO B 16 i)) (hK : ∀ q, q < k → conK B q), 17 - k < fu_5 → ∀ (H : Heap) (locs : List Loc), cH V s H locs (cWs V (setB S9 0 B)) → ∀ ls : Array Slot, lv_has ls 2 [(1, .int (nI (k))), (0, .ref (eX V 96))] → W pg l e { frames := 20, cells := 0, slots := 0, locals := 522 } s m args below meth c H locs 0 0 Q (F0 m 40 ls []) := by
      intro fu_5
      induction fu_5 with
      | zero => intro k S9 hk hS9 hbt9 hcl9 hK hm; exact absurd hm (Nat.not_lt_zero _)
      | succ fu_5 ih_4 =>
        intro k S9 hk hS9 hbt9 hcl9 hK hm H locs h ls hl
        refine lv_iload_n hx hcd dX3_isConsistent_40 rfl (lv_at hl 0 rfl) ?_
        refine lv_aload_n hx hcd dX3_isConsistent_41 rfl (lv_at hl 1 rfl) ?_
        refine va_get (D := eD V) (ci := 7) (v := .ref (eX V (100 + 0))) (C := RX3) (T := TX3) (N := 11) hx hcd G.2.2.2.2 iwX3 G.2.2.2.1 hC.1 h.1 (96 + 0) (cF_at V _ (i := 0) (by decide)) rfl 7 (by decide) (G.2.2.2.2 _ mw_249) (fun y h9 => h9) rfl dX3_isConsistent_42 ?_
        refine r_aN G hC h 0 (by decide) (x := nI 16) rfl dX3_isConsistent_45 ?_
        refine lv_icmp_ge (tgt := 99) hx hcd dX3_isConsistent_46 (by decide) (fun c_6 => ?_) (fun c_6 => ?_)
        · have c_6 := cLe (tN (n := 16) (by decide)) (tN (n := k) (by omega)) c_6
          refine lv_iconst (v := nI 1) hx hcd dX3_isConsistent_99 (by decide) ?_
          exact k_retz hQ G hret hlocks h (Or.inr rfl) (⟨(bz_t (decide_eq_true (fun q hq => hK q (by omega)))).symm, S9, hS9, hbt9, rfl⟩) (Nat.le_of_ble_eq_true rfl) (Nat.le_of_ble_eq_true rfl) dX3_isConsistent_100
        · have c_6 := cNle (tN (n := 16) (by decide)) (tN (n := k) (by omega)) c_6
          refine lv_aload_n hx hcd dX3_isConsistent_49 rfl (lv_at hl 1 rfl) ?_
          refine va_get (D := eD V) (ci := 7) (v := .ref (eX V (8 * 0))) (C := RX3) (T := TX3) (N := 11) hx hcd G.2.2.2.2 iwX3 G.2.2.2.1 hC.1 h.1 (96 + 0) (cF_at V _ (i := 0) (by decide)) rfl 0 (by decide) (G.2.2.2.2 _ mw_242) (fun y h9 => h9) rfl dX3_isConsistent_50 ?_
          refine lv_iload_n hx hcd dX3_isConsistent_53 rfl (lv_at hl 0 rfl) ?_
          refine k_Vi (As := [.int (nI (k))]) (rest := []) (b := eX V (8 * 0)) G hC hB h (met_X0_hasStoryN l V S9 0 B (by omega) hn k (by omega)) mw_713 kv_X0_hasStory ⟨rfl, rfl⟩ ⟨Nat.le_of_ble_eq_true rfl, Nat.le_of_ble_eq_true rfl⟩ (r_bV hC h 0 (by omega)) rfl rfl hl.1 (Nat.le_of_ble_eq_true rfl) dX3_isConsistent_54 ⟨Nat.le_of_ble_eq_true rfl, Nat.le_of_ble_eq_true rfl⟩ (fun r u H locs hp h => ?_)
          obtain ⟨rfl, rfl⟩ := hp
          refine lv_if_eq (tgt := 99) hx hcd dX3_isConsistent_57 (by decide) (fun c_7 => ?_) (fun c_7 => ?_)
          · have c_7 := bz0 c_7
            have f_9 := of_decide_eq_false c_7
            refine lv_iconst (v := nI 1) hx hcd dX3_isConsistent_99 (by decide) ?_
            exact k_retz hQ G hret hlocks h (Or.inr rfl) (⟨(bz_t (decide_eq_true (fun q hq => hK q (by omega)))).symm, S9, hS9, hbt9, rfl⟩) (Nat.le_of_ble_eq_true rfl) (Nat.le_of_ble_eq_true rfl) dX3_isConsistent_100
          · have c_7 := bz1 c_7
            have f_8 := of_decide_eq_true c_7
            refine lv_aload_n hx hcd dX3_isConsistent_60 rfl (lv_at hl 1 rfl) ?_
            refine lv_iload_n hx hcd dX3_isConsistent_61 rfl (lv_at hl 0 rfl) ?_
            refine lv_aload_n hx hcd dX3_isConsistent_62 rfl (lv_at hl 1 rfl) ?_
            refine va_get (D := eD V) (ci := 7) (v := .ref (eX V (100 + 0))) (C := RX3) (T := TX3) (N := 11) hx hcd G.2.2.2.2 iwX3 G.2.2.2.1 hC.1 h.1 (96 + 0) (cF_at V _ (i := 0) (by decide)) rfl 7 (by decide) (G.2.2.2.2 _ mw_249) (fun y h9 => h9) rfl dX3_isConsistent_63 ?_
            refine lv_iload_n hx hcd dX3_isConsistent_66 rfl (lv_at hl 0 rfl) ?_
            refine r_aL G hC h 0 (k) (by decide) rfl (show k < 16 by omega) (x := nI (wsO B 16 (k))) (hcl9 _ (by omega)) dX3_isConsistent_67 ?_
            have q_10 := wsO_lt hz 16 (k)
            refine k_Vi (As := [.int (nI (k)), .int (nI (wsO B 16 (k)))]) (rest := []) (b := eX V 96) G hC hB h (met_X3_agreesWithClosure l V S9 B hI0 k (wsO B 16 k) (by omega) (wsO_lt hz 16 k)) mw_717 kv_X3_agreesWithClosure ⟨rfl, rfl⟩ ⟨Nat.le_of_ble_eq_true rfl, Nat.le_of_ble_eq_true rfl⟩ (r_sV hC h) rfl rfl hl.1 (Nat.le_of_ble_eq_true rfl) dX3_isConsistent_68 ⟨Nat.le_of_ble_eq_true rfl, Nat.le_of_ble_eq_true rfl⟩ (fun r u H locs hp h => ?_)
            obtain ⟨rfl, hu⟩ := hp; rw [hu] at h
            refine lv_if_eq (tgt := 91) hx hcd dX3_isConsistent_71 (by decide) (fun c_11 => ?_) (fun c_11 => ?_)
            · have c_11 := bz0 c_11
              refine lv_iconst (v := nI 0) hx hcd dX3_isConsistent_91 (by decide) ?_
              exact k_retz hQ G hret hlocks h (Or.inl rfl) (⟨(bz_f (decide_eq_false (fun z => absurd (decide_eq_true (z k (by omega)).1) (by rw [Bool.not_eq_true]; assumption)))).symm, S9, hS9, hbt9, rfl⟩) (Nat.le_of_ble_eq_true rfl) (Nat.le_of_ble_eq_true rfl) dX3_isConsistent_92
            · have c_11 := bz1 c_11
              refine lv_aload_n hx hcd dX3_isConsistent_74 rfl (lv_at hl 1 rfl) ?_
              refine lv_iload_n hx hcd dX3_isConsistent_75 rfl (lv_at hl 0 rfl) ?_
              refine k_Vi (As := [.int (nI (k))]) (rest := []) (b := eX V 96) G hC hB h (met_X3_daysOnTrial l V S9 B hI0 hbt9 k (by omega)) mw_733 kv_X3_daysOnTrial ⟨rfl, rfl⟩ ⟨Nat.le_of_ble_eq_true rfl, Nat.le_of_ble_eq_true rfl⟩ (r_sV hC h) rfl rfl hl.1 (Nat.le_of_ble_eq_true rfl) dX3_isConsistent_76 ⟨Nat.le_of_ble_eq_true rfl, Nat.le_of_ble_eq_true rfl⟩ (fun r u H locs hp h => ?_)
              obtain ⟨rfl, hu, hbT⟩ := hp; rw [hu, setB_comm S9 B _ (show 0 ≠ 1 by decide)] at h
              have hle1 := dtN_le k 53 0 B
              refine lv_aload_n hx hcd dX3_isConsistent_79 rfl (lv_at hl 1 rfl) ?_
              refine va_get (D := eD V) (ci := 7) (v := .ref (eX V (8 * 0))) (C := RX3) (T := TX3) (N := 11) hx hcd G.2.2.2.2 iwX3 G.2.2.2.1 hC.1 h.1 (96 + 0) (cF_at V _ (i := 0) (by decide)) rfl 0 (by decide) (G.2.2.2.2 _ mw_242) (fun y h9 => h9) rfl dX3_isConsistent_80 ?_
              refine lv_iload_n hx hcd dX3_isConsistent_83 rfl (lv_at hl 0 rfl) ?_
              refine lv_iconst (v := nI 0) hx hcd dX3_isConsistent_84 (by decide) ?_
              refine k_Si (As := [.ref (eX V (8 * 0)), .int (nI (k)), .int (nI 0)]) (rest := [.int (nI ((dtN k 53 0 B).1) - 1)]) G hC hB h (met_dN l V (setB S9 1 (dtN k 53 0 B).2) B hI0 16 0 k (by omega) (by omega) ) mw_755 ks_X3_daysNeeded ⟨rfl, rfl⟩ ⟨Nat.le_of_ble_eq_true rfl, Nat.le_of_ble_eq_true rfl⟩ rfl rfl hl.1 (Nat.le_of_ble_eq_true rfl) dX3_isConsistent_85 ⟨Nat.le_of_ble_eq_true rfl, Nat.le_of_ble_eq_true rfl⟩ (fun r u H locs hp h => ?_)
              obtain ⟨rfl, hu⟩ := hp; rw [hu] at h
              have hle2 := ndN_lt (B := B) he hr 16 k
              refine lv_icmp_eq (tgt := 93) hx hcd dX3_isConsistent_88 (by decide) (fun c_12 => ?_) (fun c_12 => ?_)
              · have c_12 := cEq (tA (n := (dtN k 53 0 B).1) (by omega)) (tA (n := ndN B 16 k) (by omega)) c_12
                refine lv_iinc (v := nI (k + 1)) (lv' := [(1, .int (nI (k + 1))), (0, .ref (eX V 96))]) hx hcd dX3_isConsistent_93 hl (k := 0) rfl (by exact nI_add (k) 1) (by decide) rfl (fun ls hl => ?_)
                refine lv_goto (tgt := 40) hx hcd dX3_isConsistent_96 (by decide) ?_
                exact ih_4 (k + 1) (setB S9 1 (dtN k 53 0 B).2) (by omega) (sEq_t hS9 _) (by rw [setB_at]; exact hbT) hcl9 (fun q hq => (Nat.lt_succ_iff_lt_or_eq.mp hq).elim (hK q) (fun z => by subst z; exact ⟨of_decide_eq_true (by assumption), by omega⟩)) (by omega) _ _ h _ (lv_sub hl [0, 1] rfl)
              · have c_12 := cNe (tA (n := (dtN k 53 0 B).1) (by omega)) (tA (n := ndN B 16 k) (by omega)) c_12
                refine lv_iconst (v := nI 0) hx hcd dX3_isConsistent_91 (by decide) ?_
                exact k_retz hQ G hret hlocks h (Or.inl rfl) (⟨(bz_f (decide_eq_false (fun z => absurd (z k (by omega)).2 (by omega)))).symm, _, sEq_t hS9 _, (by rw [setB_at]; exact hbT), rfl⟩) (Nat.le_of_ble_eq_true rfl) (Nat.le_of_ble_eq_true rfl) dX3_isConsistent_92
    exact L_3 (17 + 1) 0 (clW S 16 (wsO B 16)) (by omega) (sEq_c S B _) hbt (fun i hi => clW_at S (wsO B 16) hi) (fun q hq => absurd hq (Nat.not_lt_zero _)) (by omega) _ _ h _ (lv_sub hl [0, 1] rfl)
  · have c_2 := cNe (tN (n := (pwork B) + (psum B 1)) (by omega)) (tN (n := psum B 0) (by omega)) c_2
    exact absurd c_2 (by omega)
