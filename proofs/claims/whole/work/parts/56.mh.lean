/-! THE REFERENCE: floats. -/
def kF {τ : Type} (l : Launch) (y : MethodName) (cc : ByteArray) (mL : Nat) (ret : Option FieldType) (rm : Room) (V : kEnv) (F : τ → va_W) (av : List Value) (u0 : τ) (post : UInt32 → τ → Prop) (mc ms : Nat) : Prop :=
  Met l y (kWs y cc mL ret) rm (va_Pc av (cPre V (F u0))) (va_Qf post (fun u t => cAt V (F u) t) (eA V)) mc ms (eA V)
theorem kF_of {l : Launch} {y : MethodName} {cc : ByteArray} {ret : Option FieldType} {rm : Room} {V : kEnv} {τ : Type} {F : τ → va_W} {u0 : τ} {mc ms : Nat} {av : List Value} {post : UInt32 → τ → Prop} {mL : Nat} (hy : plainFor y = true) (hlen : (lg_sl av).length ≤ mL)
    (body : ∀ (p : Program) (e : Env) (s : State) (m : MethodId) (args : Array Value) (below : List Frame) (meth : Method) (c : Code), CallFix p m c cc mL s args LW y.cls → meth.sig.returnType = ret → meth.locks = false → cSt V s → eB V ≤ s.heap.size → cH V s s.heap [] (F u0) → ∀ ls : Array Slot, lv_has ls mL (lv_args 0 av) → ∀ Q : State → Prop, Q = MQ below (va_Qf post (fun u t => cAt V (F u) t) (eA V)) args s mc ms (eA V) →
      W p l e rm s m args below meth c s.heap [] 0 0 Q (F0 m 0 ls [])) : kF l y cc mL ret rm V F av u0 post mc ms := by
  refine kMet (cc := cc) (maxL := mL) (ret := ret) hy rfl ?_
  intro p e s m args below meth c s₁ B hml hv
  obtain ⟨rfl, hC, hB, hP, hD⟩ := hv
  have hts := atoms_spec (ws := kWs y cc mL ret) B.pre
  rw [lg_entry_eq]
  exact body p e s m _ below meth c ⟨B.exec, B.bytes, hml, findClass_of_methodNamed B.named, fun w h => hts w (List.mem_cons_of_mem _ h)⟩ B.returns B.notSynchronized hC hB ⟨hP, hD, va_S.rf⟩ _ (lv_entry av hlen) _ rfl
theorem k_retf {p : Program} {l : Launch} {e : Env} {R : Room} {s : State} {m : MethodId} {args : Array Value} {below : List Frame} {meth : Method} {c : Code} {H : Heap} {locs : List Loc} {cells slots : Nat} {Q : State → Prop} {cc : ByteArray} {pc nL mc ms : Nat} {ls : Array Slot} {own : String} {V : kEnv} {τ : Type} {F : τ → va_W} {post : UInt32 → τ → Prop} {v : UInt32} {u : τ} (hQ : Q = MQ below (va_Qf post (fun u t => cAt V (F u) t) (eA V)) args s mc ms (eA V)) (G : CallFix p m c cc nL s args LW own) (hret : meth.sig.returnType = some .float) (hlocks : meth.locks = false) (h : cH V s H locs (F u)) (hp : post v u) (hc : cells ≤ mc) (hs : slots ≤ ms) (hd : decode cc pc = .ok (.freturn, 1)) :
    W p l e R s m args below meth c H locs cells slots Q (F0 m pc ls [.float v]) :=
  hQ ▸ W.widen hc hs (W.fret (v := v) G.1 G.2.1 hret (fun t ht _ => ⟨⟨v, u, rfl, hp, kAt ht h⟩, h.2.2.F ht⟩) h.2.2.2.2 hd)
def kD {τ : Type} (l : Launch) (y : MethodName) (cc : ByteArray) (mL : Nat) (ret : Option FieldType) (rm : Room) (V : kEnv) (F : τ → va_W) (av : List Value) (u0 : τ) (post : UInt64 → τ → Prop) (mc ms : Nat) : Prop :=
  Met l y (kWs y cc mL ret) rm (va_Pc av (cPre V (F u0))) (va_Qd post (fun u t => cAt V (F u) t) (eA V)) mc ms (eA V)
theorem kD_of {l : Launch} {y : MethodName} {cc : ByteArray} {ret : Option FieldType} {rm : Room} {V : kEnv} {τ : Type} {F : τ → va_W} {u0 : τ} {mc ms : Nat} {av : List Value} {post : UInt64 → τ → Prop} {mL : Nat} (hy : plainFor y = true) (hlen : (lg_sl av).length ≤ mL)
    (body : ∀ (p : Program) (e : Env) (s : State) (m : MethodId) (args : Array Value) (below : List Frame) (meth : Method) (c : Code), CallFix p m c cc mL s args LW y.cls → meth.sig.returnType = ret → meth.locks = false → cSt V s → eB V ≤ s.heap.size → cH V s s.heap [] (F u0) → ∀ ls : Array Slot, lv_has ls mL (lv_args 0 av) → ∀ Q : State → Prop, Q = MQ below (va_Qd post (fun u t => cAt V (F u) t) (eA V)) args s mc ms (eA V) →
      W p l e rm s m args below meth c s.heap [] 0 0 Q (F0 m 0 ls [])) : kD l y cc mL ret rm V F av u0 post mc ms := by
  refine kMet (cc := cc) (maxL := mL) (ret := ret) hy rfl ?_
  intro p e s m args below meth c s₁ B hml hv
  obtain ⟨rfl, hC, hB, hP, hD⟩ := hv
  have hts := atoms_spec (ws := kWs y cc mL ret) B.pre
  rw [lg_entry_eq]
  exact body p e s m _ below meth c ⟨B.exec, B.bytes, hml, findClass_of_methodNamed B.named, fun w h => hts w (List.mem_cons_of_mem _ h)⟩ B.returns B.notSynchronized hC hB ⟨hP, hD, va_S.rf⟩ _ (lv_entry av hlen) _ rfl
theorem k_retd {p : Program} {l : Launch} {e : Env} {R : Room} {s : State} {m : MethodId} {args : Array Value} {below : List Frame} {meth : Method} {c : Code} {H : Heap} {locs : List Loc} {cells slots : Nat} {Q : State → Prop} {cc : ByteArray} {pc nL mc ms : Nat} {ls : Array Slot} {own : String} {V : kEnv} {τ : Type} {F : τ → va_W} {post : UInt64 → τ → Prop} {v : UInt64} {u : τ} (hQ : Q = MQ below (va_Qd post (fun u t => cAt V (F u) t) (eA V)) args s mc ms (eA V)) (G : CallFix p m c cc nL s args LW own) (hret : meth.sig.returnType = some .double) (hlocks : meth.locks = false) (h : cH V s H locs (F u)) (hp : post v u) (hc : cells ≤ mc) (hs : slots ≤ ms) (hd : decode cc pc = .ok (.dreturn, 1)) :
    W p l e R s m args below meth c H locs cells slots Q (F0 m pc ls [.double v]) :=
  hQ ▸ W.widen hc hs (W.dret (v := v) G.1 G.2.1 hret (fun t ht _ => ⟨⟨v, u, rfl, hp, kAt ht h⟩, h.2.2.F ht⟩) h.2.2.2.2 hd)
set_option maxHeartbeats 4000000 in
set_option maxRecDepth 100000 in
/-- idealBurnDown(x) -/
theorem met_X4_idealBurnDown (l : Launch) (V : kEnv) (M : kMs) (B : kBd) (hg : M.2 0 = gOf B) (hI : bI B) (hd1 : B.2 3 ≠ 0 → 1 ≤ B.2 4) (x : Int32) : kF l yX4_idealBurnDown cX4_idealBurnDown 2 (some .float) { frames := 1, cells := 0, slots := 0, locals := 22 } V (mWs V) [.ref (eX V 500), .int (x)] (M) (fun r u => (∃ k : Nat, B.2 3 ≠ 0 ∧ k ≤ B.2 4 ∧ x = nI k ∧ r = fI (B.1 5 0) (B.2 4 - k) (B.2 4) ∧ u = nPut M 3 (nI 0)) ∨ ((B.2 3 = 0 ∨ ¬ (0 ≤ x.toInt ∧ x.toInt ≤ (B.2 4 : Nat))) ∧ r = FP.fconst0 ∧ u = nPut M 3 (nI 1))) 0 0 := by
  refine kF_of (by decide +kernel) (Nat.le_of_ble_eq_true rfl) ?_
  intro pg e s m args below meth c G hret hlocks hC hB h ls hl Q hQ
  have hl : lv_has ls 2 [(0, .ref (eX V 500)), (1, .int (x))] := hl
  have hx := G.1
  have hcd := G.2.1
  have hI0 := hI
  obtain ⟨hz, hbn, hn, hm, h3, h54, h4, h7, hr, he, ha, hact, h5⟩ := hI
  refine lv_aload_n hx hcd dX4_idealBurnDown_0 rfl (lv_at hl 0 rfl) ?_
  refine lv_aload_n hx hcd dX4_idealBurnDown_1 rfl (lv_at hl 0 rfl) ?_
  refine r_mA G hC h 0 (by decide) mw_1472 dX4_idealBurnDown_2 ?_
  refine lv_iconst (v := nI 2) hx hcd dX4_idealBurnDown_5 (by decide) ?_
  refine r_mL G hC h 0 (2) (by decide) (by decide) rfl (show 2 < 115 by omega) (x := nI (B.2 3)) (gOf_n hg (f := 2) (by decide)) dX4_idealBurnDown_6 ?_
  have q_1 := hz.2 3
  refine lv_iconst (v := nI 1) hx hcd dX4_idealBurnDown_7 (by decide) ?_
  refine lv_icmp_ne (tgt := 29) hx hcd dX4_idealBurnDown_8 (by decide) (fun c_2 => ?_) (fun c_2 => ?_)
  · have c_2 := cNe (tN (n := B.2 3) (by omega)) (tN (n := 1) (by decide)) c_2
    refine lv_iconst (v := nI 1) hx hcd dX4_idealBurnDown_29 (by decide) ?_
    refine k_Vi (As := [.int (nI 1)]) (rest := []) (b := eX V 500) G hC hB h (met_X4_fails l V M (nI 1)) mw_1545 kv_X4_fails ⟨rfl, rfl⟩ ⟨Nat.le_of_ble_eq_true rfl, Nat.le_of_ble_eq_true rfl⟩ (r_mV hC h) rfl rfl hl.1 (Nat.le_of_ble_eq_true rfl) dX4_idealBurnDown_30 ⟨Nat.le_of_ble_eq_true rfl, Nat.le_of_ble_eq_true rfl⟩ (fun r u H locs hp h => ?_)
    obtain ⟨hr9, hu9⟩ := hp
    obtain rfl : r = nI 1 := (hr9.trans (by decide))
    rw [hu9] at h
    refine lv_if_eq (tgt := 40) hx hcd dX4_idealBurnDown_33 (by decide) (fun c_3 => absurd c_3 (by decide)) (fun _ => ?_)
    refine lv_fconst0 hx hcd dX4_idealBurnDown_36 ?_
    refine lv_goto (tgt := 66) hx hcd dX4_idealBurnDown_37 (by decide) ?_
    exact k_retf hQ G hret hlocks h (Or.inr ⟨by omega, rfl, rfl⟩) (Nat.le_of_ble_eq_true rfl) (Nat.le_of_ble_eq_true rfl) dX4_idealBurnDown_66
  · have c_2 := cEq (tN (n := B.2 3) (by omega)) (tN (n := 1) (by decide)) c_2
    refine lv_iload_n hx hcd dX4_idealBurnDown_11 rfl (lv_at hl 1 rfl) ?_
    refine lv_iconst (v := nI 0) hx hcd dX4_idealBurnDown_12 (by decide) ?_
    refine lv_aload_n hx hcd dX4_idealBurnDown_13 rfl (lv_at hl 0 rfl) ?_
    refine r_mA G hC h 0 (by decide) mw_1472 dX4_idealBurnDown_14 ?_
    refine lv_iconst (v := nI 3) hx hcd dX4_idealBurnDown_17 (by decide) ?_
    refine r_mL G hC h 0 (3) (by decide) (by decide) rfl (show 3 < 115 by omega) (x := nI (B.2 4)) (gOf_n hg (f := 3) (by decide)) dX4_idealBurnDown_18 ?_
    have q_4 := hz.2 4
    refine k_Si (As := [.int (x), .int (nI 0), .int (nI (B.2 4))]) (rest := [.ref (eX V 500)]) G hC hB h (met_X4_in l V M x (nI 0) (nI (B.2 4)) (0) ((B.2 4 : Nat)) (tN (n := 0) (by decide)) (tN (n := B.2 4) (by omega))) mw_1542 ks_X4_in ⟨rfl, rfl⟩ ⟨Nat.le_of_ble_eq_true rfl, Nat.le_of_ble_eq_true rfl⟩ rfl rfl hl.1 (Nat.le_of_ble_eq_true rfl) dX4_idealBurnDown_19 ⟨Nat.le_of_ble_eq_true rfl, Nat.le_of_ble_eq_true rfl⟩ (fun r u H locs hp h => ?_)
    obtain ⟨hr9, hu9⟩ := hp
    rw [hu9] at h
    rcases bsp (decide (0 ≤ (x : Int32).toInt ∧ (x : Int32).toInt ≤ (B.2 4 : Nat))) with c9 | c9
    · skip
      obtain rfl : r = nI 1 := (hr9.trans ((congrArg bz c9).trans (by decide)))
      obtain ⟨k, rfl, -, hk⟩ := rng_ex (a := 0) (b := B.2 4) (by omega) (of_decide_eq_true c9)
      refine lv_if_eq (tgt := 29) hx hcd dX4_idealBurnDown_22 (by decide) (fun c_5 => absurd c_5 (by decide)) (fun _ => ?_)
      refine lv_iconst (v := nI 0) hx hcd dX4_idealBurnDown_25 (by decide) ?_
      refine lv_goto (tgt := 30) hx hcd dX4_idealBurnDown_26 (by decide) ?_
      refine k_Vi (As := [.int (nI 0)]) (rest := []) (b := eX V 500) G hC hB h (met_X4_fails l V M (nI 0)) mw_1545 kv_X4_fails ⟨rfl, rfl⟩ ⟨Nat.le_of_ble_eq_true rfl, Nat.le_of_ble_eq_true rfl⟩ (r_mV hC h) rfl rfl hl.1 (Nat.le_of_ble_eq_true rfl) dX4_idealBurnDown_30 ⟨Nat.le_of_ble_eq_true rfl, Nat.le_of_ble_eq_true rfl⟩ (fun r u H locs hp h => ?_)
      obtain ⟨hr9, hu9⟩ := hp
      obtain rfl : r = nI 0 := (hr9.trans (by decide))
      rw [hu9] at h
      refine lv_if_eq (tgt := 40) hx hcd dX4_idealBurnDown_33 (by decide) (fun _ => ?_) (fun c_6 => absurd c_6 (by decide))
      refine lv_aload_n hx hcd dX4_idealBurnDown_40 rfl (lv_at hl 0 rfl) ?_
      refine r_mA G hC h 0 (by decide) mw_1472 dX4_idealBurnDown_41 ?_
      refine lv_bipush (v := nI 104) hx hcd dX4_idealBurnDown_44 (by decide) ?_
      refine r_mL G hC h 0 (104) (by decide) (by decide) rfl (show 104 < 115 by omega) (x := nI (B.1 5 0)) (gOf_b hg (k := 0) (by omega)) dX4_idealBurnDown_46 ?_
      refine lv_i2f hx hcd dX4_idealBurnDown_47 ?_
      refine lv_aload_n hx hcd dX4_idealBurnDown_48 rfl (lv_at hl 0 rfl) ?_
      refine r_mA G hC h 0 (by decide) mw_1472 dX4_idealBurnDown_49 ?_
      refine lv_iconst (v := nI 3) hx hcd dX4_idealBurnDown_52 (by decide) ?_
      refine r_mL G hC h 0 (3) (by decide) (by decide) rfl (show 3 < 115 by omega) (x := nI (B.2 4)) (gOf_n hg (f := 3) (by decide)) dX4_idealBurnDown_53 ?_
      have q_7 := hz.2 4
      refine lv_iload_n hx hcd dX4_idealBurnDown_54 rfl (lv_at hl 1 rfl) ?_
      refine w_isub (v := nI ((B.2 4) - k)) hx hcd dX4_idealBurnDown_55 (pk_sub (by omega)) ?_
      refine lv_i2f hx hcd dX4_idealBurnDown_56 ?_
      refine lv_fmul hx hcd dX4_idealBurnDown_57 (fI_n (h5 0) (by omega)) ?_
      refine lv_aload_n hx hcd dX4_idealBurnDown_58 rfl (lv_at hl 0 rfl) ?_
      refine r_mA G hC h 0 (by decide) mw_1472 dX4_idealBurnDown_59 ?_
      refine lv_iconst (v := nI 3) hx hcd dX4_idealBurnDown_62 (by decide) ?_
      refine r_mL G hC h 0 (3) (by decide) (by decide) rfl (show 3 < 115 by omega) (x := nI (B.2 4)) (gOf_n hg (f := 3) (by decide)) dX4_idealBurnDown_63 ?_
      have q_9 := hz.2 4
      refine lv_i2f hx hcd dX4_idealBurnDown_64 ?_
      refine lv_fdiv hx hcd dX4_idealBurnDown_65 (fok_1 (fI_ok (a := B.1 5 0) (d := B.2 4 - k) (c := B.2 4) (h5 0) (by omega) (hd1 (by omega)) h4)) ?_
      exact k_retf hQ G hret hlocks h (Or.inl ⟨k, by omega, hk, rfl, rfl, rfl⟩) (Nat.le_of_ble_eq_true rfl) (Nat.le_of_ble_eq_true rfl) dX4_idealBurnDown_66
    · skip
      obtain rfl : r = nI 0 := (hr9.trans ((congrArg bz c9).trans (by decide)))
      have c8 := of_decide_eq_false c9
      refine lv_if_eq (tgt := 29) hx hcd dX4_idealBurnDown_22 (by decide) (fun _ => ?_) (fun c_10 => absurd c_10 (by decide))
      refine lv_iconst (v := nI 1) hx hcd dX4_idealBurnDown_29 (by decide) ?_
      refine k_Vi (As := [.int (nI 1)]) (rest := []) (b := eX V 500) G hC hB h (met_X4_fails l V M (nI 1)) mw_1545 kv_X4_fails ⟨rfl, rfl⟩ ⟨Nat.le_of_ble_eq_true rfl, Nat.le_of_ble_eq_true rfl⟩ (r_mV hC h) rfl rfl hl.1 (Nat.le_of_ble_eq_true rfl) dX4_idealBurnDown_30 ⟨Nat.le_of_ble_eq_true rfl, Nat.le_of_ble_eq_true rfl⟩ (fun r u H locs hp h => ?_)
      obtain ⟨hr9, hu9⟩ := hp
      obtain rfl : r = nI 1 := (hr9.trans (by decide))
      rw [hu9] at h
      refine lv_if_eq (tgt := 40) hx hcd dX4_idealBurnDown_33 (by decide) (fun c_11 => absurd c_11 (by decide)) (fun _ => ?_)
      refine lv_fconst0 hx hcd dX4_idealBurnDown_36 ?_
      refine lv_goto (tgt := 66) hx hcd dX4_idealBurnDown_37 (by decide) ?_
      exact k_retf hQ G hret hlocks h (Or.inr ⟨by omega, rfl, rfl⟩) (Nat.le_of_ble_eq_true rfl) (Nat.le_of_ble_eq_true rfl) dX4_idealBurnDown_66
set_option maxHeartbeats 4000000 in
set_option maxRecDepth 100000 in
/-- meanVelocity() -/
theorem met_X4_meanVelocity (l : Launch) (V : kEnv) (M : kMs) (B : kBd) (hg : M.2 0 = gOf B) (hI : bI B) (hv : ∀ k, B.1 6 k ≤ 208) : kD l yX4_meanVelocity cX4_meanVelocity 3 (some .double) { frames := 1, cells := 0, slots := 0, locals := 21 } V (mWs V) [.ref (eX V 500)] (M) (fun r u => (1 ≤ B.2 7 ∧ r = dM (sumUp (B.1 6) (B.2 7)) (B.2 7) ∧ u = nPut M 3 (nI 0)) ∨ (B.2 7 = 0 ∧ r = FP.dconst0 ∧ u = nPut M 3 (nI 1))) 0 0 := by
  refine kD_of (by decide +kernel) (Nat.le_of_ble_eq_true rfl) ?_
  intro pg e s m args below meth c G hret hlocks hC hB h ls hl Q hQ
  have hl : lv_has ls 3 [(0, .ref (eX V 500))] := hl
  have hx := G.1
  have hcd := G.2.1
  have hI0 := hI
  obtain ⟨hz, hbn, hn, hm, h3, h54, h4, h7, hr, he, ha, hact, h5⟩ := hI
  refine lv_aload_n hx hcd dX4_meanVelocity_0 rfl (lv_at hl 0 rfl) ?_
  refine lv_aload_n hx hcd dX4_meanVelocity_1 rfl (lv_at hl 0 rfl) ?_
  refine r_mA G hC h 0 (by decide) mw_1472 dX4_meanVelocity_2 ?_
  refine lv_bipush (v := nI 6) hx hcd dX4_meanVelocity_5 (by decide) ?_
  refine r_mL G hC h 0 (6) (by decide) (by decide) rfl (show 6 < 115 by omega) (x := nI (B.2 7)) (gOf_n hg (f := 6) (by decide)) dX4_meanVelocity_7 ?_
  have q_1 := hz.2 7
  refine lv_if_ne (tgt := 15) hx hcd dX4_meanVelocity_8 (by decide) (fun c_2 => ?_) (fun c_2 => ?_)
  · have c_2 := cNe (tN (n := B.2 7) (by omega)) t0 c_2
    refine lv_iconst (v := nI 0) hx hcd dX4_meanVelocity_15 (by decide) ?_
    refine k_Vi (As := [.int (nI 0)]) (rest := []) (b := eX V 500) G hC hB h (met_X4_fails l V M (nI 0)) mw_1545 kv_X4_fails ⟨rfl, rfl⟩ ⟨Nat.le_of_ble_eq_true rfl, Nat.le_of_ble_eq_true rfl⟩ (r_mV hC h) rfl rfl hl.1 (Nat.le_of_ble_eq_true rfl) dX4_meanVelocity_16 ⟨Nat.le_of_ble_eq_true rfl, Nat.le_of_ble_eq_true rfl⟩ (fun r u H locs hp h => ?_)
    obtain ⟨hr9, hu9⟩ := hp
    obtain rfl : r = nI 0 := (hr9.trans (by decide))
    rw [hu9] at h
    refine lv_if_eq (tgt := 24) hx hcd dX4_meanVelocity_19 (by decide) (fun _ => ?_) (fun c_3 => absurd c_3 (by decide))
    refine lv_iconst (v := nI 0) hx hcd dX4_meanVelocity_24 (by decide) ?_
    refine lv_istore_n (lv' := [(1, .int (nI 0)), (0, .ref (eX V 500))]) hx hcd dX4_meanVelocity_25 rfl hl (by decide) rfl (fun ls hl => ?_)
    refine lv_iconst (v := nI 0) hx hcd dX4_meanVelocity_26 (by decide) ?_
    refine lv_istore_n (lv' := [(2, .int (nI 0)), (1, .int (nI 0)), (0, .ref (eX V 500))]) hx hcd dX4_meanVelocity_27 rfl hl (by decide) rfl (fun ls hl => ?_)
    have L_4 : ∀ (fu_6 : Nat) (i : Nat) (acc : Nat) (hi : i ≤ B.2 7) (ha9 : acc = sumUp (B.1 6) i) (hb2 : acc ≤ 208 * i), B.2 7 - i < fu_6 → ∀ (H : Heap) (locs : List Loc), cH V s H locs (mWs V (nPut M 3 (nI 0))) → ∀ ls : Array Slot, lv_has ls 3 [(2, .int (nI (i))), (1, .int (nI (acc))), (0, .ref (eX V 500))] → W pg l e { frames := 1, cells := 0, slots := 0, locals := 21 } s m args below meth c H locs 0 0 Q (F0 m 28 ls []) := by
      intro fu_6
      induction fu_6 with
      | zero => intro i acc hi ha9 hb2 hm; exact absurd hm (Nat.not_lt_zero _)
      | succ fu_6 ih_5 =>
        intro i acc hi ha9 hb2 hm H locs h ls hl
        refine lv_iload_n hx hcd dX4_meanVelocity_28 rfl (lv_at hl 0 rfl) ?_
        refine lv_aload_n hx hcd dX4_meanVelocity_29 rfl (lv_at hl 2 rfl) ?_
        refine r_mA G hC h 0 (by decide) mw_1472 dX4_meanVelocity_30 ?_
        refine lv_bipush (v := nI 6) hx hcd dX4_meanVelocity_33 (by decide) ?_
        refine r_mL G hC h 0 (6) (by decide) (by decide) rfl (show 6 < 115 by omega) (x := nI (B.2 7)) (gOf_n hg (f := 6) (by decide)) dX4_meanVelocity_35 ?_
        have q_7 := hz.2 7
        refine lv_icmp_ge (tgt := 57) hx hcd dX4_meanVelocity_36 (by decide) (fun c_8 => ?_) (fun c_8 => ?_)
        · have c_8 := cLe (tN (n := B.2 7) (by omega)) (tN (n := i) (by omega)) c_8
          have hac : acc = sumUp (B.1 6) (B.2 7) := by rw [ha9, show i = B.2 7 by omega]
          rw [hac] at hl
          refine lv_iload_n hx hcd dX4_meanVelocity_57 rfl (lv_at hl 1 rfl) ?_
          refine lv_i2d hx hcd dX4_meanVelocity_58 ?_
          refine lv_aload_n hx hcd dX4_meanVelocity_59 rfl (lv_at hl 2 rfl) ?_
          refine r_mA G hC h 0 (by decide) mw_1472 dX4_meanVelocity_60 ?_
          refine lv_bipush (v := nI 6) hx hcd dX4_meanVelocity_63 (by decide) ?_
          refine r_mL G hC h 0 (6) (by decide) (by decide) rfl (show 6 < 115 by omega) (x := nI (B.2 7)) (gOf_n hg (f := 6) (by decide)) dX4_meanVelocity_65 ?_
          have q_9 := hz.2 7
          refine lv_i2d hx hcd dX4_meanVelocity_66 ?_
          refine lv_ddiv hx hcd dX4_meanVelocity_67 (dM_ok (s := sumUp (B.1 6) (B.2 7)) (c := B.2 7) (vsum_le hv) (by omega) h7) ?_
          exact k_retd hQ G hret hlocks h (Or.inl ⟨by omega, rfl, rfl⟩) (Nat.le_of_ble_eq_true rfl) (Nat.le_of_ble_eq_true rfl) dX4_meanVelocity_68
        · have c_8 := cNle (tN (n := B.2 7) (by omega)) (tN (n := i) (by omega)) c_8
          refine lv_iload_n hx hcd dX4_meanVelocity_39 rfl (lv_at hl 1 rfl) ?_
          refine lv_aload_n hx hcd dX4_meanVelocity_40 rfl (lv_at hl 2 rfl) ?_
          refine r_mA G hC h 0 (by decide) mw_1472 dX4_meanVelocity_41 ?_
          refine lv_bipush (v := nI 95) hx hcd dX4_meanVelocity_44 (by decide) ?_
          refine lv_iload_n hx hcd dX4_meanVelocity_46 rfl (lv_at hl 0 rfl) ?_
          refine w_iadd (v := nI (95 + i)) hx hcd dX4_meanVelocity_47 (nI_add _ _) ?_
          refine r_mL G hC h 0 (95 + i) (by decide) (by decide) rfl (show 95 + i < 115 by omega) (x := nI (B.1 6 i)) (gOf_v hg (k := i) (by omega)) dX4_meanVelocity_48 ?_
          have q_11 := hz.1 6 i
          refine w_iadd (v := nI (acc + (B.1 6 i))) hx hcd dX4_meanVelocity_49 (nI_add _ _) ?_
          refine lv_istore_n (lv' := [(1, .int (nI (acc + (B.1 6 i)))), (2, .int (nI (i))), (0, .ref (eX V 500))]) hx hcd dX4_meanVelocity_50 rfl hl (by decide) rfl (fun ls hl => ?_)
          refine lv_iinc (v := nI (i + 1)) (lv' := [(2, .int (nI (i + 1))), (1, .int (nI (acc + (B.1 6 i)))), (0, .ref (eX V 500))]) hx hcd dX4_meanVelocity_51 hl (k := 1) rfl (by exact nI_add (i) 1) (by decide) rfl (fun ls hl => ?_)
          refine lv_goto (tgt := 28) hx hcd dX4_meanVelocity_54 (by decide) ?_
          exact ih_5 (i + 1) (acc + (B.1 6 i)) (by omega) (by rw [ha9]; rfl) (by have := hv i; omega) (by omega) _ _ h _ (lv_sub hl [0, 1, 2] rfl)
    exact L_4 (B.2 7 + 1) 0 0 (Nat.zero_le _) rfl (Nat.zero_le _) (by omega) _ _ h _ (lv_sub hl [0, 1, 2] rfl)
  · have c_2 := cEq (tN (n := B.2 7) (by omega)) t0 c_2
    refine lv_iconst (v := nI 1) hx hcd dX4_meanVelocity_11 (by decide) ?_
    refine lv_goto (tgt := 16) hx hcd dX4_meanVelocity_12 (by decide) ?_
    refine k_Vi (As := [.int (nI 1)]) (rest := []) (b := eX V 500) G hC hB h (met_X4_fails l V M (nI 1)) mw_1545 kv_X4_fails ⟨rfl, rfl⟩ ⟨Nat.le_of_ble_eq_true rfl, Nat.le_of_ble_eq_true rfl⟩ (r_mV hC h) rfl rfl hl.1 (Nat.le_of_ble_eq_true rfl) dX4_meanVelocity_16 ⟨Nat.le_of_ble_eq_true rfl, Nat.le_of_ble_eq_true rfl⟩ (fun r u H locs hp h => ?_)
    obtain ⟨hr9, hu9⟩ := hp
    obtain rfl : r = nI 1 := (hr9.trans (by decide))
    rw [hu9] at h
    refine lv_if_eq (tgt := 24) hx hcd dX4_meanVelocity_19 (by decide) (fun c_13 => absurd c_13 (by decide)) (fun _ => ?_)
    refine lv_dconst0 hx hcd dX4_meanVelocity_22 ?_
    exact k_retd hQ G hret hlocks h (Or.inr ⟨by omega, rfl, rfl⟩) (Nat.le_of_ble_eq_true rfl) (Nat.le_of_ble_eq_true rfl) dX4_meanVelocity_23
