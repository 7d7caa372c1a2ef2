/-! METHODS THAT ANSWER FLOATS. -/
def kXf {τ : Type} (l : Launch) (y : MethodName) (cc : ByteArray) (mL : Nat) (rm : Room) (V : kEnv) (F : τ → va_W) (av : List Value) (u0 : τ) (post : UInt32 → τ → Prop) (px : String → τ → Prop) (mc ms : Nat) : Prop :=
  vx_Met l y (kWs y cc mL (some .float)) rm (va_Pc av (cPre V (F u0))) (va_Qf post (fun u t => cAt V (F u) t) (eA V)) (vx_X (fun _ : τ => True) (fun E u t => px E u ∧ cAt V (F u) t) (eA V)) mc ms (eA V)
def kXd {τ : Type} (l : Launch) (y : MethodName) (cc : ByteArray) (mL : Nat) (rm : Room) (V : kEnv) (F : τ → va_W) (av : List Value) (u0 : τ) (post : UInt64 → τ → Prop) (px : String → τ → Prop) (mc ms : Nat) : Prop :=
  vx_Met l y (kWs y cc mL (some .double)) rm (va_Pc av (cPre V (F u0))) (va_Qd post (fun u t => cAt V (F u) t) (eA V)) (vx_X (fun _ : τ => True) (fun E u t => px E u ∧ cAt V (F u) t) (eA V)) mc ms (eA V)
def kQf {τ : Type} (below : List Frame) (V : kEnv) (F : τ → va_W) (post : UInt32 → τ → Prop) (px : String → τ → Prop) (args : Array Value) (s : State) (mc ms : Nat) : State → Prop := vx_MQ below (va_Qf post (fun u t => cAt V (F u) t) (eA V)) (vx_X (fun _ : τ => True) (fun E u t => px E u ∧ cAt V (F u) t) (eA V)) args s mc ms (eA V)
def kQd {τ : Type} (below : List Frame) (V : kEnv) (F : τ → va_W) (post : UInt64 → τ → Prop) (px : String → τ → Prop) (args : Array Value) (s : State) (mc ms : Nat) : State → Prop := vx_MQ below (va_Qd post (fun u t => cAt V (F u) t) (eA V)) (vx_X (fun _ : τ => True) (fun E u t => px E u ∧ cAt V (F u) t) (eA V)) args s mc ms (eA V)
section KF
variable {p : Program} {l : Launch} {e : Env} {R : Room} {s : State} {m : MethodId} {args : Array Value} {below : List Frame} {meth : Method} {c : Code} {H : Heap} {locs : List Loc} {cells slots : Nat} {Q : State → Prop}
variable {cc bytes : ByteArray} {pc nL index maxL mc ms mc0 ms0 n b : Nat} {ls : Array Slot} {rest st0 As : List Value} {own : String} {V : kEnv} {y : MethodName} {rm : Room} {τ : Type} {F : τ → va_W} {u0 : τ}
theorem kXf_of {av : List Value} {post : UInt32 → τ → Prop} {px : String → τ → Prop} {mL : Nat} (hy : plainName y.cls = true) (hlen : (lg_sl av).length ≤ mL)
    (body : ∀ (p : Program) (e : Env) (s : State) (m : MethodId) (args : Array Value) (below : List Frame) (meth : Method) (c : Code), CallFix p m c cc mL s args LW y.cls → meth.sig.returnType = some .float → meth.locks = false → (∀ x ∈ c.exceptionTable.toList, False) → cSt V s → eB V ≤ s.heap.size → cH V s s.heap [] (F u0) → ∀ ls : Array Slot, lv_has ls mL (lv_args 0 av) → ∀ Q : State → Prop, Q = kQf below V F post px args s mc ms →
      W p l e rm s m args below meth c s.heap [] 0 0 Q (F0 m 0 ls [])) : kXf l y cc mL rm V F av u0 post px mc ms := by
  refine vx_ofW (cc := cc) (maxL := mL) (ret := some .float) hy rfl ?_
  intro p e s m args below meth c s₁ B hml htab hv
  obtain ⟨rfl, hC, hB, hP, hD⟩ := hv
  have hts := atoms_spec (ws := kWs y cc mL (some .float)) B.pre
  rw [lg_entry_eq]
  exact body p e s m _ below meth c ⟨B.exec, B.bytes, hml, findClass_of_methodNamed B.named, fun w h => hts w (List.mem_cons_of_mem _ h)⟩ B.returns B.notSynchronized htab hC hB ⟨hP, hD, va_S.rf⟩ _ (lv_entry av hlen) _ rfl
theorem kXd_of {av : List Value} {post : UInt64 → τ → Prop} {px : String → τ → Prop} {mL : Nat} (hy : plainName y.cls = true) (hlen : (lg_sl av).length ≤ mL)
    (body : ∀ (p : Program) (e : Env) (s : State) (m : MethodId) (args : Array Value) (below : List Frame) (meth : Method) (c : Code), CallFix p m c cc mL s args LW y.cls → meth.sig.returnType = some .double → meth.locks = false → (∀ x ∈ c.exceptionTable.toList, False) → cSt V s → eB V ≤ s.heap.size → cH V s s.heap [] (F u0) → ∀ ls : Array Slot, lv_has ls mL (lv_args 0 av) → ∀ Q : State → Prop, Q = kQd below V F post px args s mc ms →
      W p l e rm s m args below meth c s.heap [] 0 0 Q (F0 m 0 ls [])) : kXd l y cc mL rm V F av u0 post px mc ms := by
  refine vx_ofW (cc := cc) (maxL := mL) (ret := some .double) hy rfl ?_
  intro p e s m args below meth c s₁ B hml htab hv
  obtain ⟨rfl, hC, hB, hP, hD⟩ := hv
  have hts := atoms_spec (ws := kWs y cc mL (some .double)) B.pre
  rw [lg_entry_eq]
  exact body p e s m _ below meth c ⟨B.exec, B.bytes, hml, findClass_of_methodNamed B.named, fun w h => hts w (List.mem_cons_of_mem _ h)⟩ B.returns B.notSynchronized htab hC hB ⟨hP, hD, va_S.rf⟩ _ (lv_entry av hlen) _ rfl
theorem kx_retf {post : UInt32 → τ → Prop} {px : String → τ → Prop} {v : UInt32} {u : τ} (hQ : Q = kQf below V F post px args s mc ms) (G : CallFix p m c cc nL s args LW own) (hret : meth.sig.returnType = some .float) (hlocks : meth.locks = false) (h : cH V s H locs (F u)) (hp : post v u) (hc : cells ≤ mc) (hs : slots ≤ ms) (hd : decode cc pc = .ok (.freturn, 1)) :
    W p l e R s m args below meth c H locs cells slots Q (F0 m pc ls [.float v]) :=
  hQ ▸ vx_ret (W.widen hc hs (W.fret (v := v) G.1 G.2.1 hret (fun t ht _ => ⟨⟨v, u, rfl, hp, kAt ht h⟩, h.2.2.F ht⟩) h.2.2.2.2 hd))
theorem kx_retd {post : UInt64 → τ → Prop} {px : String → τ → Prop} {v : UInt64} {u : τ} (hQ : Q = kQd below V F post px args s mc ms) (G : CallFix p m c cc nL s args LW own) (hret : meth.sig.returnType = some .double) (hlocks : meth.locks = false) (h : cH V s H locs (F u)) (hp : post v u) (hc : cells ≤ mc) (hs : slots ≤ ms) (hd : decode cc pc = .ok (.dreturn, 1)) :
    W p l e R s m args below meth c H locs cells slots Q (F0 m pc ls [.double v]) :=
  hQ ▸ vx_ret (W.widen hc hs (W.dret (v := v) G.1 G.2.1 hret (fun t ht _ => ⟨⟨v, u, rfl, hp, kAt ht h⟩, h.2.2.F ht⟩) h.2.2.2.2 hd))
end KF
theorem fok_1 {r : UInt32} (h : fok r = true) : vf_n32 r := of_decide_eq_true (p := r &&& 0x7fffffff ≤ 0x7f800000) (band_l h)
theorem fok_2 {r : UInt32} (h : fok r = true) : vf_n64 (FP.f2d r) := of_decide_eq_true (p := FP.f2d r &&& 0x7fffffffffffffff ≤ 0x7ff0000000000000) (band_r h)
/-- what idealBurnDown answers: points on the first day, days left, days of the sprint -/
def fI (a d c : Nat) : UInt32 := FP.fdiv (FP.fmul (FP.i2f (nI a)) (FP.i2f (nI d))) (FP.i2f (nI c))
theorem fI_m {a d : Nat} (ha : a ≤ 208) (hd : d ≤ 10) : FP.fmul (FP.i2f (nI a)) (FP.i2f (nI d)) = FP.i2f (nI (a * d)) := of_decide_eq_true (rng_at (rng_at fl_mul (k := a) (by omega)) (k := d) (by omega))
theorem prod_le {a d : Nat} (ha : a ≤ 208) (hd : d ≤ 10) : a * d ≤ 2080 := Nat.le_trans (Nat.mul_le_mul ha hd) (by decide)
theorem fI_n {a d : Nat} (ha : a ≤ 208) (hd : d ≤ 10) : vf_n32 (FP.fmul (FP.i2f (nI a)) (FP.i2f (nI d))) := by
  rw [fI_m ha hd]
  have := prod_le ha hd
  exact fok_1 (rng_at fl_num (by omega))
theorem fI_ok {a d c : Nat} (ha : a ≤ 208) (hd : d ≤ c) (h1 : 1 ≤ c) (hc : c ≤ 10) : fok (fI a d c) = true := by
  unfold fI
  rw [fI_m ha (by omega)]
  exact fl_div c (a * d) h1 hc (Nat.mul_le_mul ha hd)
/-- what meanVelocity answers -/
def dM (s c : Nat) : UInt64 := FP.ddiv (FP.i2d (nI s)) (FP.i2d (nI c))
theorem dM_ok {s c : Nat} (hs : s ≤ 208 * c) (h1 : 1 ≤ c) (hc : c ≤ 9) : vf_n64 (dM s c) := of_decide_eq_true (p := dM s c &&& 0x7fffffffffffffff ≤ 0x7ff0000000000000) (dl_div c s h1 hc hs)
theorem vsum_le {B : kBd} (hv : ∀ k, B.1 6 k ≤ 208) : sumUp (B.1 6) (B.2 7) ≤ 208 * B.2 7 := by
  have h1 := sumUp_le hv (B.2 7)
  rw [Nat.mul_comm] at h1
  exact h1
theorem kv_X0_hasDay : kV yX0_hasDay cX0_hasDay 2 (some .boolean) 1 := ⟨mw_1246, mw_1247, mw_57, mw_1248, by decide, by decide, by decide +kernel⟩
theorem kv_X0_velocitySum : kV yX0_velocitySum cX0_velocitySum 3 (some .int) 0 := ⟨mw_1285, mw_1286, mw_57, mw_1287, by decide, by decide, by decide +kernel⟩
set_option maxHeartbeats 4000000 in
set_option maxRecDepth 100000 in
/-- idealBurnDown -/
theorem met_X3_idealBurnDown (l : Launch) (hst : l.stackTraces = false) (V : kEnv) (S : kCs) (B : kBd) (hI : bI B) (x : Int32) : kXf l yX3_idealBurnDown cX3_idealBurnDown 2 { frames := 7, cells := 6, slots := 36, locals := 110 } V (cWs V) [.ref (eX V 96), .int (x)] (setB S 0 B) (fun r u => ∃ (k : Nat), (((decide (B.2 3 ≠ 0) && decide (0 < B.2 4)) && decide (0 ≤ (x : Int32).toInt ∧ (x : Int32).toInt ≤ (B.2 4 : Nat)))) = true ∧ x = nI k ∧ k ≤ B.2 4 ∧ r = fI (B.1 5 0) (B.2 4 - k) (B.2 4) ∧ u = setB S 0 B) (fun E u => (E = "java/util/NoSuchElementException" ∧ (((decide (B.2 3 ≠ 0) && decide (0 < B.2 4)) && decide (0 ≤ (x : Int32).toInt ∧ (x : Int32).toInt ≤ (B.2 4 : Nat)))) = false ∧ u = setB S 0 B)) 6 36 := by
  refine kXf_of (by decide +kernel) (Nat.le_of_ble_eq_true rfl) ?_
  intro pg e s m args below meth c G hret hlocks htab hC hB h ls hl Q hQ
  have hl : lv_has ls 2 [(0, .ref (eX V 96)), (1, .int (x))] := hl
  have hx := G.1
  have hcd := G.2.1
  have hI0 := hI
  obtain ⟨hz, hbn, hn, hm, h3, h54, h4, h7, hr, he, ha, hact, h5⟩ := hI
  refine lv_aload_n hx hcd dX3_idealBurnDown_0 rfl (lv_at hl 0 rfl) ?_
  refine va_get (D := eD V) (ci := 7) (v := .ref (eX V (8 * 0))) (C := RX3) (T := TX3) (N := 11) hx hcd G.2.2.2.2 iwX3 G.2.2.2.1 hC.1 h.1 (96 + 0) (cF_at V _ (i := 0) (by decide)) rfl 0 (by decide) (G.2.2.2.2 _ mw_242) (fun y h9 => h9) rfl dX3_idealBurnDown_1 ?_
  refine lv_iload_n hx hcd dX3_idealBurnDown_4 rfl (lv_at hl 1 rfl) ?_
  refine k_Vi (As := [.int (x)]) (rest := []) (b := eX V (8 * 0)) G hC hB h (met_X0_hasDay l V S 0 B (by omega) hz x) mw_1245 kv_X0_hasDay ⟨rfl, rfl⟩ ⟨Nat.le_of_ble_eq_true rfl, Nat.le_of_ble_eq_true rfl⟩ (r_bV hC h 0 (by omega)) rfl rfl hl.1 (Nat.le_of_ble_eq_true rfl) dX3_idealBurnDown_5 ⟨Nat.le_of_ble_eq_true rfl, Nat.le_of_ble_eq_true rfl⟩ (fun r u H locs hp h => ?_)
  obtain ⟨rfl, rfl⟩ := hp
  refine kx_Sv (As := [.int (bz (((decide (B.2 3 ≠ 0) && decide (0 < B.2 4)) && decide (0 ≤ (x : Int32).toInt ∧ (x : Int32).toInt ≤ (B.2 4 : Nat)))))]) (rest := []) G hC hB h (met_X3_requireFound l hst V (setB S 0 B) ((decide (B.2 3 ≠ 0) && decide (0 < B.2 4)) && decide (0 ≤ (x : Int32).toInt ∧ (x : Int32).toInt ≤ (B.2 4 : Nat)))) mw_1028 ks_X3_requireFound ⟨rfl, rfl⟩ ⟨Nat.le_of_ble_eq_true rfl, Nat.le_of_ble_eq_true rfl⟩ rfl rfl hl.1 (Nat.le_of_ble_eq_true rfl) dX3_idealBurnDown_8 ⟨Nat.le_of_ble_eq_true rfl, Nat.le_of_ble_eq_true rfl⟩ (fun E ce q9 u t H1 locs1 ht9 hpx hb9 hS9 e1 e2 e3 => by subst hQ; exact kx_pass htab hlocks ht9 (hpx) hb9 hS9 e1 e2 e3 (Nat.le_of_ble_eq_true rfl) (Nat.le_of_ble_eq_true rfl)) (fun u H locs hp h => ?_)
  obtain ⟨hs1, hu⟩ := hp; rw [hu] at h
  have hpos : 0 < B.2 4 := of_decide_eq_true (band_r (band_l hs1))
  obtain ⟨k, rfl, -, hk⟩ := rng_ex (a := 0) (b := B.2 4) (by omega) (of_decide_eq_true (band_r hs1))
  refine lv_aload_n hx hcd dX3_idealBurnDown_11 rfl (lv_at hl 0 rfl) ?_
  refine va_get (D := eD V) (ci := 7) (v := .ref (eX V (8 * 0))) (C := RX3) (T := TX3) (N := 11) hx hcd G.2.2.2.2 iwX3 G.2.2.2.1 hC.1 h.1 (96 + 0) (cF_at V _ (i := 0) (by decide)) rfl 0 (by decide) (G.2.2.2.2 _ mw_242) (fun y h9 => h9) rfl dX3_idealBurnDown_12 ?_
  refine r_bA G hC h 0 5 (by omega) (by decide) mw_108 dX3_idealBurnDown_15 ?_
  refine lv_iconst (v := nI 0) hx hcd dX3_idealBurnDown_18 (by decide) ?_
  refine r_bL G hC h 0 5 0 (by omega) (by decide) (setB_at _ _ _) rfl (show 0 < 11 by omega) (x := nI (B.1 5 0)) rfl dX3_idealBurnDown_19 ?_
  refine lv_i2f hx hcd dX3_idealBurnDown_20 ?_
  refine lv_aload_n hx hcd dX3_idealBurnDown_21 rfl (lv_at hl 0 rfl) ?_
  refine va_get (D := eD V) (ci := 7) (v := .ref (eX V (8 * 0))) (C := RX3) (T := TX3) (N := 11) hx hcd G.2.2.2.2 iwX3 G.2.2.2.1 hC.1 h.1 (96 + 0) (cF_at V _ (i := 0) (by decide)) rfl 0 (by decide) (G.2.2.2.2 _ mw_242) (fun y h9 => h9) rfl dX3_idealBurnDown_22 ?_
  refine r_bS G hC h 0 4 (by omega) (by decide) (setB_at _ _ _) mw_119 (x := nI (B.2 4)) rfl dX3_idealBurnDown_25 ?_
  refine lv_iload_n hx hcd dX3_idealBurnDown_28 rfl (lv_at hl 1 rfl) ?_
  refine lv_isub hx hcd dX3_idealBurnDown_29 ?_
  rw [pk_sub (a := B.2 4) (b := k) hk]
  refine lv_i2f hx hcd dX3_idealBurnDown_30 ?_
  refine lv_fmul hx hcd dX3_idealBurnDown_31 (fI_n (h5 0) (by omega)) ?_
  refine lv_aload_n hx hcd dX3_idealBurnDown_32 rfl (lv_at hl 0 rfl) ?_
  refine va_get (D := eD V) (ci := 7) (v := .ref (eX V (8 * 0))) (C := RX3) (T := TX3) (N := 11) hx hcd G.2.2.2.2 iwX3 G.2.2.2.1 hC.1 h.1 (96 + 0) (cF_at V _ (i := 0) (by decide)) rfl 0 (by decide) (G.2.2.2.2 _ mw_242) (fun y h9 => h9) rfl dX3_idealBurnDown_33 ?_
  refine r_bS G hC h 0 4 (by omega) (by decide) (setB_at _ _ _) mw_119 (x := nI (B.2 4)) rfl dX3_idealBurnDown_36 ?_
  refine lv_i2f hx hcd dX3_idealBurnDown_39 ?_
  have hok := fI_ok (a := B.1 5 0) (d := B.2 4 - k) (c := B.2 4) (h5 0) (by omega) hpos h4
  refine lv_fdiv hx hcd dX3_idealBurnDown_40 (fok_1 hok) ?_
  exact kx_retf hQ G hret hlocks h (⟨k, hs1, rfl, hk, rfl, rfl⟩) (Nat.le_of_ble_eq_true rfl) (Nat.le_of_ble_eq_true rfl) dX3_idealBurnDown_41
theorem kth_258_260 : kTh RX3 258 260 262 "java/lang/ArithmeticException" "no sprint has ended" := ⟨by decide +kernel, mw_1281, mw_77, by decide +kernel, by decide +kernel, by decide +kernel, by decide +kernel⟩
set_option maxHeartbeats 4000000 in
set_option maxRecDepth 100000 in
/-- meanVelocity -/
theorem met_X3_meanVelocity (l : Launch) (hst : l.stackTraces = false) (V : kEnv) (S : kCs) (B : kBd) (hI : bI B) (hv : ∀ k, B.1 6 k ≤ 208) : kXd l yX3_meanVelocity cX3_meanVelocity 1 { frames := 6, cells := 1, slots := 6, locals := 90 } V (cWs V) [.ref (eX V 96)] (setB S 0 B) (fun r u => 1 ≤ B.2 7 ∧ r = dM (sumUp (B.1 6) (B.2 7)) (B.2 7) ∧ u = setB S 0 B) (fun E u => (E = "java/lang/ArithmeticException" ∧ B.2 7 = 0 ∧ u = setB S 0 B)) 1 6 := by
  refine kXd_of (by decide +kernel) (Nat.le_of_ble_eq_true rfl) ?_
  intro pg e s m args below meth c G hret hlocks htab hC hB h ls hl Q hQ
  have hl : lv_has ls 1 [(0, .ref (eX V 96))] := hl
  have hx := G.1
  have hcd := G.2.1
  have hI0 := hI
  obtain ⟨hz, hbn, hn, hm, h3, h54, h4, h7, hr, he, ha, hact, h5⟩ := hI
  refine lv_aload_n hx hcd dX3_meanVelocity_0 rfl (lv_at hl 0 rfl) ?_
  refine va_get (D := eD V) (ci := 7) (v := .ref (eX V (8 * 0))) (C := RX3) (T := TX3) (N := 11) hx hcd G.2.2.2.2 iwX3 G.2.2.2.1 hC.1 h.1 (96 + 0) (cF_at V _ (i := 0) (by decide)) rfl 0 (by decide) (G.2.2.2.2 _ mw_242) (fun y h9 => h9) rfl dX3_meanVelocity_1 ?_
  refine r_bS G hC h 0 7 (by omega) (by decide) (setB_at _ _ _) mw_125 (x := nI (B.2 7)) rfl dX3_meanVelocity_4 ?_
  refine lv_iconst (v := nI 1) hx hcd dX3_meanVelocity_7 (by decide) ?_
  refine lv_icmp_ge (tgt := 22) hx hcd dX3_meanVelocity_8 (by decide) (fun c_1 => ?_) (fun c_1 => ?_)
  · have hpos : 1 ≤ B.2 7 := by
      have := cLe (a := 1) (b := (B.2 7 : Nat)) rfl (tN (by omega)) c_1
      omega
    refine lv_aload_n hx hcd dX3_meanVelocity_22 rfl (lv_at hl 0 rfl) ?_
    refine va_get (D := eD V) (ci := 7) (v := .ref (eX V (8 * 0))) (C := RX3) (T := TX3) (N := 11) hx hcd G.2.2.2.2 iwX3 G.2.2.2.1 hC.1 h.1 (96 + 0) (cF_at V _ (i := 0) (by decide)) rfl 0 (by decide) (G.2.2.2.2 _ mw_242) (fun y h9 => h9) rfl dX3_meanVelocity_23 ?_
    refine k_Vi (As := []) (rest := []) (b := eX V (8 * 0)) G hC hB h (met_X0_velocitySum l V S 0 B (by omega) hz h7) mw_1284 kv_X0_velocitySum ⟨rfl, rfl⟩ ⟨Nat.le_of_ble_eq_true rfl, Nat.le_of_ble_eq_true rfl⟩ (r_bV hC h 0 (by omega)) rfl rfl hl.1 (Nat.le_of_ble_eq_true rfl) dX3_meanVelocity_26 ⟨Nat.le_of_ble_eq_true rfl, Nat.le_of_ble_eq_true rfl⟩ (fun r u H locs hp h => ?_)
    obtain ⟨rfl, rfl⟩ := hp
    refine lv_i2d hx hcd dX3_meanVelocity_29 ?_
    refine lv_aload_n hx hcd dX3_meanVelocity_30 rfl (lv_at hl 0 rfl) ?_
    refine va_get (D := eD V) (ci := 7) (v := .ref (eX V (8 * 0))) (C := RX3) (T := TX3) (N := 11) hx hcd G.2.2.2.2 iwX3 G.2.2.2.1 hC.1 h.1 (96 + 0) (cF_at V _ (i := 0) (by decide)) rfl 0 (by decide) (G.2.2.2.2 _ mw_242) (fun y h9 => h9) rfl dX3_meanVelocity_31 ?_
    refine r_bS G hC h 0 7 (by omega) (by decide) (setB_at _ _ _) mw_125 (x := nI (B.2 7)) rfl dX3_meanVelocity_34 ?_
    refine lv_i2d hx hcd dX3_meanVelocity_37 ?_
    refine lv_ddiv hx hcd dX3_meanVelocity_38 (dM_ok (vsum_le hv) hpos h7) ?_
    exact kx_retd hQ G hret hlocks h (⟨hpos, rfl, rfl⟩) (Nat.le_of_ble_eq_true rfl) (Nat.le_of_ble_eq_true rfl) dX3_meanVelocity_39
  · have hnone : B.2 7 = 0 := by
      have := cNle (a := 1) (b := (B.2 7 : Nat)) rfl (tN (by omega)) c_1
      omega
    subst hQ
    exact kx_throw G hst hC h hl.1 htab hlocks kth_258_260 dX3_meanVelocity_11 dX3_meanVelocity_14 dX3_meanVelocity_15 dX3_meanVelocity_18 dX3_meanVelocity_21 (Nat.le_of_ble_eq_true rfl) (Nat.le_of_ble_eq_true rfl) (Nat.le_of_ble_eq_true rfl) (Nat.le_of_ble_eq_true rfl) (Nat.le_of_ble_eq_true rfl) (Nat.le_of_ble_eq_true rfl) ⟨rfl, hnone, rfl⟩
