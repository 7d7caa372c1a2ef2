/-! THE LAW'S OWN WRAPPERS: what is called, and which exception is told by which number. -/
def kWw (y : MethodName) (cc : ByteArray) (mL : Nat) (hh : List (Nat × Nat × Nat × Nat)) : List Cond := Cond.codeWith y cc mL (some .int) hh :: LW
def kW {τ : Type} (l : Launch) (y : MethodName) (cc : ByteArray) (mL : Nat) (hh : List (Nat × Nat × Nat × Nat)) (rm : Room) (V : kEnv) (F : τ → va_W) (av : List Value) (u0 : τ) (post : Int32 → τ → Prop) (mc ms : Nat) : Prop :=
  Met l y (kWw y cc mL hh) rm (va_Pc av (cPre V (F u0))) (va_Qi post (fun u t => cAt V (F u) t) (eA V)) mc ms (eA V)
theorem kW_of {l : Launch} {y : MethodName} {cc : ByteArray} {hh : List (Nat × Nat × Nat × Nat)} {rm : Room} {V : kEnv} {τ : Type} {F : τ → va_W} {u0 : τ} {mc ms : Nat} {av : List Value} {post : Int32 → τ → Prop} {mL : Nat} (hy : plainName y.cls = true) (hlen : (lg_sl av).length ≤ mL)
    (body : ∀ (p : Program) (e : Env) (s : State) (m : MethodId) (args : Array Value) (below : List Frame) (meth : Method) (c : Code), CallFix p m c cc mL s args LW y.cls → meth.sig.returnType = some .int → meth.locks = false → c.exceptionTable.toList = tableOf hh → cSt V s → eB V ≤ s.heap.size → cH V s s.heap [] (F u0) → ∀ ls : Array Slot, lv_has ls mL (lv_args 0 av) → ∀ Q : State → Prop, Q = MQ below (va_Qi post (fun u t => cAt V (F u) t) (eA V)) args s mc ms (eA V) →
      W p l e rm s m args below meth c s.heap [] 0 0 Q (F0 m 0 ls [])) : kW l y cc mL hh rm V F av u0 post mc ms := by
  refine va_MetW (hh := hh) (cc := cc) (maxL := mL) (ret := some .int) hy rfl ?_
  intro p e s m args below meth c s₁ B hml hv
  obtain ⟨rfl, hC, hB, hP, hD⟩ := hv
  have hts := atoms_spec (ws := kWw y cc mL hh) B.pre
  rw [lg_entry_eq]
  exact body p e s m _ below meth c ⟨B.exec, B.bytes, hml, findClass_of_methodNamed B.named, fun w h => hts w (List.mem_cons_of_mem _ h)⟩ B.returns B.notSynchronized (vx_table (x := y) B (hts _ List.mem_cons_self)) hC hB ⟨hP, hD, va_S.rf⟩ _ (lv_entry av hlen) _ rfl
def oC (V : kEnv) (O : Nat → Int64) : va_W := [(eX V 600, .inl (eC V 4, 1, .inr (.inl O)))]
def dC (V : kEnv) (O : Nat → UInt64) : va_W := [(eX V 601, .inl (eC V 5, 1, .inr (.inr (.inr (.inl O)))))]
def lwF (V : kEnv) (u : kCs × (Nat → Int64)) : va_W := cWs V u.1 ++ oC V u.2
def ldF (V : kEnv) (u : kCs × (Nat → UInt64)) : va_W := cWs V u.1 ++ dC V u.2
section LR
variable {p : Program} {l : Launch} {e : Env} {R : Room} {s : State} {m : MethodId} {args : Array Value} {below : List Frame} {meth : Method} {c : Code} {H : Heap} {locs : List Loc} {cells slots : Nat} {Q : State → Prop}
variable {cc : ByteArray} {pc nL : Nat} {ls : Array Slot} {rest : List Value} {own : String} {V : kEnv} {S : kCs}
theorem app_z {a : va_W} {n : Nat} (hn : a.length = n) (q : Nat × va_E) (b : va_W) : (a ++ (q :: b))[n]? = some q := by
  have h := app_r (a := a) (b := q :: b) (i := 0) (q := q) rfl
  rw [hn, Nat.add_zero] at h
  exact h
theorem set_z {a : va_W} {n : Nat} (hn : a.length = n) (q q' : Nat × va_E) (b : va_W) : (a ++ (q :: b)).set n q' = a ++ (q' :: b) := by
  subst hn
  simp
theorem r_lS {O : Nat → Int64} (G : CallFix p m c cc nL s args LW own) (hC : cSt V s) (h : cH V s H locs (lwF V (S, O))) (x : Int64) (hd : decode cc pc = .ok (.lastore, 1))
    (k : ∀ (H : Heap) (locs : List Loc), cH V s H locs (lwF V (S, vp_updL O 0 x)) → W p l e R s m args below meth c H locs cells slots Q (F0 m (pc + 1) ls rest)) : W p l e R s m args below meth c H locs cells slots Q (F0 m pc ls (.long x :: .int (nI 0) :: .ref (eX V 600) :: rest)) := by
  obtain ⟨hP, hD, hS⟩ := h
  refine va_last (D := eD V) (cl := vwCl) (tys := eT V) G.1 G.2.1 hC.1 hP hD hS 108 4 (app_z (cWs_len V S) _ _) rfl (vp_in_ofNat (n := 1) (j := 0) rfl (by decide) (by decide)) hd (fun H1 locs1 hP1 hD1 hS1 => k H1 locs1 ?_)
  unfold lwF oC at hP1 hD1
  rw [set_z (cWs_len V S)] at hP1 hD1
  exact ⟨hP1, hD1, hS1⟩
theorem r_dS {O : Nat → UInt64} (G : CallFix p m c cc nL s args LW own) (hC : cSt V s) (h : cH V s H locs (ldF V (S, O))) (x : UInt64) (hd : decode cc pc = .ok (.dastore, 1))
    (k : ∀ (H : Heap) (locs : List Loc), cH V s H locs (ldF V (S, vf_upd O 0 x)) → W p l e R s m args below meth c H locs cells slots Q (F0 m (pc + 1) ls rest)) : W p l e R s m args below meth c H locs cells slots Q (F0 m pc ls (.double x :: .int (nI 0) :: .ref (eX V 601) :: rest)) := by
  obtain ⟨hP, hD, hS⟩ := h
  refine va_dast (D := eD V) (cl := vwCl) (tys := eT V) G.1 G.2.1 hC.1 hP hD hS 108 5 (app_z (cWs_len V S) _ _) rfl (vp_in_ofNat (n := 1) (j := 0) rfl (by decide) (by decide)) hd (fun H1 locs1 hP1 hD1 hS1 => k H1 locs1 ?_)
  unfold ldF dC at hP1 hD1
  rw [set_z (cWs_len V S)] at hP1 hD1
  exact ⟨hP1, hD1, hS1⟩
theorem r_sVf {o9 : va_W} (hC : cSt V s) (h : cH V s H locs (cWs V S ++ o9)) : ∃ cell : Cell, H[eX V 96]? = some cell ∧ cell.vm.isStatics = false ∧ s.vm.findClass RX3 = some cell.cls :=
  va_recv hC.1 h.1 (ci := 7) (q0 := 96) rfl (app_l (cF_at V S (i := 0) (by decide)))
/-- thrown, and caught by the handler x behind the handlers pre -/
theorem kc_catch {hh pre suf : List (Nat × Nat × Nat × Nat)} {x : Nat × Nat × Nat × Nat} {E : String} {ce : Cell} {q9 : Addr} (G : CallFix p m c cc nL s args LW RL) (hC : cSt V s) (htab : c.exceptionTable.toList = tableOf hh) (hs : hh = pre ++ x :: suf)
    (hpre : ∀ z ∈ pre, z.2.2.2 ≠ 0 ∧ ∃ nm : String, Cond.classLink RL z.2.2.2 nm ∈ LW ∧ nm ∈ kEx ∧ E ≠ nm) (hE : E ∈ kEx) (hx : covers ⟨x.1, x.2.1, x.2.2.1, x.2.2.2⟩ pc = true) (h0 : x.2.2.2 ≠ 0) (hl : Cond.classLink RL x.2.2.2 E ∈ LW)
    (hce : H[q9]? = some ce) (hcv : ce.vm = .none) (hcl : s.vm.findClass E = some ce.cls)
    (kk : W p l e R s m args below meth c H locs cells slots Q (F0 m x.2.2.1 ls [.ref q9])) : vx_W p l e R s m args below meth c H locs cells slots Q (F0 m pc ls rest) q9 := by
  refine vx_catch (own := RL) (name := E) (E := E) G.2.2.2.1 (tableOf pre) ⟨x.1, x.2.1, x.2.2.1, x.2.2.2⟩ (tableOf suf) (by rw [htab, hs]; unfold tableOf; rw [List.map_append]; rfl) (fun z hz => ?_) hx h0 (G.2.2.2.2 _ hl) (va_Nw.use rfl (hC.2.2.2.2.2.2.2.1 _ hE)) hce hcv hcl kk
  unfold tableOf at hz
  obtain ⟨w, hw, rfl⟩ := List.mem_map.mp hz
  obtain ⟨h1, nm, h2, h3, h4⟩ := hpre w hw
  exact Or.inr ⟨h1, nm, G.2.2.2.2 _ h2, hC.2.2.2.2.2.2.2.2 E hE nm h3 h4⟩
end LR
theorem kv_X3_addStory : kV yX3_addStory cX3_addStory 2 (some .int) 1 := ⟨mw_785, mw_786, mw_56, mw_787, by decide, by decide, by decide +kernel⟩
theorem kv_X3_reestimate : kV yX3_reestimate cX3_reestimate 3 (some .int) 2 := ⟨mw_843, mw_844, mw_56, mw_845, by decide, by decide, by decide +kernel⟩
theorem kv_X3_block : kV yX3_block cX3_block 3 (some .int) 2 := ⟨mw_881, mw_882, mw_56, mw_883, by decide, by decide, by decide +kernel⟩
theorem kv_X3_unblock : kV yX3_unblock cX3_unblock 3 (some .int) 2 := ⟨mw_923, mw_924, mw_56, mw_925, by decide, by decide, by decide +kernel⟩
theorem kv_X3_estimateOf : kV yX3_estimateOf cX3_estimateOf 2 (some .int) 1 := ⟨mw_938, mw_939, mw_56, mw_940, by decide, by decide, by decide +kernel⟩
theorem kv_X3_leftOf : kV yX3_leftOf cX3_leftOf 2 (some .int) 1 := ⟨mw_945, mw_946, mw_56, mw_947, by decide, by decide, by decide +kernel⟩
theorem kv_X3_workedOn : kV yX3_workedOn cX3_workedOn 2 (some .int) 1 := ⟨mw_952, mw_953, mw_56, mw_954, by decide, by decide, by decide +kernel⟩
theorem kv_X3_isDone : kV yX3_isDone cX3_isDone 2 (some .boolean) 1 := ⟨mw_959, mw_960, mw_56, mw_961, by decide, by decide, by decide +kernel⟩
theorem kv_X3_isBlocked : kV yX3_isBlocked cX3_isBlocked 2 (some .boolean) 1 := ⟨mw_966, mw_967, mw_56, mw_968, by decide, by decide, by decide +kernel⟩
theorem kv_X3_openBlockers : kV yX3_openBlockers cX3_openBlockers 2 (some .int) 1 := ⟨mw_977, mw_978, mw_56, mw_979, by decide, by decide, by decide +kernel⟩
theorem kv_X3_isBlocker : kV yX3_isBlocker cX3_isBlocker 3 (some .boolean) 2 := ⟨mw_984, mw_985, mw_56, mw_986, by decide, by decide, by decide +kernel⟩
theorem kv_X3_dependsOn : kV yX3_dependsOn cX3_dependsOn 3 (some .boolean) 2 := ⟨mw_991, mw_992, mw_56, mw_993, by decide, by decide, by decide +kernel⟩
theorem kv_X3_dependsOnByClosure : kV yX3_dependsOnByClosure cX3_dependsOnByClosure 3 (some .boolean) 2 := ⟨mw_998, mw_999, mw_56, mw_1000, by decide, by decide, by decide +kernel⟩
theorem kv_X3_longestChain : kV yX3_longestChain cX3_longestChain 2 (some .int) 1 := ⟨mw_1005, mw_1006, mw_56, mw_1007, by decide, by decide, by decide +kernel⟩
theorem kv_X3_storyInOrder : kV yX3_storyInOrder cX3_storyInOrder 3 (some .int) 1 := ⟨mw_1017, mw_1018, mw_56, mw_1019, by decide, by decide, by decide +kernel⟩
theorem kv_X3_addDeveloper : kV yX3_addDeveloper cX3_addDeveloper 2 (some .int) 1 := ⟨mw_1051, mw_1052, mw_56, mw_1053, by decide, by decide, by decide +kernel⟩
theorem kv_X3_assign : kV yX3_assign cX3_assign 3 (some .boolean) 2 := ⟨mw_1070, mw_1071, mw_56, mw_1072, by decide, by decide, by decide +kernel⟩
theorem kv_X3_unassign : kV yX3_unassign cX3_unassign 2 (some .int) 1 := ⟨mw_1094, mw_1095, mw_56, mw_1096, by decide, by decide, by decide +kernel⟩
theorem kv_X3_speedOf : kV yX3_speedOf cX3_speedOf 2 (some .int) 1 := ⟨mw_1109, mw_1110, mw_56, mw_1111, by decide, by decide, by decide +kernel⟩
theorem kv_X3_storyOf : kV yX3_storyOf cX3_storyOf 3 (some .int) 1 := ⟨mw_1116, mw_1117, mw_56, mw_1118, by decide, by decide, by decide +kernel⟩
theorem kv_X3_developerOf : kV yX3_developerOf cX3_developerOf 3 (some .int) 1 := ⟨mw_1123, mw_1124, mw_56, mw_1125, by decide, by decide, by decide +kernel⟩
theorem kv_X3_plan : kV yX3_plan cX3_plan 2 (some .int) 1 := ⟨mw_1131, mw_1132, mw_56, mw_1133, by decide, by decide, by decide +kernel⟩
theorem kv_X3_unplan : kV yX3_unplan cX3_unplan 2 (some .int) 1 := ⟨mw_1147, mw_1148, mw_56, mw_1149, by decide, by decide, by decide +kernel⟩
theorem kv_X3_startSprint : kV yX3_startSprint cX3_startSprint 2 (some .int) 1 := ⟨mw_1162, mw_1163, mw_56, mw_1164, by decide, by decide, by decide +kernel⟩
theorem kv_X3_passDay : kV yX3_passDay cX3_passDay 1 (some .int) 0 := ⟨mw_1182, mw_1183, mw_56, mw_1184, by decide, by decide, by decide +kernel⟩
theorem kv_X3_endSprint : kV yX3_endSprint cX3_endSprint 1 (some .int) 0 := ⟨mw_1198, mw_1199, mw_56, mw_1200, by decide, by decide, by decide +kernel⟩
theorem kv_X3_daysPassed : kV yX3_daysPassed cX3_daysPassed 1 (some .int) 0 := ⟨mw_1213, mw_1214, mw_56, mw_1215, by decide, by decide, by decide +kernel⟩
theorem kv_X3_isPlanned : kV yX3_isPlanned cX3_isPlanned 2 (some .boolean) 1 := ⟨mw_1220, mw_1221, mw_56, mw_1222, by decide, by decide, by decide +kernel⟩
theorem kv_X3_scopeChange : kV yX3_scopeChange cX3_scopeChange 1 (some .int) 0 := ⟨mw_1228, mw_1229, mw_56, mw_1230, by decide, by decide, by decide +kernel⟩
theorem kv_X3_burnDown : kV yX3_burnDown cX3_burnDown 2 (some .int) 1 := ⟨mw_1235, mw_1236, mw_56, mw_1237, by decide, by decide, by decide +kernel⟩
theorem kv_X3_idealBurnDown : kV yX3_idealBurnDown cX3_idealBurnDown 2 (some .float) 1 := ⟨mw_1242, mw_1243, mw_56, mw_1244, by decide, by decide, by decide +kernel⟩
theorem kv_X3_velocityOf : kV yX3_velocityOf cX3_velocityOf 2 (some .int) 1 := ⟨mw_1253, mw_1254, mw_56, mw_1255, by decide, by decide, by decide +kernel⟩
theorem kv_X3_meanVelocity : kV yX3_meanVelocity cX3_meanVelocity 1 (some .double) 0 := ⟨mw_1278, mw_1279, mw_56, mw_1280, by decide, by decide, by decide +kernel⟩
theorem kv_X3_finishDay : kV yX3_finishDay cX3_finishDay 3 (some .int) 1 := ⟨mw_1292, mw_1293, mw_56, mw_1294, by decide, by decide, by decide +kernel⟩
theorem kv_X3_finishDayByRecursion : kV yX3_finishDayByRecursion cX3_finishDayByRecursion 3 (some .int) 1 := ⟨mw_1299, mw_1300, mw_56, mw_1301, by decide, by decide, by decide +kernel⟩
theorem kv_X3_writeStory : kV yX3_writeStory cX3_writeStory 3 (some .int) 1 := ⟨mw_1306, mw_1307, mw_56, mw_1308, by decide, by decide, by decide +kernel⟩
theorem kv_X3_lineAt : kV yX3_lineAt cX3_lineAt 2 (some .char) 1 := ⟨mw_1313, mw_1314, mw_56, mw_1315, by decide, by decide, by decide +kernel⟩
theorem kv_X3_type : kV yX3_type cX3_type 2 (some .int) 1 := ⟨mw_1330, mw_1331, mw_56, mw_1332, by decide, by decide, by decide +kernel⟩
theorem kv_X3_execute : kV yX3_execute cX3_execute 3 (some .int) 0 := ⟨mw_1347, mw_1348, mw_56, mw_1349, by decide, by decide, by decide +kernel⟩
theorem kv_X3_errorPosition : kV yX3_errorPosition cX3_errorPosition 1 (some .int) 0 := ⟨mw_1434, mw_1435, mw_56, mw_1436, by decide, by decide, by decide +kernel⟩
theorem kv_X3_failedCommand : kV yX3_failedCommand cX3_failedCommand 1 (some .int) 0 := ⟨mw_1441, mw_1442, mw_56, mw_1443, by decide, by decide, by decide +kernel⟩
theorem kv_X3_undo : kV yX3_undo cX3_undo 1 (some .int) 0 := ⟨mw_1448, mw_1449, mw_56, mw_1450, by decide, by decide, by decide +kernel⟩
theorem kv_X3_restore : kV yX3_restore cX3_restore 1 (some .int) 0 := ⟨mw_1459, mw_1460, mw_56, mw_1461, by decide, by decide, by decide +kernel⟩
set_option maxHeartbeats 4000000 in
set_option maxRecDepth 100000 in
theorem met_L_addStory (l : Launch) (V : kEnv) (hV : kOk V) (S0 : kCs) (O : Nat → Int64) {post : Int32 → kCs → Prop} {px : String → kCs → Prop} (x : Int32) (hM : ∀ ws n, kX l yX3_addStory cX3_addStory 2 (some .int) { frames := 8, cells := 6, slots := 36, locals := 131 } (frV V ws n) (cWs V) (.ref (eX V 96) :: [.int x]) S0 post px 6 36) (hE : ∀ E u, px E u → E = "java/lang/IllegalArgumentException" ∨ E = "java/lang/IllegalStateException") : kW l yL_addStory cL_addStory 4 [(0, 9, 12, 13), (0, 9, 15, 15)] { frames := 9, cells := 6, slots := 36, locals := 152 } V (lwF V) [.ref (eX V 96), .int x, .ref (eX V 600)] (S0, O) (fun k u => (k = nI 0 ∧ ∃ r, post r u.1 ∧ u.2 = vp_updL O 0 r.toInt64) ∨ (k = nI 1 ∧ px "java/lang/IllegalArgumentException" u.1) ∨ (k = nI 2 ∧ px "java/lang/IllegalStateException" u.1)) 6 36 := by
  refine kW_of (by decide +kernel) (Nat.le_of_ble_eq_true rfl) ?_
  intro p e s m args below meth c G hret hlocks htab hC hB h ls hl Q hQ
  have hl : lv_has ls 4 [(0, .ref (eX V 96)), (1, .int x), (2, .ref (eX V 600))] := hl
  have hx := G.1
  have hcd := G.2.1
  refine lv_aload_n hx hcd dL_addStory_0 rfl (lv_at hl 2 rfl) ?_
  refine lv_iconst (v := nI 0) hx hcd dL_addStory_1 (by decide) ?_
  refine lv_aload_n hx hcd dL_addStory_2 rfl (lv_at hl 0 rfl) ?_
  refine lv_iload_n hx hcd dL_addStory_3 rfl (lv_at hl 1 rfl) ?_
  refine fx_Vi (F := cWs V) (u0 := S0) (o9 := oC V O) (As := [.int x]) (rest := [.int (nI 0), .ref (eX V 600)]) (b := eX V 96) G hC hB hV h (hM _ _) mw_784 kv_X3_addStory ⟨rfl, rfl⟩ ⟨Nat.le_of_ble_eq_true rfl, Nat.le_of_ble_eq_true rfl⟩ (r_sVf hC h) rfl rfl hl.1 (Nat.le_of_ble_eq_true rfl) dL_addStory_4 ⟨Nat.le_of_ble_eq_true rfl, Nat.le_of_ble_eq_true rfl⟩ (fun E ce q9 u H locs hp9 h hce hcv hcl => ?_) (fun r u H locs hp h => ?_)
  · have h : cH V s H locs (lwF V (u, O)) := h
    rcases hE E u hp9 with rfl | rfl
    · refine kc_catch (pre := []) (suf := [(0, 9, 15, 15)]) (x := (0, 9, 12, 13)) G hC htab rfl (fun z hz => absurd hz List.not_mem_nil) (by decide) (by decide) (by decide) mw_782 hce hcv hcl ?_
      refine lv_astore_n (lv' := [(3, .ref q9), (0, .ref (eX V 96)), (1, .int x), (2, .ref (eX V 600))]) hx hcd dL_addStory_12 rfl hl (by decide) rfl (fun ls hl => ?_)
      refine lv_iconst (v := nI 1) hx hcd dL_addStory_13 (by decide) ?_
      exact k_reti hQ G hret hlocks h (Or.inr (Or.inl ⟨rfl, hp9⟩)) (Nat.le_of_ble_eq_true rfl) (Nat.le_of_ble_eq_true rfl) dL_addStory_14
    · refine kc_catch (pre := [(0, 9, 12, 13)]) (suf := []) (x := (0, 9, 15, 15)) G hC htab rfl (fun z hz => by simp only [List.mem_cons, List.not_mem_nil, or_false] at hz; rcases hz with rfl; exact ⟨by decide, _, mw_782, by decide, by decide⟩) (by decide) (by decide) (by decide) mw_783 hce hcv hcl ?_
      refine lv_astore_n (lv' := [(3, .ref q9), (0, .ref (eX V 96)), (1, .int x), (2, .ref (eX V 600))]) hx hcd dL_addStory_15 rfl hl (by decide) rfl (fun ls hl => ?_)
      refine lv_iconst (v := nI 2) hx hcd dL_addStory_16 (by decide) ?_
      exact k_reti hQ G hret hlocks h (Or.inr (Or.inr ⟨rfl, hp9⟩)) (Nat.le_of_ble_eq_true rfl) (Nat.le_of_ble_eq_true rfl) dL_addStory_17
  · have h : cH V s H locs (lwF V (u, O)) := h
    refine lv_i2l (v := r.toInt64) hx hcd dL_addStory_7 rfl ?_
    refine r_lS G hC h (r.toInt64) dL_addStory_8 (fun H locs h => ?_)
    refine lv_goto (tgt := 18) hx hcd dL_addStory_9 (by decide) ?_
    refine lv_iconst (v := nI 0) hx hcd dL_addStory_18 (by decide) ?_
    exact k_reti hQ G hret hlocks h (Or.inl ⟨rfl, r, hp, rfl⟩) (Nat.le_of_ble_eq_true rfl) (Nat.le_of_ble_eq_true rfl) dL_addStory_19
set_option maxHeartbeats 4000000 in
set_option maxRecDepth 100000 in
theorem met_L_reestimate (l : Launch) (V : kEnv) (hV : kOk V) (S0 : kCs) (O : Nat → Int64) {post : Int32 → kCs → Prop} {px : String → kCs → Prop} (x y : Int32) (hM : ∀ ws n, kX l yX3_reestimate cX3_reestimate 3 (some .int) { frames := 8, cells := 6, slots := 36, locals := 131 } (frV V ws n) (cWs V) (.ref (eX V 96) :: [.int x, .int y]) S0 post px 6 36) (hE : ∀ E u, px E u → E = "java/lang/IndexOutOfBoundsException" ∨ E = "java/lang/IllegalArgumentException" ∨ E = "java/lang/IllegalStateException") : kW l yL_reestimate cL_reestimate 5 [(0, 10, 13, 21), (0, 10, 17, 13), (0, 10, 21, 15)] { frames := 9, cells := 6, slots := 36, locals := 153 } V (lwF V) [.ref (eX V 96), .int x, .int y, .ref (eX V 600)] (S0, O) (fun k u => (k = nI 0 ∧ ∃ r, post r u.1 ∧ u.2 = vp_updL O 0 r.toInt64) ∨ (k = nI 1 ∧ px "java/lang/IndexOutOfBoundsException" u.1) ∨ (k = nI 2 ∧ px "java/lang/IllegalArgumentException" u.1) ∨ (k = nI 3 ∧ px "java/lang/IllegalStateException" u.1)) 6 36 := by
  refine kW_of (by decide +kernel) (Nat.le_of_ble_eq_true rfl) ?_
  intro p e s m args below meth c G hret hlocks htab hC hB h ls hl Q hQ
  have hl : lv_has ls 5 [(0, .ref (eX V 96)), (1, .int x), (2, .int y), (3, .ref (eX V 600))] := hl
  have hx := G.1
  have hcd := G.2.1
  refine lv_aload_n hx hcd dL_reestimate_0 rfl (lv_at hl 3 rfl) ?_
  refine lv_iconst (v := nI 0) hx hcd dL_reestimate_1 (by decide) ?_
  refine lv_aload_n hx hcd dL_reestimate_2 rfl (lv_at hl 0 rfl) ?_
  refine lv_iload_n hx hcd dL_reestimate_3 rfl (lv_at hl 1 rfl) ?_
  refine lv_iload_n hx hcd dL_reestimate_4 rfl (lv_at hl 2 rfl) ?_
  refine fx_Vi (F := cWs V) (u0 := S0) (o9 := oC V O) (As := [.int x, .int y]) (rest := [.int (nI 0), .ref (eX V 600)]) (b := eX V 96) G hC hB hV h (hM _ _) mw_842 kv_X3_reestimate ⟨rfl, rfl⟩ ⟨Nat.le_of_ble_eq_true rfl, Nat.le_of_ble_eq_true rfl⟩ (r_sVf hC h) rfl rfl hl.1 (Nat.le_of_ble_eq_true rfl) dL_reestimate_5 ⟨Nat.le_of_ble_eq_true rfl, Nat.le_of_ble_eq_true rfl⟩ (fun E ce q9 u H locs hp9 h hce hcv hcl => ?_) (fun r u H locs hp h => ?_)
  · have h : cH V s H locs (lwF V (u, O)) := h
    rcases hE E u hp9 with rfl | rfl | rfl
    · refine kc_catch (pre := []) (suf := [(0, 10, 17, 13), (0, 10, 21, 15)]) (x := (0, 10, 13, 21)) G hC htab rfl (fun z hz => absurd hz List.not_mem_nil) (by decide) (by decide) (by decide) mw_839 hce hcv hcl ?_
      refine lv_astore (lv' := [(4, .ref q9), (0, .ref (eX V 96)), (1, .int x), (2, .int y), (3, .ref (eX V 600))]) hx hcd dL_reestimate_13 hl (by decide) rfl (fun ls hl => ?_)
      refine lv_iconst (v := nI 1) hx hcd dL_reestimate_15 (by decide) ?_
      exact k_reti hQ G hret hlocks h (Or.inr (Or.inl ⟨rfl, hp9⟩)) (Nat.le_of_ble_eq_true rfl) (Nat.le_of_ble_eq_true rfl) dL_reestimate_16
    · refine kc_catch (pre := [(0, 10, 13, 21)]) (suf := [(0, 10, 21, 15)]) (x := (0, 10, 17, 13)) G hC htab rfl (fun z hz => by simp only [List.mem_cons, List.not_mem_nil, or_false] at hz; rcases hz with rfl; exact ⟨by decide, _, mw_839, by decide, by decide⟩) (by decide) (by decide) (by decide) mw_782 hce hcv hcl ?_
      refine lv_astore (lv' := [(4, .ref q9), (0, .ref (eX V 96)), (1, .int x), (2, .int y), (3, .ref (eX V 600))]) hx hcd dL_reestimate_17 hl (by decide) rfl (fun ls hl => ?_)
      refine lv_iconst (v := nI 2) hx hcd dL_reestimate_19 (by decide) ?_
      exact k_reti hQ G hret hlocks h (Or.inr (Or.inr (Or.inl ⟨rfl, hp9⟩))) (Nat.le_of_ble_eq_true rfl) (Nat.le_of_ble_eq_true rfl) dL_reestimate_20
    · refine kc_catch (pre := [(0, 10, 13, 21), (0, 10, 17, 13)]) (suf := []) (x := (0, 10, 21, 15)) G hC htab rfl (fun z hz => by simp only [List.mem_cons, List.not_mem_nil, or_false] at hz; rcases hz with rfl | rfl; exact ⟨by decide, _, mw_839, by decide, by decide⟩; exact ⟨by decide, _, mw_782, by decide, by decide⟩) (by decide) (by decide) (by decide) mw_783 hce hcv hcl ?_
      refine lv_astore (lv' := [(4, .ref q9), (0, .ref (eX V 96)), (1, .int x), (2, .int y), (3, .ref (eX V 600))]) hx hcd dL_reestimate_21 hl (by decide) rfl (fun ls hl => ?_)
      refine lv_iconst (v := nI 3) hx hcd dL_reestimate_23 (by decide) ?_
      exact k_reti hQ G hret hlocks h (Or.inr (Or.inr (Or.inr ⟨rfl, hp9⟩))) (Nat.le_of_ble_eq_true rfl) (Nat.le_of_ble_eq_true rfl) dL_reestimate_24
  · have h : cH V s H locs (lwF V (u, O)) := h
    refine lv_i2l (v := r.toInt64) hx hcd dL_reestimate_8 rfl ?_
    refine r_lS G hC h (r.toInt64) dL_reestimate_9 (fun H locs h => ?_)
    refine lv_goto (tgt := 25) hx hcd dL_reestimate_10 (by decide) ?_
    refine lv_iconst (v := nI 0) hx hcd dL_reestimate_25 (by decide) ?_
    exact k_reti hQ G hret hlocks h (Or.inl ⟨rfl, r, hp, rfl⟩) (Nat.le_of_ble_eq_true rfl) (Nat.le_of_ble_eq_true rfl) dL_reestimate_26
set_option maxHeartbeats 4000000 in
set_option maxRecDepth 100000 in
theorem met_L_block (l : Launch) (V : kEnv) (hV : kOk V) (S0 : kCs) (O : Nat → Int64) {post : Int32 → kCs → Prop} {px : String → kCs → Prop} (x y : Int32) (hM : ∀ ws n, kX l yX3_block cX3_block 3 (some .int) { frames := 8, cells := 6, slots := 36, locals := 131 } (frV V ws n) (cWs V) (.ref (eX V 96) :: [.int x, .int y]) S0 post px 6 36) (hE : ∀ E u, px E u → E = "java/lang/IndexOutOfBoundsException" ∨ E = "java/lang/IllegalArgumentException" ∨ E = "java/lang/IllegalStateException" ∨ E = "java/lang/UnsupportedOperationException") : kW l yL_block cL_block 5 [(0, 10, 13, 21), (0, 10, 17, 13), (0, 10, 21, 15), (0, 10, 25, 26)] { frames := 9, cells := 6, slots := 36, locals := 153 } V (lwF V) [.ref (eX V 96), .int x, .int y, .ref (eX V 600)] (S0, O) (fun k u => (k = nI 0 ∧ ∃ r, post r u.1 ∧ u.2 = vp_updL O 0 r.toInt64) ∨ (k = nI 1 ∧ px "java/lang/IndexOutOfBoundsException" u.1) ∨ (k = nI 2 ∧ px "java/lang/IllegalArgumentException" u.1) ∨ (k = nI 3 ∧ px "java/lang/IllegalStateException" u.1) ∨ (k = nI 4 ∧ px "java/lang/UnsupportedOperationException" u.1)) 6 36 := by
  refine kW_of (by decide +kernel) (Nat.le_of_ble_eq_true rfl) ?_
  intro p e s m args below meth c G hret hlocks htab hC hB h ls hl Q hQ
  have hl : lv_has ls 5 [(0, .ref (eX V 96)), (1, .int x), (2, .int y), (3, .ref (eX V 600))] := hl
  have hx := G.1
  have hcd := G.2.1
  refine lv_aload_n hx hcd dL_block_0 rfl (lv_at hl 3 rfl) ?_
  refine lv_iconst (v := nI 0) hx hcd dL_block_1 (by decide) ?_
  refine lv_aload_n hx hcd dL_block_2 rfl (lv_at hl 0 rfl) ?_
  refine lv_iload_n hx hcd dL_block_3 rfl (lv_at hl 1 rfl) ?_
  refine lv_iload_n hx hcd dL_block_4 rfl (lv_at hl 2 rfl) ?_
  refine fx_Vi (F := cWs V) (u0 := S0) (o9 := oC V O) (As := [.int x, .int y]) (rest := [.int (nI 0), .ref (eX V 600)]) (b := eX V 96) G hC hB hV h (hM _ _) mw_880 kv_X3_block ⟨rfl, rfl⟩ ⟨Nat.le_of_ble_eq_true rfl, Nat.le_of_ble_eq_true rfl⟩ (r_sVf hC h) rfl rfl hl.1 (Nat.le_of_ble_eq_true rfl) dL_block_5 ⟨Nat.le_of_ble_eq_true rfl, Nat.le_of_ble_eq_true rfl⟩ (fun E ce q9 u H locs hp9 h hce hcv hcl => ?_) (fun r u H locs hp h => ?_)
  · have h : cH V s H locs (lwF V (u, O)) := h
    rcases hE E u hp9 with rfl | rfl | rfl | rfl
    · refine kc_catch (pre := []) (suf := [(0, 10, 17, 13), (0, 10, 21, 15), (0, 10, 25, 26)]) (x := (0, 10, 13, 21)) G hC htab rfl (fun z hz => absurd hz List.not_mem_nil) (by decide) (by decide) (by decide) mw_839 hce hcv hcl ?_
      refine lv_astore (lv' := [(4, .ref q9), (0, .ref (eX V 96)), (1, .int x), (2, .int y), (3, .ref (eX V 600))]) hx hcd dL_block_13 hl (by decide) rfl (fun ls hl => ?_)
      refine lv_iconst (v := nI 1) hx hcd dL_block_15 (by decide) ?_
      exact k_reti hQ G hret hlocks h (Or.inr (Or.inl ⟨rfl, hp9⟩)) (Nat.le_of_ble_eq_true rfl) (Nat.le_of_ble_eq_true rfl) dL_block_16
    · refine kc_catch (pre := [(0, 10, 13, 21)]) (suf := [(0, 10, 21, 15), (0, 10, 25, 26)]) (x := (0, 10, 17, 13)) G hC htab rfl (fun z hz => by simp only [List.mem_cons, List.not_mem_nil, or_false] at hz; rcases hz with rfl; exact ⟨by decide, _, mw_839, by decide, by decide⟩) (by decide) (by decide) (by decide) mw_782 hce hcv hcl ?_
      refine lv_astore (lv' := [(4, .ref q9), (0, .ref (eX V 96)), (1, .int x), (2, .int y), (3, .ref (eX V 600))]) hx hcd dL_block_17 hl (by decide) rfl (fun ls hl => ?_)
      refine lv_iconst (v := nI 2) hx hcd dL_block_19 (by decide) ?_
      exact k_reti hQ G hret hlocks h (Or.inr (Or.inr (Or.inl ⟨rfl, hp9⟩))) (Nat.le_of_ble_eq_true rfl) (Nat.le_of_ble_eq_true rfl) dL_block_20
    · refine kc_catch (pre := [(0, 10, 13, 21), (0, 10, 17, 13)]) (suf := [(0, 10, 25, 26)]) (x := (0, 10, 21, 15)) G hC htab rfl (fun z hz => by simp only [List.mem_cons, List.not_mem_nil, or_false] at hz; rcases hz with rfl | rfl; exact ⟨by decide, _, mw_839, by decide, by decide⟩; exact ⟨by decide, _, mw_782, by decide, by decide⟩) (by decide) (by decide) (by decide) mw_783 hce hcv hcl ?_
      refine lv_astore (lv' := [(4, .ref q9), (0, .ref (eX V 96)), (1, .int x), (2, .int y), (3, .ref (eX V 600))]) hx hcd dL_block_21 hl (by decide) rfl (fun ls hl => ?_)
      refine lv_iconst (v := nI 3) hx hcd dL_block_23 (by decide) ?_
      exact k_reti hQ G hret hlocks h (Or.inr (Or.inr (Or.inr (Or.inl ⟨rfl, hp9⟩)))) (Nat.le_of_ble_eq_true rfl) (Nat.le_of_ble_eq_true rfl) dL_block_24
    · refine kc_catch (pre := [(0, 10, 13, 21), (0, 10, 17, 13), (0, 10, 21, 15)]) (suf := []) (x := (0, 10, 25, 26)) G hC htab rfl (fun z hz => by simp only [List.mem_cons, List.not_mem_nil, or_false] at hz; rcases hz with rfl | rfl | rfl; exact ⟨by decide, _, mw_839, by decide, by decide⟩; exact ⟨by decide, _, mw_782, by decide, by decide⟩; exact ⟨by decide, _, mw_783, by decide, by decide⟩) (by decide) (by decide) (by decide) mw_879 hce hcv hcl ?_
      refine lv_astore (lv' := [(4, .ref q9), (0, .ref (eX V 96)), (1, .int x), (2, .int y), (3, .ref (eX V 600))]) hx hcd dL_block_25 hl (by decide) rfl (fun ls hl => ?_)
      refine lv_iconst (v := nI 4) hx hcd dL_block_27 (by decide) ?_
      exact k_reti hQ G hret hlocks h (Or.inr (Or.inr (Or.inr (Or.inr ⟨rfl, hp9⟩)))) (Nat.le_of_ble_eq_true rfl) (Nat.le_of_ble_eq_true rfl) dL_block_28
  · have h : cH V s H locs (lwF V (u, O)) := h
    refine lv_i2l (v := r.toInt64) hx hcd dL_block_8 rfl ?_
    refine r_lS G hC h (r.toInt64) dL_block_9 (fun H locs h => ?_)
    refine lv_goto (tgt := 29) hx hcd dL_block_10 (by decide) ?_
    refine lv_iconst (v := nI 0) hx hcd dL_block_29 (by decide) ?_
    exact k_reti hQ G hret hlocks h (Or.inl ⟨rfl, r, hp, rfl⟩) (Nat.le_of_ble_eq_true rfl) (Nat.le_of_ble_eq_true rfl) dL_block_30
set_option maxHeartbeats 4000000 in
set_option maxRecDepth 100000 in
theorem met_L_unblock (l : Launch) (V : kEnv) (hV : kOk V) (S0 : kCs) (O : Nat → Int64) {post : Int32 → kCs → Prop} {px : String → kCs → Prop} (x y : Int32) (hM : ∀ ws n, kX l yX3_unblock cX3_unblock 3 (some .int) { frames := 8, cells := 6, slots := 36, locals := 131 } (frV V ws n) (cWs V) (.ref (eX V 96) :: [.int x, .int y]) S0 post px 6 36) (hE : ∀ E u, px E u → E = "java/lang/IndexOutOfBoundsException" ∨ E = "java/lang/IllegalStateException") : kW l yL_unblock cL_unblock 5 [(0, 10, 13, 21), (0, 10, 17, 15)] { frames := 9, cells := 6, slots := 36, locals := 153 } V (lwF V) [.ref (eX V 96), .int x, .int y, .ref (eX V 600)] (S0, O) (fun k u => (k = nI 0 ∧ ∃ r, post r u.1 ∧ u.2 = vp_updL O 0 r.toInt64) ∨ (k = nI 1 ∧ px "java/lang/IndexOutOfBoundsException" u.1) ∨ (k = nI 2 ∧ px "java/lang/IllegalStateException" u.1)) 6 36 := by
  refine kW_of (by decide +kernel) (Nat.le_of_ble_eq_true rfl) ?_
  intro p e s m args below meth c G hret hlocks htab hC hB h ls hl Q hQ
  have hl : lv_has ls 5 [(0, .ref (eX V 96)), (1, .int x), (2, .int y), (3, .ref (eX V 600))] := hl
  have hx := G.1
  have hcd := G.2.1
  refine lv_aload_n hx hcd dL_unblock_0 rfl (lv_at hl 3 rfl) ?_
  refine lv_iconst (v := nI 0) hx hcd dL_unblock_1 (by decide) ?_
  refine lv_aload_n hx hcd dL_unblock_2 rfl (lv_at hl 0 rfl) ?_
  refine lv_iload_n hx hcd dL_unblock_3 rfl (lv_at hl 1 rfl) ?_
  refine lv_iload_n hx hcd dL_unblock_4 rfl (lv_at hl 2 rfl) ?_
  refine fx_Vi (F := cWs V) (u0 := S0) (o9 := oC V O) (As := [.int x, .int y]) (rest := [.int (nI 0), .ref (eX V 600)]) (b := eX V 96) G hC hB hV h (hM _ _) mw_922 kv_X3_unblock ⟨rfl, rfl⟩ ⟨Nat.le_of_ble_eq_true rfl, Nat.le_of_ble_eq_true rfl⟩ (r_sVf hC h) rfl rfl hl.1 (Nat.le_of_ble_eq_true rfl) dL_unblock_5 ⟨Nat.le_of_ble_eq_true rfl, Nat.le_of_ble_eq_true rfl⟩ (fun E ce q9 u H locs hp9 h hce hcv hcl => ?_) (fun r u H locs hp h => ?_)
  · have h : cH V s H locs (lwF V (u, O)) := h
    rcases hE E u hp9 with rfl | rfl
    · refine kc_catch (pre := []) (suf := [(0, 10, 17, 15)]) (x := (0, 10, 13, 21)) G hC htab rfl (fun z hz => absurd hz List.not_mem_nil) (by decide) (by decide) (by decide) mw_839 hce hcv hcl ?_
      refine lv_astore (lv' := [(4, .ref q9), (0, .ref (eX V 96)), (1, .int x), (2, .int y), (3, .ref (eX V 600))]) hx hcd dL_unblock_13 hl (by decide) rfl (fun ls hl => ?_)
      refine lv_iconst (v := nI 1) hx hcd dL_unblock_15 (by decide) ?_
      exact k_reti hQ G hret hlocks h (Or.inr (Or.inl ⟨rfl, hp9⟩)) (Nat.le_of_ble_eq_true rfl) (Nat.le_of_ble_eq_true rfl) dL_unblock_16
    · refine kc_catch (pre := [(0, 10, 13, 21)]) (suf := []) (x := (0, 10, 17, 15)) G hC htab rfl (fun z hz => by simp only [List.mem_cons, List.not_mem_nil, or_false] at hz; rcases hz with rfl; exact ⟨by decide, _, mw_839, by decide, by decide⟩) (by decide) (by decide) (by decide) mw_783 hce hcv hcl ?_
      refine lv_astore (lv' := [(4, .ref q9), (0, .ref (eX V 96)), (1, .int x), (2, .int y), (3, .ref (eX V 600))]) hx hcd dL_unblock_17 hl (by decide) rfl (fun ls hl => ?_)
      refine lv_iconst (v := nI 2) hx hcd dL_unblock_19 (by decide) ?_
      exact k_reti hQ G hret hlocks h (Or.inr (Or.inr ⟨rfl, hp9⟩)) (Nat.le_of_ble_eq_true rfl) (Nat.le_of_ble_eq_true rfl) dL_unblock_20
  · have h : cH V s H locs (lwF V (u, O)) := h
    refine lv_i2l (v := r.toInt64) hx hcd dL_unblock_8 rfl ?_
    refine r_lS G hC h (r.toInt64) dL_unblock_9 (fun H locs h => ?_)
    refine lv_goto (tgt := 21) hx hcd dL_unblock_10 (by decide) ?_
    refine lv_iconst (v := nI 0) hx hcd dL_unblock_21 (by decide) ?_
    exact k_reti hQ G hret hlocks h (Or.inl ⟨rfl, r, hp, rfl⟩) (Nat.le_of_ble_eq_true rfl) (Nat.le_of_ble_eq_true rfl) dL_unblock_22
set_option maxHeartbeats 4000000 in
set_option maxRecDepth 100000 in
theorem met_L_estimateOf (l : Launch) (V : kEnv) (hV : kOk V) (S0 : kCs) (O : Nat → Int64) {post : Int32 → kCs → Prop} {px : String → kCs → Prop} (x : Int32) (hM : ∀ ws n, kX l yX3_estimateOf cX3_estimateOf 2 (some .int) { frames := 8, cells := 6, slots := 36, locals := 131 } (frV V ws n) (cWs V) (.ref (eX V 96) :: [.int x]) S0 post px 6 36) (hE : ∀ E u, px E u → E = "java/lang/IndexOutOfBoundsException") : kW l yL_estimateOf cL_estimateOf 4 [(0, 9, 12, 21)] { frames := 9, cells := 6, slots := 36, locals := 152 } V (lwF V) [.ref (eX V 96), .int x, .ref (eX V 600)] (S0, O) (fun k u => (k = nI 0 ∧ ∃ r, post r u.1 ∧ u.2 = vp_updL O 0 r.toInt64) ∨ (k = nI 1 ∧ px "java/lang/IndexOutOfBoundsException" u.1)) 6 36 := by
  refine kW_of (by decide +kernel) (Nat.le_of_ble_eq_true rfl) ?_
  intro p e s m args below meth c G hret hlocks htab hC hB h ls hl Q hQ
  have hl : lv_has ls 4 [(0, .ref (eX V 96)), (1, .int x), (2, .ref (eX V 600))] := hl
  have hx := G.1
  have hcd := G.2.1
  refine lv_aload_n hx hcd dL_estimateOf_0 rfl (lv_at hl 2 rfl) ?_
  refine lv_iconst (v := nI 0) hx hcd dL_estimateOf_1 (by decide) ?_
  refine lv_aload_n hx hcd dL_estimateOf_2 rfl (lv_at hl 0 rfl) ?_
  refine lv_iload_n hx hcd dL_estimateOf_3 rfl (lv_at hl 1 rfl) ?_
  refine fx_Vi (F := cWs V) (u0 := S0) (o9 := oC V O) (As := [.int x]) (rest := [.int (nI 0), .ref (eX V 600)]) (b := eX V 96) G hC hB hV h (hM _ _) mw_937 kv_X3_estimateOf ⟨rfl, rfl⟩ ⟨Nat.le_of_ble_eq_true rfl, Nat.le_of_ble_eq_true rfl⟩ (r_sVf hC h) rfl rfl hl.1 (Nat.le_of_ble_eq_true rfl) dL_estimateOf_4 ⟨Nat.le_of_ble_eq_true rfl, Nat.le_of_ble_eq_true rfl⟩ (fun E ce q9 u H locs hp9 h hce hcv hcl => ?_) (fun r u H locs hp h => ?_)
  · have h : cH V s H locs (lwF V (u, O)) := h
    rcases hE E u hp9 with rfl
    · refine kc_catch (pre := []) (suf := []) (x := (0, 9, 12, 21)) G hC htab rfl (fun z hz => absurd hz List.not_mem_nil) (by decide) (by decide) (by decide) mw_839 hce hcv hcl ?_
      refine lv_astore_n (lv' := [(3, .ref q9), (0, .ref (eX V 96)), (1, .int x), (2, .ref (eX V 600))]) hx hcd dL_estimateOf_12 rfl hl (by decide) rfl (fun ls hl => ?_)
      refine lv_iconst (v := nI 1) hx hcd dL_estimateOf_13 (by decide) ?_
      exact k_reti hQ G hret hlocks h (Or.inr ⟨rfl, hp9⟩) (Nat.le_of_ble_eq_true rfl) (Nat.le_of_ble_eq_true rfl) dL_estimateOf_14
  · have h : cH V s H locs (lwF V (u, O)) := h
    refine lv_i2l (v := r.toInt64) hx hcd dL_estimateOf_7 rfl ?_
    refine r_lS G hC h (r.toInt64) dL_estimateOf_8 (fun H locs h => ?_)
    refine lv_goto (tgt := 15) hx hcd dL_estimateOf_9 (by decide) ?_
    refine lv_iconst (v := nI 0) hx hcd dL_estimateOf_15 (by decide) ?_
    exact k_reti hQ G hret hlocks h (Or.inl ⟨rfl, r, hp, rfl⟩) (Nat.le_of_ble_eq_true rfl) (Nat.le_of_ble_eq_true rfl) dL_estimateOf_16
set_option maxHeartbeats 4000000 in
set_option maxRecDepth 100000 in
theorem met_L_leftOf (l : Launch) (V : kEnv) (hV : kOk V) (S0 : kCs) (O : Nat → Int64) {post : Int32 → kCs → Prop} {px : String → kCs → Prop} (x : Int32) (hM : ∀ ws n, kX l yX3_leftOf cX3_leftOf 2 (some .int) { frames := 8, cells := 6, slots := 36, locals := 131 } (frV V ws n) (cWs V) (.ref (eX V 96) :: [.int x]) S0 post px 6 36) (hE : ∀ E u, px E u → E = "java/lang/IndexOutOfBoundsException") : kW l yL_leftOf cL_leftOf 4 [(0, 9, 12, 21)] { frames := 9, cells := 6, slots := 36, locals := 152 } V (lwF V) [.ref (eX V 96), .int x, .ref (eX V 600)] (S0, O) (fun k u => (k = nI 0 ∧ ∃ r, post r u.1 ∧ u.2 = vp_updL O 0 r.toInt64) ∨ (k = nI 1 ∧ px "java/lang/IndexOutOfBoundsException" u.1)) 6 36 := by
  refine kW_of (by decide +kernel) (Nat.le_of_ble_eq_true rfl) ?_
  intro p e s m args below meth c G hret hlocks htab hC hB h ls hl Q hQ
  have hl : lv_has ls 4 [(0, .ref (eX V 96)), (1, .int x), (2, .ref (eX V 600))] := hl
  have hx := G.1
  have hcd := G.2.1
  refine lv_aload_n hx hcd dL_leftOf_0 rfl (lv_at hl 2 rfl) ?_
  refine lv_iconst (v := nI 0) hx hcd dL_leftOf_1 (by decide) ?_
  refine lv_aload_n hx hcd dL_leftOf_2 rfl (lv_at hl 0 rfl) ?_
  refine lv_iload_n hx hcd dL_leftOf_3 rfl (lv_at hl 1 rfl) ?_
  refine fx_Vi (F := cWs V) (u0 := S0) (o9 := oC V O) (As := [.int x]) (rest := [.int (nI 0), .ref (eX V 600)]) (b := eX V 96) G hC hB hV h (hM _ _) mw_944 kv_X3_leftOf ⟨rfl, rfl⟩ ⟨Nat.le_of_ble_eq_true rfl, Nat.le_of_ble_eq_true rfl⟩ (r_sVf hC h) rfl rfl hl.1 (Nat.le_of_ble_eq_true rfl) dL_leftOf_4 ⟨Nat.le_of_ble_eq_true rfl, Nat.le_of_ble_eq_true rfl⟩ (fun E ce q9 u H locs hp9 h hce hcv hcl => ?_) (fun r u H locs hp h => ?_)
  · have h : cH V s H locs (lwF V (u, O)) := h
    rcases hE E u hp9 with rfl
    · refine kc_catch (pre := []) (suf := []) (x := (0, 9, 12, 21)) G hC htab rfl (fun z hz => absurd hz List.not_mem_nil) (by decide) (by decide) (by decide) mw_839 hce hcv hcl ?_
      refine lv_astore_n (lv' := [(3, .ref q9), (0, .ref (eX V 96)), (1, .int x), (2, .ref (eX V 600))]) hx hcd dL_leftOf_12 rfl hl (by decide) rfl (fun ls hl => ?_)
      refine lv_iconst (v := nI 1) hx hcd dL_leftOf_13 (by decide) ?_
      exact k_reti hQ G hret hlocks h (Or.inr ⟨rfl, hp9⟩) (Nat.le_of_ble_eq_true rfl) (Nat.le_of_ble_eq_true rfl) dL_leftOf_14
  · have h : cH V s H locs (lwF V (u, O)) := h
    refine lv_i2l (v := r.toInt64) hx hcd dL_leftOf_7 rfl ?_
    refine r_lS G hC h (r.toInt64) dL_leftOf_8 (fun H locs h => ?_)
    refine lv_goto (tgt := 15) hx hcd dL_leftOf_9 (by decide) ?_
    refine lv_iconst (v := nI 0) hx hcd dL_leftOf_15 (by decide) ?_
    exact k_reti hQ G hret hlocks h (Or.inl ⟨rfl, r, hp, rfl⟩) (Nat.le_of_ble_eq_true rfl) (Nat.le_of_ble_eq_true rfl) dL_leftOf_16
set_option maxHeartbeats 4000000 in
set_option maxRecDepth 100000 in
theorem met_L_workedOn (l : Launch) (V : kEnv) (hV : kOk V) (S0 : kCs) (O : Nat → Int64) {post : Int32 → kCs → Prop} {px : String → kCs → Prop} (x : Int32) (hM : ∀ ws n, kX l yX3_workedOn cX3_workedOn 2 (some .int) { frames := 8, cells := 6, slots := 36, locals := 131 } (frV V ws n) (cWs V) (.ref (eX V 96) :: [.int x]) S0 post px 6 36) (hE : ∀ E u, px E u → E = "java/lang/IndexOutOfBoundsException") : kW l yL_workedOn cL_workedOn 4 [(0, 9, 12, 21)] { frames := 9, cells := 6, slots := 36, locals := 152 } V (lwF V) [.ref (eX V 96), .int x, .ref (eX V 600)] (S0, O) (fun k u => (k = nI 0 ∧ ∃ r, post r u.1 ∧ u.2 = vp_updL O 0 r.toInt64) ∨ (k = nI 1 ∧ px "java/lang/IndexOutOfBoundsException" u.1)) 6 36 := by
  refine kW_of (by decide +kernel) (Nat.le_of_ble_eq_true rfl) ?_
  intro p e s m args below meth c G hret hlocks htab hC hB h ls hl Q hQ
  have hl : lv_has ls 4 [(0, .ref (eX V 96)), (1, .int x), (2, .ref (eX V 600))] := hl
  have hx := G.1
  have hcd := G.2.1
  refine lv_aload_n hx hcd dL_workedOn_0 rfl (lv_at hl 2 rfl) ?_
  refine lv_iconst (v := nI 0) hx hcd dL_workedOn_1 (by decide) ?_
  refine lv_aload_n hx hcd dL_workedOn_2 rfl (lv_at hl 0 rfl) ?_
  refine lv_iload_n hx hcd dL_workedOn_3 rfl (lv_at hl 1 rfl) ?_
  refine fx_Vi (F := cWs V) (u0 := S0) (o9 := oC V O) (As := [.int x]) (rest := [.int (nI 0), .ref (eX V 600)]) (b := eX V 96) G hC hB hV h (hM _ _) mw_951 kv_X3_workedOn ⟨rfl, rfl⟩ ⟨Nat.le_of_ble_eq_true rfl, Nat.le_of_ble_eq_true rfl⟩ (r_sVf hC h) rfl rfl hl.1 (Nat.le_of_ble_eq_true rfl) dL_workedOn_4 ⟨Nat.le_of_ble_eq_true rfl, Nat.le_of_ble_eq_true rfl⟩ (fun E ce q9 u H locs hp9 h hce hcv hcl => ?_) (fun r u H locs hp h => ?_)
  · have h : cH V s H locs (lwF V (u, O)) := h
    rcases hE E u hp9 with rfl
    · refine kc_catch (pre := []) (suf := []) (x := (0, 9, 12, 21)) G hC htab rfl (fun z hz => absurd hz List.not_mem_nil) (by decide) (by decide) (by decide) mw_839 hce hcv hcl ?_
      refine lv_astore_n (lv' := [(3, .ref q9), (0, .ref (eX V 96)), (1, .int x), (2, .ref (eX V 600))]) hx hcd dL_workedOn_12 rfl hl (by decide) rfl (fun ls hl => ?_)
      refine lv_iconst (v := nI 1) hx hcd dL_workedOn_13 (by decide) ?_
      exact k_reti hQ G hret hlocks h (Or.inr ⟨rfl, hp9⟩) (Nat.le_of_ble_eq_true rfl) (Nat.le_of_ble_eq_true rfl) dL_workedOn_14
  · have h : cH V s H locs (lwF V (u, O)) := h
    refine lv_i2l (v := r.toInt64) hx hcd dL_workedOn_7 rfl ?_
    refine r_lS G hC h (r.toInt64) dL_workedOn_8 (fun H locs h => ?_)
    refine lv_goto (tgt := 15) hx hcd dL_workedOn_9 (by decide) ?_
    refine lv_iconst (v := nI 0) hx hcd dL_workedOn_15 (by decide) ?_
    exact k_reti hQ G hret hlocks h (Or.inl ⟨rfl, r, hp, rfl⟩) (Nat.le_of_ble_eq_true rfl) (Nat.le_of_ble_eq_true rfl) dL_workedOn_16
set_option maxHeartbeats 4000000 in
set_option maxRecDepth 100000 in
theorem met_L_isDone (l : Launch) (V : kEnv) (hV : kOk V) (S0 : kCs) (O : Nat → Int64) {post : Int32 → kCs → Prop} {px : String → kCs → Prop} (x : Int32) (hM : ∀ ws n, kX l yX3_isDone cX3_isDone 2 (some .boolean) { frames := 8, cells := 6, slots := 36, locals := 131 } (frV V ws n) (cWs V) (.ref (eX V 96) :: [.int x]) S0 post px 6 36) (hE : ∀ E u, px E u → E = "java/lang/IndexOutOfBoundsException") : kW l yL_isDone cL_isDone 4 [(0, 16, 19, 21)] { frames := 9, cells := 6, slots := 36, locals := 152 } V (lwF V) [.ref (eX V 96), .int x, .ref (eX V 600)] (S0, O) (fun k u => (k = nI 0 ∧ ∃ r, post r u.1 ∧ u.2 = vp_updL O 0 (if r = 0 then 0 else 1)) ∨ (k = nI 1 ∧ px "java/lang/IndexOutOfBoundsException" u.1)) 6 36 := by
  refine kW_of (by decide +kernel) (Nat.le_of_ble_eq_true rfl) ?_
  intro p e s m args below meth c G hret hlocks htab hC hB h ls hl Q hQ
  have hl : lv_has ls 4 [(0, .ref (eX V 96)), (1, .int x), (2, .ref (eX V 600))] := hl
  have hx := G.1
  have hcd := G.2.1
  refine lv_aload_n hx hcd dL_isDone_0 rfl (lv_at hl 2 rfl) ?_
  refine lv_iconst (v := nI 0) hx hcd dL_isDone_1 (by decide) ?_
  refine lv_aload_n hx hcd dL_isDone_2 rfl (lv_at hl 0 rfl) ?_
  refine lv_iload_n hx hcd dL_isDone_3 rfl (lv_at hl 1 rfl) ?_
  refine fx_Vi (F := cWs V) (u0 := S0) (o9 := oC V O) (As := [.int x]) (rest := [.int (nI 0), .ref (eX V 600)]) (b := eX V 96) G hC hB hV h (hM _ _) mw_958 kv_X3_isDone ⟨rfl, rfl⟩ ⟨Nat.le_of_ble_eq_true rfl, Nat.le_of_ble_eq_true rfl⟩ (r_sVf hC h) rfl rfl hl.1 (Nat.le_of_ble_eq_true rfl) dL_isDone_4 ⟨Nat.le_of_ble_eq_true rfl, Nat.le_of_ble_eq_true rfl⟩ (fun E ce q9 u H locs hp9 h hce hcv hcl => ?_) (fun r u H locs hp h => ?_)
  · have h : cH V s H locs (lwF V (u, O)) := h
    rcases hE E u hp9 with rfl
    · refine kc_catch (pre := []) (suf := []) (x := (0, 16, 19, 21)) G hC htab rfl (fun z hz => absurd hz List.not_mem_nil) (by decide) (by decide) (by decide) mw_839 hce hcv hcl ?_
      refine lv_astore_n (lv' := [(3, .ref q9), (0, .ref (eX V 96)), (1, .int x), (2, .ref (eX V 600))]) hx hcd dL_isDone_19 rfl hl (by decide) rfl (fun ls hl => ?_)
      refine lv_iconst (v := nI 1) hx hcd dL_isDone_20 (by decide) ?_
      exact k_reti hQ G hret hlocks h (Or.inr ⟨rfl, hp9⟩) (Nat.le_of_ble_eq_true rfl) (Nat.le_of_ble_eq_true rfl) dL_isDone_21
  · have h : cH V s H locs (lwF V (u, O)) := h
    refine lv_if_eq (tgt := 14) hx hcd dL_isDone_7 (by decide) (fun c1 => ?_) (fun c1 => ?_)
    · refine lv_lconst (v := 0) hx hcd dL_isDone_14 (by decide) ?_
      refine r_lS G hC h 0 dL_isDone_15 (fun H locs h => ?_)
      refine lv_goto (tgt := 22) hx hcd dL_isDone_16 (by decide) ?_
      refine lv_iconst (v := nI 0) hx hcd dL_isDone_22 (by decide) ?_
      exact k_reti hQ G hret hlocks h (Or.inl ⟨rfl, r, hp, by rw [if_pos c1]⟩) (Nat.le_of_ble_eq_true rfl) (Nat.le_of_ble_eq_true rfl) dL_isDone_23
    · refine lv_lconst (v := 1) hx hcd dL_isDone_10 (by decide) ?_
      refine lv_goto (tgt := 15) hx hcd dL_isDone_11 (by decide) ?_
      refine r_lS G hC h 1 dL_isDone_15 (fun H locs h => ?_)
      refine lv_goto (tgt := 22) hx hcd dL_isDone_16 (by decide) ?_
      refine lv_iconst (v := nI 0) hx hcd dL_isDone_22 (by decide) ?_
      exact k_reti hQ G hret hlocks h (Or.inl ⟨rfl, r, hp, by rw [if_neg c1]⟩) (Nat.le_of_ble_eq_true rfl) (Nat.le_of_ble_eq_true rfl) dL_isDone_23
set_option maxHeartbeats 4000000 in
set_option maxRecDepth 100000 in
theorem met_L_isBlocked (l : Launch) (V : kEnv) (hV : kOk V) (S0 : kCs) (O : Nat → Int64) {post : Int32 → kCs → Prop} {px : String → kCs → Prop} (x : Int32) (hM : ∀ ws n, kX l yX3_isBlocked cX3_isBlocked 2 (some .boolean) { frames := 8, cells := 6, slots := 36, locals := 131 } (frV V ws n) (cWs V) (.ref (eX V 96) :: [.int x]) S0 post px 6 36) (hE : ∀ E u, px E u → E = "java/lang/IndexOutOfBoundsException") : kW l yL_isBlocked cL_isBlocked 4 [(0, 16, 19, 21)] { frames := 9, cells := 6, slots := 36, locals := 152 } V (lwF V) [.ref (eX V 96), .int x, .ref (eX V 600)] (S0, O) (fun k u => (k = nI 0 ∧ ∃ r, post r u.1 ∧ u.2 = vp_updL O 0 (if r = 0 then 0 else 1)) ∨ (k = nI 1 ∧ px "java/lang/IndexOutOfBoundsException" u.1)) 6 36 := by
  refine kW_of (by decide +kernel) (Nat.le_of_ble_eq_true rfl) ?_
  intro p e s m args below meth c G hret hlocks htab hC hB h ls hl Q hQ
  have hl : lv_has ls 4 [(0, .ref (eX V 96)), (1, .int x), (2, .ref (eX V 600))] := hl
  have hx := G.1
  have hcd := G.2.1
  refine lv_aload_n hx hcd dL_isBlocked_0 rfl (lv_at hl 2 rfl) ?_
  refine lv_iconst (v := nI 0) hx hcd dL_isBlocked_1 (by decide) ?_
  refine lv_aload_n hx hcd dL_isBlocked_2 rfl (lv_at hl 0 rfl) ?_
  refine lv_iload_n hx hcd dL_isBlocked_3 rfl (lv_at hl 1 rfl) ?_
  refine fx_Vi (F := cWs V) (u0 := S0) (o9 := oC V O) (As := [.int x]) (rest := [.int (nI 0), .ref (eX V 600)]) (b := eX V 96) G hC hB hV h (hM _ _) mw_965 kv_X3_isBlocked ⟨rfl, rfl⟩ ⟨Nat.le_of_ble_eq_true rfl, Nat.le_of_ble_eq_true rfl⟩ (r_sVf hC h) rfl rfl hl.1 (Nat.le_of_ble_eq_true rfl) dL_isBlocked_4 ⟨Nat.le_of_ble_eq_true rfl, Nat.le_of_ble_eq_true rfl⟩ (fun E ce q9 u H locs hp9 h hce hcv hcl => ?_) (fun r u H locs hp h => ?_)
  · have h : cH V s H locs (lwF V (u, O)) := h
    rcases hE E u hp9 with rfl
    · refine kc_catch (pre := []) (suf := []) (x := (0, 16, 19, 21)) G hC htab rfl (fun z hz => absurd hz List.not_mem_nil) (by decide) (by decide) (by decide) mw_839 hce hcv hcl ?_
      refine lv_astore_n (lv' := [(3, .ref q9), (0, .ref (eX V 96)), (1, .int x), (2, .ref (eX V 600))]) hx hcd dL_isBlocked_19 rfl hl (by decide) rfl (fun ls hl => ?_)
      refine lv_iconst (v := nI 1) hx hcd dL_isBlocked_20 (by decide) ?_
      exact k_reti hQ G hret hlocks h (Or.inr ⟨rfl, hp9⟩) (Nat.le_of_ble_eq_true rfl) (Nat.le_of_ble_eq_true rfl) dL_isBlocked_21
  · have h : cH V s H locs (lwF V (u, O)) := h
    refine lv_if_eq (tgt := 14) hx hcd dL_isBlocked_7 (by decide) (fun c1 => ?_) (fun c1 => ?_)
    · refine lv_lconst (v := 0) hx hcd dL_isBlocked_14 (by decide) ?_
      refine r_lS G hC h 0 dL_isBlocked_15 (fun H locs h => ?_)
      refine lv_goto (tgt := 22) hx hcd dL_isBlocked_16 (by decide) ?_
      refine lv_iconst (v := nI 0) hx hcd dL_isBlocked_22 (by decide) ?_
      exact k_reti hQ G hret hlocks h (Or.inl ⟨rfl, r, hp, by rw [if_pos c1]⟩) (Nat.le_of_ble_eq_true rfl) (Nat.le_of_ble_eq_true rfl) dL_isBlocked_23
    · refine lv_lconst (v := 1) hx hcd dL_isBlocked_10 (by decide) ?_
      refine lv_goto (tgt := 15) hx hcd dL_isBlocked_11 (by decide) ?_
      refine r_lS G hC h 1 dL_isBlocked_15 (fun H locs h => ?_)
      refine lv_goto (tgt := 22) hx hcd dL_isBlocked_16 (by decide) ?_
      refine lv_iconst (v := nI 0) hx hcd dL_isBlocked_22 (by decide) ?_
      exact k_reti hQ G hret hlocks h (Or.inl ⟨rfl, r, hp, by rw [if_neg c1]⟩) (Nat.le_of_ble_eq_true rfl) (Nat.le_of_ble_eq_true rfl) dL_isBlocked_23
set_option maxHeartbeats 4000000 in
set_option maxRecDepth 100000 in
theorem met_L_openBlockers (l : Launch) (V : kEnv) (hV : kOk V) (S0 : kCs) (O : Nat → Int64) {post : Int32 → kCs → Prop} {px : String → kCs → Prop} (x : Int32) (hM : ∀ ws n, kX l yX3_openBlockers cX3_openBlockers 2 (some .int) { frames := 8, cells := 6, slots := 36, locals := 131 } (frV V ws n) (cWs V) (.ref (eX V 96) :: [.int x]) S0 post px 6 36) (hE : ∀ E u, px E u → E = "java/lang/IndexOutOfBoundsException") : kW l yL_openBlockers cL_openBlockers 4 [(0, 9, 12, 21)] { frames := 9, cells := 6, slots := 36, locals := 152 } V (lwF V) [.ref (eX V 96), .int x, .ref (eX V 600)] (S0, O) (fun k u => (k = nI 0 ∧ ∃ r, post r u.1 ∧ u.2 = vp_updL O 0 r.toInt64) ∨ (k = nI 1 ∧ px "java/lang/IndexOutOfBoundsException" u.1)) 6 36 := by
  refine kW_of (by decide +kernel) (Nat.le_of_ble_eq_true rfl) ?_
  intro p e s m args below meth c G hret hlocks htab hC hB h ls hl Q hQ
  have hl : lv_has ls 4 [(0, .ref (eX V 96)), (1, .int x), (2, .ref (eX V 600))] := hl
  have hx := G.1
  have hcd := G.2.1
  refine lv_aload_n hx hcd dL_openBlockers_0 rfl (lv_at hl 2 rfl) ?_
  refine lv_iconst (v := nI 0) hx hcd dL_openBlockers_1 (by decide) ?_
  refine lv_aload_n hx hcd dL_openBlockers_2 rfl (lv_at hl 0 rfl) ?_
  refine lv_iload_n hx hcd dL_openBlockers_3 rfl (lv_at hl 1 rfl) ?_
  refine fx_Vi (F := cWs V) (u0 := S0) (o9 := oC V O) (As := [.int x]) (rest := [.int (nI 0), .ref (eX V 600)]) (b := eX V 96) G hC hB hV h (hM _ _) mw_976 kv_X3_openBlockers ⟨rfl, rfl⟩ ⟨Nat.le_of_ble_eq_true rfl, Nat.le_of_ble_eq_true rfl⟩ (r_sVf hC h) rfl rfl hl.1 (Nat.le_of_ble_eq_true rfl) dL_openBlockers_4 ⟨Nat.le_of_ble_eq_true rfl, Nat.le_of_ble_eq_true rfl⟩ (fun E ce q9 u H locs hp9 h hce hcv hcl => ?_) (fun r u H locs hp h => ?_)
  · have h : cH V s H locs (lwF V (u, O)) := h
    rcases hE E u hp9 with rfl
    · refine kc_catch (pre := []) (suf := []) (x := (0, 9, 12, 21)) G hC htab rfl (fun z hz => absurd hz List.not_mem_nil) (by decide) (by decide) (by decide) mw_839 hce hcv hcl ?_
      refine lv_astore_n (lv' := [(3, .ref q9), (0, .ref (eX V 96)), (1, .int x), (2, .ref (eX V 600))]) hx hcd dL_openBlockers_12 rfl hl (by decide) rfl (fun ls hl => ?_)
      refine lv_iconst (v := nI 1) hx hcd dL_openBlockers_13 (by decide) ?_
      exact k_reti hQ G hret hlocks h (Or.inr ⟨rfl, hp9⟩) (Nat.le_of_ble_eq_true rfl) (Nat.le_of_ble_eq_true rfl) dL_openBlockers_14
  · have h : cH V s H locs (lwF V (u, O)) := h
    refine lv_i2l (v := r.toInt64) hx hcd dL_openBlockers_7 rfl ?_
    refine r_lS G hC h (r.toInt64) dL_openBlockers_8 (fun H locs h => ?_)
    refine lv_goto (tgt := 15) hx hcd dL_openBlockers_9 (by decide) ?_
    refine lv_iconst (v := nI 0) hx hcd dL_openBlockers_15 (by decide) ?_
    exact k_reti hQ G hret hlocks h (Or.inl ⟨rfl, r, hp, rfl⟩) (Nat.le_of_ble_eq_true rfl) (Nat.le_of_ble_eq_true rfl) dL_openBlockers_16
set_option maxHeartbeats 4000000 in
set_option maxRecDepth 100000 in
theorem met_L_isBlocker (l : Launch) (V : kEnv) (hV : kOk V) (S0 : kCs) (O : Nat → Int64) {post : Int32 → kCs → Prop} {px : String → kCs → Prop} (x y : Int32) (hM : ∀ ws n, kX l yX3_isBlocker cX3_isBlocker 3 (some .boolean) { frames := 8, cells := 6, slots := 36, locals := 131 } (frV V ws n) (cWs V) (.ref (eX V 96) :: [.int x, .int y]) S0 post px 6 36) (hE : ∀ E u, px E u → E = "java/lang/IndexOutOfBoundsException") : kW l yL_isBlocker cL_isBlocker 5 [(0, 17, 20, 21)] { frames := 9, cells := 6, slots := 36, locals := 153 } V (lwF V) [.ref (eX V 96), .int x, .int y, .ref (eX V 600)] (S0, O) (fun k u => (k = nI 0 ∧ ∃ r, post r u.1 ∧ u.2 = vp_updL O 0 (if r = 0 then 0 else 1)) ∨ (k = nI 1 ∧ px "java/lang/IndexOutOfBoundsException" u.1)) 6 36 := by
  refine kW_of (by decide +kernel) (Nat.le_of_ble_eq_true rfl) ?_
  intro p e s m args below meth c G hret hlocks htab hC hB h ls hl Q hQ
  have hl : lv_has ls 5 [(0, .ref (eX V 96)), (1, .int x), (2, .int y), (3, .ref (eX V 600))] := hl
  have hx := G.1
  have hcd := G.2.1
  refine lv_aload_n hx hcd dL_isBlocker_0 rfl (lv_at hl 3 rfl) ?_
  refine lv_iconst (v := nI 0) hx hcd dL_isBlocker_1 (by decide) ?_
  refine lv_aload_n hx hcd dL_isBlocker_2 rfl (lv_at hl 0 rfl) ?_
  refine lv_iload_n hx hcd dL_isBlocker_3 rfl (lv_at hl 1 rfl) ?_
  refine lv_iload_n hx hcd dL_isBlocker_4 rfl (lv_at hl 2 rfl) ?_
  refine fx_Vi (F := cWs V) (u0 := S0) (o9 := oC V O) (As := [.int x, .int y]) (rest := [.int (nI 0), .ref (eX V 600)]) (b := eX V 96) G hC hB hV h (hM _ _) mw_983 kv_X3_isBlocker ⟨rfl, rfl⟩ ⟨Nat.le_of_ble_eq_true rfl, Nat.le_of_ble_eq_true rfl⟩ (r_sVf hC h) rfl rfl hl.1 (Nat.le_of_ble_eq_true rfl) dL_isBlocker_5 ⟨Nat.le_of_ble_eq_true rfl, Nat.le_of_ble_eq_true rfl⟩ (fun E ce q9 u H locs hp9 h hce hcv hcl => ?_) (fun r u H locs hp h => ?_)
  · have h : cH V s H locs (lwF V (u, O)) := h
    rcases hE E u hp9 with rfl
    · refine kc_catch (pre := []) (suf := []) (x := (0, 17, 20, 21)) G hC htab rfl (fun z hz => absurd hz List.not_mem_nil) (by decide) (by decide) (by decide) mw_839 hce hcv hcl ?_
      refine lv_astore (lv' := [(4, .ref q9), (0, .ref (eX V 96)), (1, .int x), (2, .int y), (3, .ref (eX V 600))]) hx hcd dL_isBlocker_20 hl (by decide) rfl (fun ls hl => ?_)
      refine lv_iconst (v := nI 1) hx hcd dL_isBlocker_22 (by decide) ?_
      exact k_reti hQ G hret hlocks h (Or.inr ⟨rfl, hp9⟩) (Nat.le_of_ble_eq_true rfl) (Nat.le_of_ble_eq_true rfl) dL_isBlocker_23
  · have h : cH V s H locs (lwF V (u, O)) := h
    refine lv_if_eq (tgt := 15) hx hcd dL_isBlocker_8 (by decide) (fun c1 => ?_) (fun c1 => ?_)
    · refine lv_lconst (v := 0) hx hcd dL_isBlocker_15 (by decide) ?_
      refine r_lS G hC h 0 dL_isBlocker_16 (fun H locs h => ?_)
      refine lv_goto (tgt := 24) hx hcd dL_isBlocker_17 (by decide) ?_
      refine lv_iconst (v := nI 0) hx hcd dL_isBlocker_24 (by decide) ?_
      exact k_reti hQ G hret hlocks h (Or.inl ⟨rfl, r, hp, by rw [if_pos c1]⟩) (Nat.le_of_ble_eq_true rfl) (Nat.le_of_ble_eq_true rfl) dL_isBlocker_25
    · refine lv_lconst (v := 1) hx hcd dL_isBlocker_11 (by decide) ?_
      refine lv_goto (tgt := 16) hx hcd dL_isBlocker_12 (by decide) ?_
      refine r_lS G hC h 1 dL_isBlocker_16 (fun H locs h => ?_)
      refine lv_goto (tgt := 24) hx hcd dL_isBlocker_17 (by decide) ?_
      refine lv_iconst (v := nI 0) hx hcd dL_isBlocker_24 (by decide) ?_
      exact k_reti hQ G hret hlocks h (Or.inl ⟨rfl, r, hp, by rw [if_neg c1]⟩) (Nat.le_of_ble_eq_true rfl) (Nat.le_of_ble_eq_true rfl) dL_isBlocker_25
set_option maxHeartbeats 4000000 in
set_option maxRecDepth 100000 in
theorem met_L_dependsOn (l : Launch) (V : kEnv) (hV : kOk V) (S0 : kCs) (O : Nat → Int64) {post : Int32 → kCs → Prop} {px : String → kCs → Prop} (x y : Int32) (hM : ∀ ws n, kX l yX3_dependsOn cX3_dependsOn 3 (some .boolean) { frames := 8, cells := 6, slots := 36, locals := 131 } (frV V ws n) (cWs V) (.ref (eX V 96) :: [.int x, .int y]) S0 post px 6 36) (hE : ∀ E u, px E u → E = "java/lang/IndexOutOfBoundsException") : kW l yL_dependsOn cL_dependsOn 5 [(0, 17, 20, 21)] { frames := 9, cells := 6, slots := 36, locals := 153 } V (lwF V) [.ref (eX V 96), .int x, .int y, .ref (eX V 600)] (S0, O) (fun k u => (k = nI 0 ∧ ∃ r, post r u.1 ∧ u.2 = vp_updL O 0 (if r = 0 then 0 else 1)) ∨ (k = nI 1 ∧ px "java/lang/IndexOutOfBoundsException" u.1)) 6 36 := by
  refine kW_of (by decide +kernel) (Nat.le_of_ble_eq_true rfl) ?_
  intro p e s m args below meth c G hret hlocks htab hC hB h ls hl Q hQ
  have hl : lv_has ls 5 [(0, .ref (eX V 96)), (1, .int x), (2, .int y), (3, .ref (eX V 600))] := hl
  have hx := G.1
  have hcd := G.2.1
  refine lv_aload_n hx hcd dL_dependsOn_0 rfl (lv_at hl 3 rfl) ?_
  refine lv_iconst (v := nI 0) hx hcd dL_dependsOn_1 (by decide) ?_
  refine lv_aload_n hx hcd dL_dependsOn_2 rfl (lv_at hl 0 rfl) ?_
  refine lv_iload_n hx hcd dL_dependsOn_3 rfl (lv_at hl 1 rfl) ?_
  refine lv_iload_n hx hcd dL_dependsOn_4 rfl (lv_at hl 2 rfl) ?_
  refine fx_Vi (F := cWs V) (u0 := S0) (o9 := oC V O) (As := [.int x, .int y]) (rest := [.int (nI 0), .ref (eX V 600)]) (b := eX V 96) G hC hB hV h (hM _ _) mw_990 kv_X3_dependsOn ⟨rfl, rfl⟩ ⟨Nat.le_of_ble_eq_true rfl, Nat.le_of_ble_eq_true rfl⟩ (r_sVf hC h) rfl rfl hl.1 (Nat.le_of_ble_eq_true rfl) dL_dependsOn_5 ⟨Nat.le_of_ble_eq_true rfl, Nat.le_of_ble_eq_true rfl⟩ (fun E ce q9 u H locs hp9 h hce hcv hcl => ?_) (fun r u H locs hp h => ?_)
  · have h : cH V s H locs (lwF V (u, O)) := h
    rcases hE E u hp9 with rfl
    · refine kc_catch (pre := []) (suf := []) (x := (0, 17, 20, 21)) G hC htab rfl (fun z hz => absurd hz List.not_mem_nil) (by decide) (by decide) (by decide) mw_839 hce hcv hcl ?_
      refine lv_astore (lv' := [(4, .ref q9), (0, .ref (eX V 96)), (1, .int x), (2, .int y), (3, .ref (eX V 600))]) hx hcd dL_dependsOn_20 hl (by decide) rfl (fun ls hl => ?_)
      refine lv_iconst (v := nI 1) hx hcd dL_dependsOn_22 (by decide) ?_
      exact k_reti hQ G hret hlocks h (Or.inr ⟨rfl, hp9⟩) (Nat.le_of_ble_eq_true rfl) (Nat.le_of_ble_eq_true rfl) dL_dependsOn_23
  · have h : cH V s H locs (lwF V (u, O)) := h
    refine lv_if_eq (tgt := 15) hx hcd dL_dependsOn_8 (by decide) (fun c1 => ?_) (fun c1 => ?_)
    · refine lv_lconst (v := 0) hx hcd dL_dependsOn_15 (by decide) ?_
      refine r_lS G hC h 0 dL_dependsOn_16 (fun H locs h => ?_)
      refine lv_goto (tgt := 24) hx hcd dL_dependsOn_17 (by decide) ?_
      refine lv_iconst (v := nI 0) hx hcd dL_dependsOn_24 (by decide) ?_
      exact k_reti hQ G hret hlocks h (Or.inl ⟨rfl, r, hp, by rw [if_pos c1]⟩) (Nat.le_of_ble_eq_true rfl) (Nat.le_of_ble_eq_true rfl) dL_dependsOn_25
    · refine lv_lconst (v := 1) hx hcd dL_dependsOn_11 (by decide) ?_
      refine lv_goto (tgt := 16) hx hcd dL_dependsOn_12 (by decide) ?_
      refine r_lS G hC h 1 dL_dependsOn_16 (fun H locs h => ?_)
      refine lv_goto (tgt := 24) hx hcd dL_dependsOn_17 (by decide) ?_
      refine lv_iconst (v := nI 0) hx hcd dL_dependsOn_24 (by decide) ?_
      exact k_reti hQ G hret hlocks h (Or.inl ⟨rfl, r, hp, by rw [if_neg c1]⟩) (Nat.le_of_ble_eq_true rfl) (Nat.le_of_ble_eq_true rfl) dL_dependsOn_25
set_option maxHeartbeats 4000000 in
set_option maxRecDepth 100000 in
theorem met_L_dependsOnByClosure (l : Launch) (V : kEnv) (hV : kOk V) (S0 : kCs) (O : Nat → Int64) {post : Int32 → kCs → Prop} {px : String → kCs → Prop} (x y : Int32) (hM : ∀ ws n, kX l yX3_dependsOnByClosure cX3_dependsOnByClosure 3 (some .boolean) { frames := 8, cells := 6, slots := 36, locals := 131 } (frV V ws n) (cWs V) (.ref (eX V 96) :: [.int x, .int y]) S0 post px 6 36) (hE : ∀ E u, px E u → E = "java/lang/IndexOutOfBoundsException") : kW l yL_dependsOnByClosure cL_dependsOnByClosure 5 [(0, 17, 20, 21)] { frames := 9, cells := 6, slots := 36, locals := 153 } V (lwF V) [.ref (eX V 96), .int x, .int y, .ref (eX V 600)] (S0, O) (fun k u => (k = nI 0 ∧ ∃ r, post r u.1 ∧ u.2 = vp_updL O 0 (if r = 0 then 0 else 1)) ∨ (k = nI 1 ∧ px "java/lang/IndexOutOfBoundsException" u.1)) 6 36 := by
  refine kW_of (by decide +kernel) (Nat.le_of_ble_eq_true rfl) ?_
  intro p e s m args below meth c G hret hlocks htab hC hB h ls hl Q hQ
  have hl : lv_has ls 5 [(0, .ref (eX V 96)), (1, .int x), (2, .int y), (3, .ref (eX V 600))] := hl
  have hx := G.1
  have hcd := G.2.1
  refine lv_aload_n hx hcd dL_dependsOnByClosure_0 rfl (lv_at hl 3 rfl) ?_
  refine lv_iconst (v := nI 0) hx hcd dL_dependsOnByClosure_1 (by decide) ?_
  refine lv_aload_n hx hcd dL_dependsOnByClosure_2 rfl (lv_at hl 0 rfl) ?_
  refine lv_iload_n hx hcd dL_dependsOnByClosure_3 rfl (lv_at hl 1 rfl) ?_
  refine lv_iload_n hx hcd dL_dependsOnByClosure_4 rfl (lv_at hl 2 rfl) ?_
  refine fx_Vi (F := cWs V) (u0 := S0) (o9 := oC V O) (As := [.int x, .int y]) (rest := [.int (nI 0), .ref (eX V 600)]) (b := eX V 96) G hC hB hV h (hM _ _) mw_997 kv_X3_dependsOnByClosure ⟨rfl, rfl⟩ ⟨Nat.le_of_ble_eq_true rfl, Nat.le_of_ble_eq_true rfl⟩ (r_sVf hC h) rfl rfl hl.1 (Nat.le_of_ble_eq_true rfl) dL_dependsOnByClosure_5 ⟨Nat.le_of_ble_eq_true rfl, Nat.le_of_ble_eq_true rfl⟩ (fun E ce q9 u H locs hp9 h hce hcv hcl => ?_) (fun r u H locs hp h => ?_)
  · have h : cH V s H locs (lwF V (u, O)) := h
    rcases hE E u hp9 with rfl
    · refine kc_catch (pre := []) (suf := []) (x := (0, 17, 20, 21)) G hC htab rfl (fun z hz => absurd hz List.not_mem_nil) (by decide) (by decide) (by decide) mw_839 hce hcv hcl ?_
      refine lv_astore (lv' := [(4, .ref q9), (0, .ref (eX V 96)), (1, .int x), (2, .int y), (3, .ref (eX V 600))]) hx hcd dL_dependsOnByClosure_20 hl (by decide) rfl (fun ls hl => ?_)
      refine lv_iconst (v := nI 1) hx hcd dL_dependsOnByClosure_22 (by decide) ?_
      exact k_reti hQ G hret hlocks h (Or.inr ⟨rfl, hp9⟩) (Nat.le_of_ble_eq_true rfl) (Nat.le_of_ble_eq_true rfl) dL_dependsOnByClosure_23
  · have h : cH V s H locs (lwF V (u, O)) := h
    refine lv_if_eq (tgt := 15) hx hcd dL_dependsOnByClosure_8 (by decide) (fun c1 => ?_) (fun c1 => ?_)
    · refine lv_lconst (v := 0) hx hcd dL_dependsOnByClosure_15 (by decide) ?_
      refine r_lS G hC h 0 dL_dependsOnByClosure_16 (fun H locs h => ?_)
      refine lv_goto (tgt := 24) hx hcd dL_dependsOnByClosure_17 (by decide) ?_
      refine lv_iconst (v := nI 0) hx hcd dL_dependsOnByClosure_24 (by decide) ?_
      exact k_reti hQ G hret hlocks h (Or.inl ⟨rfl, r, hp, by rw [if_pos c1]⟩) (Nat.le_of_ble_eq_true rfl) (Nat.le_of_ble_eq_true rfl) dL_dependsOnByClosure_25
    · refine lv_lconst (v := 1) hx hcd dL_dependsOnByClosure_11 (by decide) ?_
      refine lv_goto (tgt := 16) hx hcd dL_dependsOnByClosure_12 (by decide) ?_
      refine r_lS G hC h 1 dL_dependsOnByClosure_16 (fun H locs h => ?_)
      refine lv_goto (tgt := 24) hx hcd dL_dependsOnByClosure_17 (by decide) ?_
      refine lv_iconst (v := nI 0) hx hcd dL_dependsOnByClosure_24 (by decide) ?_
      exact k_reti hQ G hret hlocks h (Or.inl ⟨rfl, r, hp, by rw [if_neg c1]⟩) (Nat.le_of_ble_eq_true rfl) (Nat.le_of_ble_eq_true rfl) dL_dependsOnByClosure_25
set_option maxHeartbeats 4000000 in
set_option maxRecDepth 100000 in
theorem met_L_longestChain (l : Launch) (V : kEnv) (hV : kOk V) (S0 : kCs) (O : Nat → Int64) {post : Int32 → kCs → Prop} {px : String → kCs → Prop} (x : Int32) (hM : ∀ ws n, kX l yX3_longestChain cX3_longestChain 2 (some .int) { frames := 8, cells := 6, slots := 36, locals := 131 } (frV V ws n) (cWs V) (.ref (eX V 96) :: [.int x]) S0 post px 6 36) (hE : ∀ E u, px E u → E = "java/lang/IndexOutOfBoundsException") : kW l yL_longestChain cL_longestChain 4 [(0, 9, 12, 21)] { frames := 9, cells := 6, slots := 36, locals := 152 } V (lwF V) [.ref (eX V 96), .int x, .ref (eX V 600)] (S0, O) (fun k u => (k = nI 0 ∧ ∃ r, post r u.1 ∧ u.2 = vp_updL O 0 r.toInt64) ∨ (k = nI 1 ∧ px "java/lang/IndexOutOfBoundsException" u.1)) 6 36 := by
  refine kW_of (by decide +kernel) (Nat.le_of_ble_eq_true rfl) ?_
  intro p e s m args below meth c G hret hlocks htab hC hB h ls hl Q hQ
  have hl : lv_has ls 4 [(0, .ref (eX V 96)), (1, .int x), (2, .ref (eX V 600))] := hl
  have hx := G.1
  have hcd := G.2.1
  refine lv_aload_n hx hcd dL_longestChain_0 rfl (lv_at hl 2 rfl) ?_
  refine lv_iconst (v := nI 0) hx hcd dL_longestChain_1 (by decide) ?_
  refine lv_aload_n hx hcd dL_longestChain_2 rfl (lv_at hl 0 rfl) ?_
  refine lv_iload_n hx hcd dL_longestChain_3 rfl (lv_at hl 1 rfl) ?_
  refine fx_Vi (F := cWs V) (u0 := S0) (o9 := oC V O) (As := [.int x]) (rest := [.int (nI 0), .ref (eX V 600)]) (b := eX V 96) G hC hB hV h (hM _ _) mw_1004 kv_X3_longestChain ⟨rfl, rfl⟩ ⟨Nat.le_of_ble_eq_true rfl, Nat.le_of_ble_eq_true rfl⟩ (r_sVf hC h) rfl rfl hl.1 (Nat.le_of_ble_eq_true rfl) dL_longestChain_4 ⟨Nat.le_of_ble_eq_true rfl, Nat.le_of_ble_eq_true rfl⟩ (fun E ce q9 u H locs hp9 h hce hcv hcl => ?_) (fun r u H locs hp h => ?_)
  · have h : cH V s H locs (lwF V (u, O)) := h
    rcases hE E u hp9 with rfl
    · refine kc_catch (pre := []) (suf := []) (x := (0, 9, 12, 21)) G hC htab rfl (fun z hz => absurd hz List.not_mem_nil) (by decide) (by decide) (by decide) mw_839 hce hcv hcl ?_
      refine lv_astore_n (lv' := [(3, .ref q9), (0, .ref (eX V 96)), (1, .int x), (2, .ref (eX V 600))]) hx hcd dL_longestChain_12 rfl hl (by decide) rfl (fun ls hl => ?_)
      refine lv_iconst (v := nI 1) hx hcd dL_longestChain_13 (by decide) ?_
      exact k_reti hQ G hret hlocks h (Or.inr ⟨rfl, hp9⟩) (Nat.le_of_ble_eq_true rfl) (Nat.le_of_ble_eq_true rfl) dL_longestChain_14
  · have h : cH V s H locs (lwF V (u, O)) := h
    refine lv_i2l (v := r.toInt64) hx hcd dL_longestChain_7 rfl ?_
    refine r_lS G hC h (r.toInt64) dL_longestChain_8 (fun H locs h => ?_)
    refine lv_goto (tgt := 15) hx hcd dL_longestChain_9 (by decide) ?_
    refine lv_iconst (v := nI 0) hx hcd dL_longestChain_15 (by decide) ?_
    exact k_reti hQ G hret hlocks h (Or.inl ⟨rfl, r, hp, rfl⟩) (Nat.le_of_ble_eq_true rfl) (Nat.le_of_ble_eq_true rfl) dL_longestChain_16
set_option maxHeartbeats 4000000 in
set_option maxRecDepth 100000 in
theorem met_L_storyInOrder (l : Launch) (V : kEnv) (hV : kOk V) (S0 : kCs) (O : Nat → Int64) {post : Int32 → kCs → Prop} {px : String → kCs → Prop} (x : Int32) (hM : ∀ ws n, kX l yX3_storyInOrder cX3_storyInOrder 3 (some .int) { frames := 7, cells := 6, slots := 36, locals := 110 } (frV V ws n) (cWs V) (.ref (eX V 96) :: [.int x]) S0 post px 6 36) (hE : ∀ E u, px E u → E = "java/util/NoSuchElementException") : kW l yL_storyInOrder cL_storyInOrder 4 [(0, 9, 12, 66)] { frames := 8, cells := 6, slots := 36, locals := 132 } V (lwF V) [.ref (eX V 96), .int x, .ref (eX V 600)] (S0, O) (fun k u => (k = nI 0 ∧ ∃ r, post r u.1 ∧ u.2 = vp_updL O 0 r.toInt64) ∨ (k = nI 1 ∧ px "java/util/NoSuchElementException" u.1)) 6 36 := by
  refine kW_of (by decide +kernel) (Nat.le_of_ble_eq_true rfl) ?_
  intro p e s m args below meth c G hret hlocks htab hC hB h ls hl Q hQ
  have hl : lv_has ls 4 [(0, .ref (eX V 96)), (1, .int x), (2, .ref (eX V 600))] := hl
  have hx := G.1
  have hcd := G.2.1
  refine lv_aload_n hx hcd dL_storyInOrder_0 rfl (lv_at hl 2 rfl) ?_
  refine lv_iconst (v := nI 0) hx hcd dL_storyInOrder_1 (by decide) ?_
  refine lv_aload_n hx hcd dL_storyInOrder_2 rfl (lv_at hl 0 rfl) ?_
  refine lv_iload_n hx hcd dL_storyInOrder_3 rfl (lv_at hl 1 rfl) ?_
  refine fx_Vi (F := cWs V) (u0 := S0) (o9 := oC V O) (As := [.int x]) (rest := [.int (nI 0), .ref (eX V 600)]) (b := eX V 96) G hC hB hV h (hM _ _) mw_1016 kv_X3_storyInOrder ⟨rfl, rfl⟩ ⟨Nat.le_of_ble_eq_true rfl, Nat.le_of_ble_eq_true rfl⟩ (r_sVf hC h) rfl rfl hl.1 (Nat.le_of_ble_eq_true rfl) dL_storyInOrder_4 ⟨Nat.le_of_ble_eq_true rfl, Nat.le_of_ble_eq_true rfl⟩ (fun E ce q9 u H locs hp9 h hce hcv hcl => ?_) (fun r u H locs hp h => ?_)
  · have h : cH V s H locs (lwF V (u, O)) := h
    rcases hE E u hp9 with rfl
    · refine kc_catch (pre := []) (suf := []) (x := (0, 9, 12, 66)) G hC htab rfl (fun z hz => absurd hz List.not_mem_nil) (by decide) (by decide) (by decide) mw_1015 hce hcv hcl ?_
      refine lv_astore_n (lv' := [(3, .ref q9), (0, .ref (eX V 96)), (1, .int x), (2, .ref (eX V 600))]) hx hcd dL_storyInOrder_12 rfl hl (by decide) rfl (fun ls hl => ?_)
      refine lv_iconst (v := nI 1) hx hcd dL_storyInOrder_13 (by decide) ?_
      exact k_reti hQ G hret hlocks h (Or.inr ⟨rfl, hp9⟩) (Nat.le_of_ble_eq_true rfl) (Nat.le_of_ble_eq_true rfl) dL_storyInOrder_14
  · have h : cH V s H locs (lwF V (u, O)) := h
    refine lv_i2l (v := r.toInt64) hx hcd dL_storyInOrder_7 rfl ?_
    refine r_lS G hC h (r.toInt64) dL_storyInOrder_8 (fun H locs h => ?_)
    refine lv_goto (tgt := 15) hx hcd dL_storyInOrder_9 (by decide) ?_
    refine lv_iconst (v := nI 0) hx hcd dL_storyInOrder_15 (by decide) ?_
    exact k_reti hQ G hret hlocks h (Or.inl ⟨rfl, r, hp, rfl⟩) (Nat.le_of_ble_eq_true rfl) (Nat.le_of_ble_eq_true rfl) dL_storyInOrder_16
set_option maxHeartbeats 4000000 in
set_option maxRecDepth 100000 in
theorem met_L_addDeveloper (l : Launch) (V : kEnv) (hV : kOk V) (S0 : kCs) (O : Nat → Int64) {post : Int32 → kCs → Prop} {px : String → kCs → Prop} (x : Int32) (hM : ∀ ws n, kX l yX3_addDeveloper cX3_addDeveloper 2 (some .int) { frames := 8, cells := 6, slots := 36, locals := 131 } (frV V ws n) (cWs V) (.ref (eX V 96) :: [.int x]) S0 post px 6 36) (hE : ∀ E u, px E u → E = "java/lang/IllegalArgumentException" ∨ E = "java/lang/IllegalStateException") : kW l yL_addDeveloper cL_addDeveloper 4 [(0, 9, 12, 13), (0, 9, 15, 15)] { frames := 9, cells := 6, slots := 36, locals := 152 } V (lwF V) [.ref (eX V 96), .int x, .ref (eX V 600)] (S0, O) (fun k u => (k = nI 0 ∧ ∃ r, post r u.1 ∧ u.2 = vp_updL O 0 r.toInt64) ∨ (k = nI 1 ∧ px "java/lang/IllegalArgumentException" u.1) ∨ (k = nI 2 ∧ px "java/lang/IllegalStateException" u.1)) 6 36 := by
  refine kW_of (by decide +kernel) (Nat.le_of_ble_eq_true rfl) ?_
  intro p e s m args below meth c G hret hlocks htab hC hB h ls hl Q hQ
  have hl : lv_has ls 4 [(0, .ref (eX V 96)), (1, .int x), (2, .ref (eX V 600))] := hl
  have hx := G.1
  have hcd := G.2.1
  refine lv_aload_n hx hcd dL_addDeveloper_0 rfl (lv_at hl 2 rfl) ?_
  refine lv_iconst (v := nI 0) hx hcd dL_addDeveloper_1 (by decide) ?_
  refine lv_aload_n hx hcd dL_addDeveloper_2 rfl (lv_at hl 0 rfl) ?_
  refine lv_iload_n hx hcd dL_addDeveloper_3 rfl (lv_at hl 1 rfl) ?_
  refine fx_Vi (F := cWs V) (u0 := S0) (o9 := oC V O) (As := [.int x]) (rest := [.int (nI 0), .ref (eX V 600)]) (b := eX V 96) G hC hB hV h (hM _ _) mw_1050 kv_X3_addDeveloper ⟨rfl, rfl⟩ ⟨Nat.le_of_ble_eq_true rfl, Nat.le_of_ble_eq_true rfl⟩ (r_sVf hC h) rfl rfl hl.1 (Nat.le_of_ble_eq_true rfl) dL_addDeveloper_4 ⟨Nat.le_of_ble_eq_true rfl, Nat.le_of_ble_eq_true rfl⟩ (fun E ce q9 u H locs hp9 h hce hcv hcl => ?_) (fun r u H locs hp h => ?_)
  · have h : cH V s H locs (lwF V (u, O)) := h
    rcases hE E u hp9 with rfl | rfl
    · refine kc_catch (pre := []) (suf := [(0, 9, 15, 15)]) (x := (0, 9, 12, 13)) G hC htab rfl (fun z hz => absurd hz List.not_mem_nil) (by decide) (by decide) (by decide) mw_782 hce hcv hcl ?_
      refine lv_astore_n (lv' := [(3, .ref q9), (0, .ref (eX V 96)), (1, .int x), (2, .ref (eX V 600))]) hx hcd dL_addDeveloper_12 rfl hl (by decide) rfl (fun ls hl => ?_)
      refine lv_iconst (v := nI 1) hx hcd dL_addDeveloper_13 (by decide) ?_
      exact k_reti hQ G hret hlocks h (Or.inr (Or.inl ⟨rfl, hp9⟩)) (Nat.le_of_ble_eq_true rfl) (Nat.le_of_ble_eq_true rfl) dL_addDeveloper_14
    · refine kc_catch (pre := [(0, 9, 12, 13)]) (suf := []) (x := (0, 9, 15, 15)) G hC htab rfl (fun z hz => by simp only [List.mem_cons, List.not_mem_nil, or_false] at hz; rcases hz with rfl; exact ⟨by decide, _, mw_782, by decide, by decide⟩) (by decide) (by decide) (by decide) mw_783 hce hcv hcl ?_
      refine lv_astore_n (lv' := [(3, .ref q9), (0, .ref (eX V 96)), (1, .int x), (2, .ref (eX V 600))]) hx hcd dL_addDeveloper_15 rfl hl (by decide) rfl (fun ls hl => ?_)
      refine lv_iconst (v := nI 2) hx hcd dL_addDeveloper_16 (by decide) ?_
      exact k_reti hQ G hret hlocks h (Or.inr (Or.inr ⟨rfl, hp9⟩)) (Nat.le_of_ble_eq_true rfl) (Nat.le_of_ble_eq_true rfl) dL_addDeveloper_17
  · have h : cH V s H locs (lwF V (u, O)) := h
    refine lv_i2l (v := r.toInt64) hx hcd dL_addDeveloper_7 rfl ?_
    refine r_lS G hC h (r.toInt64) dL_addDeveloper_8 (fun H locs h => ?_)
    refine lv_goto (tgt := 18) hx hcd dL_addDeveloper_9 (by decide) ?_
    refine lv_iconst (v := nI 0) hx hcd dL_addDeveloper_18 (by decide) ?_
    exact k_reti hQ G hret hlocks h (Or.inl ⟨rfl, r, hp, rfl⟩) (Nat.le_of_ble_eq_true rfl) (Nat.le_of_ble_eq_true rfl) dL_addDeveloper_19
set_option maxHeartbeats 4000000 in
set_option maxRecDepth 100000 in
theorem met_L_assign (l : Launch) (V : kEnv) (hV : kOk V) (S0 : kCs) (O : Nat → Int64) {post : Int32 → kCs → Prop} {px : String → kCs → Prop} (x y : Int32) (hM : ∀ ws n, kX l yX3_assign cX3_assign 3 (some .boolean) { frames := 8, cells := 6, slots := 36, locals := 131 } (frV V ws n) (cWs V) (.ref (eX V 96) :: [.int x, .int y]) S0 post px 6 36) (hE : ∀ E u, px E u → E = "java/lang/IndexOutOfBoundsException" ∨ E = "java/lang/UnsupportedOperationException" ∨ E = "java/lang/IllegalStateException") : kW l yL_assign cL_assign 5 [(0, 17, 20, 21), (0, 17, 24, 26), (0, 17, 28, 15)] { frames := 9, cells := 6, slots := 36, locals := 153 } V (lwF V) [.ref (eX V 96), .int x, .int y, .ref (eX V 600)] (S0, O) (fun k u => (k = nI 0 ∧ ∃ r, post r u.1 ∧ u.2 = vp_updL O 0 (if r = 0 then 0 else 1)) ∨ (k = nI 1 ∧ px "java/lang/IndexOutOfBoundsException" u.1) ∨ (k = nI 2 ∧ px "java/lang/UnsupportedOperationException" u.1) ∨ (k = nI 3 ∧ px "java/lang/IllegalStateException" u.1)) 6 36 := by
  refine kW_of (by decide +kernel) (Nat.le_of_ble_eq_true rfl) ?_
  intro p e s m args below meth c G hret hlocks htab hC hB h ls hl Q hQ
  have hl : lv_has ls 5 [(0, .ref (eX V 96)), (1, .int x), (2, .int y), (3, .ref (eX V 600))] := hl
  have hx := G.1
  have hcd := G.2.1
  refine lv_aload_n hx hcd dL_assign_0 rfl (lv_at hl 3 rfl) ?_
  refine lv_iconst (v := nI 0) hx hcd dL_assign_1 (by decide) ?_
  refine lv_aload_n hx hcd dL_assign_2 rfl (lv_at hl 0 rfl) ?_
  refine lv_iload_n hx hcd dL_assign_3 rfl (lv_at hl 1 rfl) ?_
  refine lv_iload_n hx hcd dL_assign_4 rfl (lv_at hl 2 rfl) ?_
  refine fx_Vi (F := cWs V) (u0 := S0) (o9 := oC V O) (As := [.int x, .int y]) (rest := [.int (nI 0), .ref (eX V 600)]) (b := eX V 96) G hC hB hV h (hM _ _) mw_1069 kv_X3_assign ⟨rfl, rfl⟩ ⟨Nat.le_of_ble_eq_true rfl, Nat.le_of_ble_eq_true rfl⟩ (r_sVf hC h) rfl rfl hl.1 (Nat.le_of_ble_eq_true rfl) dL_assign_5 ⟨Nat.le_of_ble_eq_true rfl, Nat.le_of_ble_eq_true rfl⟩ (fun E ce q9 u H locs hp9 h hce hcv hcl => ?_) (fun r u H locs hp h => ?_)
  · have h : cH V s H locs (lwF V (u, O)) := h
    rcases hE E u hp9 with rfl | rfl | rfl
    · refine kc_catch (pre := []) (suf := [(0, 17, 24, 26), (0, 17, 28, 15)]) (x := (0, 17, 20, 21)) G hC htab rfl (fun z hz => absurd hz List.not_mem_nil) (by decide) (by decide) (by decide) mw_839 hce hcv hcl ?_
      refine lv_astore (lv' := [(4, .ref q9), (0, .ref (eX V 96)), (1, .int x), (2, .int y), (3, .ref (eX V 600))]) hx hcd dL_assign_20 hl (by decide) rfl (fun ls hl => ?_)
      refine lv_iconst (v := nI 1) hx hcd dL_assign_22 (by decide) ?_
      exact k_reti hQ G hret hlocks h (Or.inr (Or.inl ⟨rfl, hp9⟩)) (Nat.le_of_ble_eq_true rfl) (Nat.le_of_ble_eq_true rfl) dL_assign_23
    · refine kc_catch (pre := [(0, 17, 20, 21)]) (suf := [(0, 17, 28, 15)]) (x := (0, 17, 24, 26)) G hC htab rfl (fun z hz => by simp only [List.mem_cons, List.not_mem_nil, or_false] at hz; rcases hz with rfl; exact ⟨by decide, _, mw_839, by decide, by decide⟩) (by decide) (by decide) (by decide) mw_879 hce hcv hcl ?_
      refine lv_astore (lv' := [(4, .ref q9), (0, .ref (eX V 96)), (1, .int x), (2, .int y), (3, .ref (eX V 600))]) hx hcd dL_assign_24 hl (by decide) rfl (fun ls hl => ?_)
      refine lv_iconst (v := nI 2) hx hcd dL_assign_26 (by decide) ?_
      exact k_reti hQ G hret hlocks h (Or.inr (Or.inr (Or.inl ⟨rfl, hp9⟩))) (Nat.le_of_ble_eq_true rfl) (Nat.le_of_ble_eq_true rfl) dL_assign_27
    · refine kc_catch (pre := [(0, 17, 20, 21), (0, 17, 24, 26)]) (suf := []) (x := (0, 17, 28, 15)) G hC htab rfl (fun z hz => by simp only [List.mem_cons, List.not_mem_nil, or_false] at hz; rcases hz with rfl | rfl; exact ⟨by decide, _, mw_839, by decide, by decide⟩; exact ⟨by decide, _, mw_879, by decide, by decide⟩) (by decide) (by decide) (by decide) mw_783 hce hcv hcl ?_
      refine lv_astore (lv' := [(4, .ref q9), (0, .ref (eX V 96)), (1, .int x), (2, .int y), (3, .ref (eX V 600))]) hx hcd dL_assign_28 hl (by decide) rfl (fun ls hl => ?_)
      refine lv_iconst (v := nI 3) hx hcd dL_assign_30 (by decide) ?_
      exact k_reti hQ G hret hlocks h (Or.inr (Or.inr (Or.inr ⟨rfl, hp9⟩))) (Nat.le_of_ble_eq_true rfl) (Nat.le_of_ble_eq_true rfl) dL_assign_31
  · have h : cH V s H locs (lwF V (u, O)) := h
    refine lv_if_eq (tgt := 15) hx hcd dL_assign_8 (by decide) (fun c1 => ?_) (fun c1 => ?_)
    · refine lv_lconst (v := 0) hx hcd dL_assign_15 (by decide) ?_
      refine r_lS G hC h 0 dL_assign_16 (fun H locs h => ?_)
      refine lv_goto (tgt := 32) hx hcd dL_assign_17 (by decide) ?_
      refine lv_iconst (v := nI 0) hx hcd dL_assign_32 (by decide) ?_
      exact k_reti hQ G hret hlocks h (Or.inl ⟨rfl, r, hp, by rw [if_pos c1]⟩) (Nat.le_of_ble_eq_true rfl) (Nat.le_of_ble_eq_true rfl) dL_assign_33
    · refine lv_lconst (v := 1) hx hcd dL_assign_11 (by decide) ?_
      refine lv_goto (tgt := 16) hx hcd dL_assign_12 (by decide) ?_
      refine r_lS G hC h 1 dL_assign_16 (fun H locs h => ?_)
      refine lv_goto (tgt := 32) hx hcd dL_assign_17 (by decide) ?_
      refine lv_iconst (v := nI 0) hx hcd dL_assign_32 (by decide) ?_
      exact k_reti hQ G hret hlocks h (Or.inl ⟨rfl, r, hp, by rw [if_neg c1]⟩) (Nat.le_of_ble_eq_true rfl) (Nat.le_of_ble_eq_true rfl) dL_assign_33
set_option maxHeartbeats 4000000 in
set_option maxRecDepth 100000 in
theorem met_L_unassign (l : Launch) (V : kEnv) (hV : kOk V) (S0 : kCs) (O : Nat → Int64) {post : Int32 → kCs → Prop} {px : String → kCs → Prop} (x : Int32) (hM : ∀ ws n, kX l yX3_unassign cX3_unassign 2 (some .int) { frames := 8, cells := 6, slots := 36, locals := 131 } (frV V ws n) (cWs V) (.ref (eX V 96) :: [.int x]) S0 post px 6 36) (hE : ∀ E u, px E u → E = "java/lang/IndexOutOfBoundsException" ∨ E = "java/lang/IllegalStateException") : kW l yL_unassign cL_unassign 4 [(0, 9, 12, 21), (0, 9, 15, 15)] { frames := 9, cells := 6, slots := 36, locals := 152 } V (lwF V) [.ref (eX V 96), .int x, .ref (eX V 600)] (S0, O) (fun k u => (k = nI 0 ∧ ∃ r, post r u.1 ∧ u.2 = vp_updL O 0 r.toInt64) ∨ (k = nI 1 ∧ px "java/lang/IndexOutOfBoundsException" u.1) ∨ (k = nI 2 ∧ px "java/lang/IllegalStateException" u.1)) 6 36 := by
  refine kW_of (by decide +kernel) (Nat.le_of_ble_eq_true rfl) ?_
  intro p e s m args below meth c G hret hlocks htab hC hB h ls hl Q hQ
  have hl : lv_has ls 4 [(0, .ref (eX V 96)), (1, .int x), (2, .ref (eX V 600))] := hl
  have hx := G.1
  have hcd := G.2.1
  refine lv_aload_n hx hcd dL_unassign_0 rfl (lv_at hl 2 rfl) ?_
  refine lv_iconst (v := nI 0) hx hcd dL_unassign_1 (by decide) ?_
  refine lv_aload_n hx hcd dL_unassign_2 rfl (lv_at hl 0 rfl) ?_
  refine lv_iload_n hx hcd dL_unassign_3 rfl (lv_at hl 1 rfl) ?_
  refine fx_Vi (F := cWs V) (u0 := S0) (o9 := oC V O) (As := [.int x]) (rest := [.int (nI 0), .ref (eX V 600)]) (b := eX V 96) G hC hB hV h (hM _ _) mw_1093 kv_X3_unassign ⟨rfl, rfl⟩ ⟨Nat.le_of_ble_eq_true rfl, Nat.le_of_ble_eq_true rfl⟩ (r_sVf hC h) rfl rfl hl.1 (Nat.le_of_ble_eq_true rfl) dL_unassign_4 ⟨Nat.le_of_ble_eq_true rfl, Nat.le_of_ble_eq_true rfl⟩ (fun E ce q9 u H locs hp9 h hce hcv hcl => ?_) (fun r u H locs hp h => ?_)
  · have h : cH V s H locs (lwF V (u, O)) := h
    rcases hE E u hp9 with rfl | rfl
    · refine kc_catch (pre := []) (suf := [(0, 9, 15, 15)]) (x := (0, 9, 12, 21)) G hC htab rfl (fun z hz => absurd hz List.not_mem_nil) (by decide) (by decide) (by decide) mw_839 hce hcv hcl ?_
      refine lv_astore_n (lv' := [(3, .ref q9), (0, .ref (eX V 96)), (1, .int x), (2, .ref (eX V 600))]) hx hcd dL_unassign_12 rfl hl (by decide) rfl (fun ls hl => ?_)
      refine lv_iconst (v := nI 1) hx hcd dL_unassign_13 (by decide) ?_
      exact k_reti hQ G hret hlocks h (Or.inr (Or.inl ⟨rfl, hp9⟩)) (Nat.le_of_ble_eq_true rfl) (Nat.le_of_ble_eq_true rfl) dL_unassign_14
    · refine kc_catch (pre := [(0, 9, 12, 21)]) (suf := []) (x := (0, 9, 15, 15)) G hC htab rfl (fun z hz => by simp only [List.mem_cons, List.not_mem_nil, or_false] at hz; rcases hz with rfl; exact ⟨by decide, _, mw_839, by decide, by decide⟩) (by decide) (by decide) (by decide) mw_783 hce hcv hcl ?_
      refine lv_astore_n (lv' := [(3, .ref q9), (0, .ref (eX V 96)), (1, .int x), (2, .ref (eX V 600))]) hx hcd dL_unassign_15 rfl hl (by decide) rfl (fun ls hl => ?_)
      refine lv_iconst (v := nI 2) hx hcd dL_unassign_16 (by decide) ?_
      exact k_reti hQ G hret hlocks h (Or.inr (Or.inr ⟨rfl, hp9⟩)) (Nat.le_of_ble_eq_true rfl) (Nat.le_of_ble_eq_true rfl) dL_unassign_17
  · have h : cH V s H locs (lwF V (u, O)) := h
    refine lv_i2l (v := r.toInt64) hx hcd dL_unassign_7 rfl ?_
    refine r_lS G hC h (r.toInt64) dL_unassign_8 (fun H locs h => ?_)
    refine lv_goto (tgt := 18) hx hcd dL_unassign_9 (by decide) ?_
    refine lv_iconst (v := nI 0) hx hcd dL_unassign_18 (by decide) ?_
    exact k_reti hQ G hret hlocks h (Or.inl ⟨rfl, r, hp, rfl⟩) (Nat.le_of_ble_eq_true rfl) (Nat.le_of_ble_eq_true rfl) dL_unassign_19
set_option maxHeartbeats 4000000 in
set_option maxRecDepth 100000 in
theorem met_L_speedOf (l : Launch) (V : kEnv) (hV : kOk V) (S0 : kCs) (O : Nat → Int64) {post : Int32 → kCs → Prop} {px : String → kCs → Prop} (x : Int32) (hM : ∀ ws n, kX l yX3_speedOf cX3_speedOf 2 (some .int) { frames := 8, cells := 6, slots := 36, locals := 131 } (frV V ws n) (cWs V) (.ref (eX V 96) :: [.int x]) S0 post px 6 36) (hE : ∀ E u, px E u → E = "java/lang/IndexOutOfBoundsException") : kW l yL_speedOf cL_speedOf 4 [(0, 9, 12, 21)] { frames := 9, cells := 6, slots := 36, locals := 152 } V (lwF V) [.ref (eX V 96), .int x, .ref (eX V 600)] (S0, O) (fun k u => (k = nI 0 ∧ ∃ r, post r u.1 ∧ u.2 = vp_updL O 0 r.toInt64) ∨ (k = nI 1 ∧ px "java/lang/IndexOutOfBoundsException" u.1)) 6 36 := by
  refine kW_of (by decide +kernel) (Nat.le_of_ble_eq_true rfl) ?_
  intro p e s m args below meth c G hret hlocks htab hC hB h ls hl Q hQ
  have hl : lv_has ls 4 [(0, .ref (eX V 96)), (1, .int x), (2, .ref (eX V 600))] := hl
  have hx := G.1
  have hcd := G.2.1
  refine lv_aload_n hx hcd dL_speedOf_0 rfl (lv_at hl 2 rfl) ?_
  refine lv_iconst (v := nI 0) hx hcd dL_speedOf_1 (by decide) ?_
  refine lv_aload_n hx hcd dL_speedOf_2 rfl (lv_at hl 0 rfl) ?_
  refine lv_iload_n hx hcd dL_speedOf_3 rfl (lv_at hl 1 rfl) ?_
  refine fx_Vi (F := cWs V) (u0 := S0) (o9 := oC V O) (As := [.int x]) (rest := [.int (nI 0), .ref (eX V 600)]) (b := eX V 96) G hC hB hV h (hM _ _) mw_1108 kv_X3_speedOf ⟨rfl, rfl⟩ ⟨Nat.le_of_ble_eq_true rfl, Nat.le_of_ble_eq_true rfl⟩ (r_sVf hC h) rfl rfl hl.1 (Nat.le_of_ble_eq_true rfl) dL_speedOf_4 ⟨Nat.le_of_ble_eq_true rfl, Nat.le_of_ble_eq_true rfl⟩ (fun E ce q9 u H locs hp9 h hce hcv hcl => ?_) (fun r u H locs hp h => ?_)
  · have h : cH V s H locs (lwF V (u, O)) := h
    rcases hE E u hp9 with rfl
    · refine kc_catch (pre := []) (suf := []) (x := (0, 9, 12, 21)) G hC htab rfl (fun z hz => absurd hz List.not_mem_nil) (by decide) (by decide) (by decide) mw_839 hce hcv hcl ?_
      refine lv_astore_n (lv' := [(3, .ref q9), (0, .ref (eX V 96)), (1, .int x), (2, .ref (eX V 600))]) hx hcd dL_speedOf_12 rfl hl (by decide) rfl (fun ls hl => ?_)
      refine lv_iconst (v := nI 1) hx hcd dL_speedOf_13 (by decide) ?_
      exact k_reti hQ G hret hlocks h (Or.inr ⟨rfl, hp9⟩) (Nat.le_of_ble_eq_true rfl) (Nat.le_of_ble_eq_true rfl) dL_speedOf_14
  · have h : cH V s H locs (lwF V (u, O)) := h
    refine lv_i2l (v := r.toInt64) hx hcd dL_speedOf_7 rfl ?_
    refine r_lS G hC h (r.toInt64) dL_speedOf_8 (fun H locs h => ?_)
    refine lv_goto (tgt := 15) hx hcd dL_speedOf_9 (by decide) ?_
    refine lv_iconst (v := nI 0) hx hcd dL_speedOf_15 (by decide) ?_
    exact k_reti hQ G hret hlocks h (Or.inl ⟨rfl, r, hp, rfl⟩) (Nat.le_of_ble_eq_true rfl) (Nat.le_of_ble_eq_true rfl) dL_speedOf_16
set_option maxHeartbeats 4000000 in
set_option maxRecDepth 100000 in
theorem met_L_storyOf (l : Launch) (V : kEnv) (hV : kOk V) (S0 : kCs) (O : Nat → Int64) {post : Int32 → kCs → Prop} {px : String → kCs → Prop} (x : Int32) (hM : ∀ ws n, kX l yX3_storyOf cX3_storyOf 3 (some .int) { frames := 8, cells := 6, slots := 36, locals := 131 } (frV V ws n) (cWs V) (.ref (eX V 96) :: [.int x]) S0 post px 6 36) (hE : ∀ E u, px E u → E = "java/lang/IndexOutOfBoundsException" ∨ E = "java/util/NoSuchElementException") : kW l yL_storyOf cL_storyOf 4 [(0, 9, 12, 21), (0, 9, 15, 66)] { frames := 9, cells := 6, slots := 36, locals := 153 } V (lwF V) [.ref (eX V 96), .int x, .ref (eX V 600)] (S0, O) (fun k u => (k = nI 0 ∧ ∃ r, post r u.1 ∧ u.2 = vp_updL O 0 r.toInt64) ∨ (k = nI 1 ∧ px "java/lang/IndexOutOfBoundsException" u.1) ∨ (k = nI 2 ∧ px "java/util/NoSuchElementException" u.1)) 6 36 := by
  refine kW_of (by decide +kernel) (Nat.le_of_ble_eq_true rfl) ?_
  intro p e s m args below meth c G hret hlocks htab hC hB h ls hl Q hQ
  have hl : lv_has ls 4 [(0, .ref (eX V 96)), (1, .int x), (2, .ref (eX V 600))] := hl
  have hx := G.1
  have hcd := G.2.1
  refine lv_aload_n hx hcd dL_storyOf_0 rfl (lv_at hl 2 rfl) ?_
  refine lv_iconst (v := nI 0) hx hcd dL_storyOf_1 (by decide) ?_
  refine lv_aload_n hx hcd dL_storyOf_2 rfl (lv_at hl 0 rfl) ?_
  refine lv_iload_n hx hcd dL_storyOf_3 rfl (lv_at hl 1 rfl) ?_
  refine fx_Vi (F := cWs V) (u0 := S0) (o9 := oC V O) (As := [.int x]) (rest := [.int (nI 0), .ref (eX V 600)]) (b := eX V 96) G hC hB hV h (hM _ _) mw_1115 kv_X3_storyOf ⟨rfl, rfl⟩ ⟨Nat.le_of_ble_eq_true rfl, Nat.le_of_ble_eq_true rfl⟩ (r_sVf hC h) rfl rfl hl.1 (Nat.le_of_ble_eq_true rfl) dL_storyOf_4 ⟨Nat.le_of_ble_eq_true rfl, Nat.le_of_ble_eq_true rfl⟩ (fun E ce q9 u H locs hp9 h hce hcv hcl => ?_) (fun r u H locs hp h => ?_)
  · have h : cH V s H locs (lwF V (u, O)) := h
    rcases hE E u hp9 with rfl | rfl
    · refine kc_catch (pre := []) (suf := [(0, 9, 15, 66)]) (x := (0, 9, 12, 21)) G hC htab rfl (fun z hz => absurd hz List.not_mem_nil) (by decide) (by decide) (by decide) mw_839 hce hcv hcl ?_
      refine lv_astore_n (lv' := [(3, .ref q9), (0, .ref (eX V 96)), (1, .int x), (2, .ref (eX V 600))]) hx hcd dL_storyOf_12 rfl hl (by decide) rfl (fun ls hl => ?_)
      refine lv_iconst (v := nI 1) hx hcd dL_storyOf_13 (by decide) ?_
      exact k_reti hQ G hret hlocks h (Or.inr (Or.inl ⟨rfl, hp9⟩)) (Nat.le_of_ble_eq_true rfl) (Nat.le_of_ble_eq_true rfl) dL_storyOf_14
    · refine kc_catch (pre := [(0, 9, 12, 21)]) (suf := []) (x := (0, 9, 15, 66)) G hC htab rfl (fun z hz => by simp only [List.mem_cons, List.not_mem_nil, or_false] at hz; rcases hz with rfl; exact ⟨by decide, _, mw_839, by decide, by decide⟩) (by decide) (by decide) (by decide) mw_1015 hce hcv hcl ?_
      refine lv_astore_n (lv' := [(3, .ref q9), (0, .ref (eX V 96)), (1, .int x), (2, .ref (eX V 600))]) hx hcd dL_storyOf_15 rfl hl (by decide) rfl (fun ls hl => ?_)
      refine lv_iconst (v := nI 2) hx hcd dL_storyOf_16 (by decide) ?_
      exact k_reti hQ G hret hlocks h (Or.inr (Or.inr ⟨rfl, hp9⟩)) (Nat.le_of_ble_eq_true rfl) (Nat.le_of_ble_eq_true rfl) dL_storyOf_17
  · have h : cH V s H locs (lwF V (u, O)) := h
    refine lv_i2l (v := r.toInt64) hx hcd dL_storyOf_7 rfl ?_
    refine r_lS G hC h (r.toInt64) dL_storyOf_8 (fun H locs h => ?_)
    refine lv_goto (tgt := 18) hx hcd dL_storyOf_9 (by decide) ?_
    refine lv_iconst (v := nI 0) hx hcd dL_storyOf_18 (by decide) ?_
    exact k_reti hQ G hret hlocks h (Or.inl ⟨rfl, r, hp, rfl⟩) (Nat.le_of_ble_eq_true rfl) (Nat.le_of_ble_eq_true rfl) dL_storyOf_19
set_option maxHeartbeats 4000000 in
set_option maxRecDepth 100000 in
theorem met_L_developerOf (l : Launch) (V : kEnv) (hV : kOk V) (S0 : kCs) (O : Nat → Int64) {post : Int32 → kCs → Prop} {px : String → kCs → Prop} (x : Int32) (hM : ∀ ws n, kX l yX3_developerOf cX3_developerOf 3 (some .int) { frames := 8, cells := 6, slots := 36, locals := 131 } (frV V ws n) (cWs V) (.ref (eX V 96) :: [.int x]) S0 post px 6 36) (hE : ∀ E u, px E u → E = "java/lang/IndexOutOfBoundsException" ∨ E = "java/util/NoSuchElementException") : kW l yL_developerOf cL_developerOf 4 [(0, 9, 12, 21), (0, 9, 15, 66)] { frames := 9, cells := 6, slots := 36, locals := 153 } V (lwF V) [.ref (eX V 96), .int x, .ref (eX V 600)] (S0, O) (fun k u => (k = nI 0 ∧ ∃ r, post r u.1 ∧ u.2 = vp_updL O 0 r.toInt64) ∨ (k = nI 1 ∧ px "java/lang/IndexOutOfBoundsException" u.1) ∨ (k = nI 2 ∧ px "java/util/NoSuchElementException" u.1)) 6 36 := by
  refine kW_of (by decide +kernel) (Nat.le_of_ble_eq_true rfl) ?_
  intro p e s m args below meth c G hret hlocks htab hC hB h ls hl Q hQ
  have hl : lv_has ls 4 [(0, .ref (eX V 96)), (1, .int x), (2, .ref (eX V 600))] := hl
  have hx := G.1
  have hcd := G.2.1
  refine lv_aload_n hx hcd dL_developerOf_0 rfl (lv_at hl 2 rfl) ?_
  refine lv_iconst (v := nI 0) hx hcd dL_developerOf_1 (by decide) ?_
  refine lv_aload_n hx hcd dL_developerOf_2 rfl (lv_at hl 0 rfl) ?_
  refine lv_iload_n hx hcd dL_developerOf_3 rfl (lv_at hl 1 rfl) ?_
  refine fx_Vi (F := cWs V) (u0 := S0) (o9 := oC V O) (As := [.int x]) (rest := [.int (nI 0), .ref (eX V 600)]) (b := eX V 96) G hC hB hV h (hM _ _) mw_1122 kv_X3_developerOf ⟨rfl, rfl⟩ ⟨Nat.le_of_ble_eq_true rfl, Nat.le_of_ble_eq_true rfl⟩ (r_sVf hC h) rfl rfl hl.1 (Nat.le_of_ble_eq_true rfl) dL_developerOf_4 ⟨Nat.le_of_ble_eq_true rfl, Nat.le_of_ble_eq_true rfl⟩ (fun E ce q9 u H locs hp9 h hce hcv hcl => ?_) (fun r u H locs hp h => ?_)
  · have h : cH V s H locs (lwF V (u, O)) := h
    rcases hE E u hp9 with rfl | rfl
    · refine kc_catch (pre := []) (suf := [(0, 9, 15, 66)]) (x := (0, 9, 12, 21)) G hC htab rfl (fun z hz => absurd hz List.not_mem_nil) (by decide) (by decide) (by decide) mw_839 hce hcv hcl ?_
      refine lv_astore_n (lv' := [(3, .ref q9), (0, .ref (eX V 96)), (1, .int x), (2, .ref (eX V 600))]) hx hcd dL_developerOf_12 rfl hl (by decide) rfl (fun ls hl => ?_)
      refine lv_iconst (v := nI 1) hx hcd dL_developerOf_13 (by decide) ?_
      exact k_reti hQ G hret hlocks h (Or.inr (Or.inl ⟨rfl, hp9⟩)) (Nat.le_of_ble_eq_true rfl) (Nat.le_of_ble_eq_true rfl) dL_developerOf_14
    · refine kc_catch (pre := [(0, 9, 12, 21)]) (suf := []) (x := (0, 9, 15, 66)) G hC htab rfl (fun z hz => by simp only [List.mem_cons, List.not_mem_nil, or_false] at hz; rcases hz with rfl; exact ⟨by decide, _, mw_839, by decide, by decide⟩) (by decide) (by decide) (by decide) mw_1015 hce hcv hcl ?_
      refine lv_astore_n (lv' := [(3, .ref q9), (0, .ref (eX V 96)), (1, .int x), (2, .ref (eX V 600))]) hx hcd dL_developerOf_15 rfl hl (by decide) rfl (fun ls hl => ?_)
      refine lv_iconst (v := nI 2) hx hcd dL_developerOf_16 (by decide) ?_
      exact k_reti hQ G hret hlocks h (Or.inr (Or.inr ⟨rfl, hp9⟩)) (Nat.le_of_ble_eq_true rfl) (Nat.le_of_ble_eq_true rfl) dL_developerOf_17
  · have h : cH V s H locs (lwF V (u, O)) := h
    refine lv_i2l (v := r.toInt64) hx hcd dL_developerOf_7 rfl ?_
    refine r_lS G hC h (r.toInt64) dL_developerOf_8 (fun H locs h => ?_)
    refine lv_goto (tgt := 18) hx hcd dL_developerOf_9 (by decide) ?_
    refine lv_iconst (v := nI 0) hx hcd dL_developerOf_18 (by decide) ?_
    exact k_reti hQ G hret hlocks h (Or.inl ⟨rfl, r, hp, rfl⟩) (Nat.le_of_ble_eq_true rfl) (Nat.le_of_ble_eq_true rfl) dL_developerOf_19
set_option maxHeartbeats 4000000 in
set_option maxRecDepth 100000 in
theorem met_L_plan (l : Launch) (V : kEnv) (hV : kOk V) (S0 : kCs) (O : Nat → Int64) {post : Int32 → kCs → Prop} {px : String → kCs → Prop} (x : Int32) (hM : ∀ ws n, kX l yX3_plan cX3_plan 2 (some .int) { frames := 8, cells := 6, slots := 36, locals := 131 } (frV V ws n) (cWs V) (.ref (eX V 96) :: [.int x]) S0 post px 6 36) (hE : ∀ E u, px E u → E = "java/lang/IndexOutOfBoundsException" ∨ E = "java/lang/IllegalStateException") : kW l yL_plan cL_plan 4 [(0, 9, 12, 21), (0, 9, 15, 15)] { frames := 9, cells := 6, slots := 36, locals := 152 } V (lwF V) [.ref (eX V 96), .int x, .ref (eX V 600)] (S0, O) (fun k u => (k = nI 0 ∧ ∃ r, post r u.1 ∧ u.2 = vp_updL O 0 r.toInt64) ∨ (k = nI 1 ∧ px "java/lang/IndexOutOfBoundsException" u.1) ∨ (k = nI 2 ∧ px "java/lang/IllegalStateException" u.1)) 6 36 := by
  refine kW_of (by decide +kernel) (Nat.le_of_ble_eq_true rfl) ?_
  intro p e s m args below meth c G hret hlocks htab hC hB h ls hl Q hQ
  have hl : lv_has ls 4 [(0, .ref (eX V 96)), (1, .int x), (2, .ref (eX V 600))] := hl
  have hx := G.1
  have hcd := G.2.1
  refine lv_aload_n hx hcd dL_plan_0 rfl (lv_at hl 2 rfl) ?_
  refine lv_iconst (v := nI 0) hx hcd dL_plan_1 (by decide) ?_
  refine lv_aload_n hx hcd dL_plan_2 rfl (lv_at hl 0 rfl) ?_
  refine lv_iload_n hx hcd dL_plan_3 rfl (lv_at hl 1 rfl) ?_
  refine fx_Vi (F := cWs V) (u0 := S0) (o9 := oC V O) (As := [.int x]) (rest := [.int (nI 0), .ref (eX V 600)]) (b := eX V 96) G hC hB hV h (hM _ _) mw_1130 kv_X3_plan ⟨rfl, rfl⟩ ⟨Nat.le_of_ble_eq_true rfl, Nat.le_of_ble_eq_true rfl⟩ (r_sVf hC h) rfl rfl hl.1 (Nat.le_of_ble_eq_true rfl) dL_plan_4 ⟨Nat.le_of_ble_eq_true rfl, Nat.le_of_ble_eq_true rfl⟩ (fun E ce q9 u H locs hp9 h hce hcv hcl => ?_) (fun r u H locs hp h => ?_)
  · have h : cH V s H locs (lwF V (u, O)) := h
    rcases hE E u hp9 with rfl | rfl
    · refine kc_catch (pre := []) (suf := [(0, 9, 15, 15)]) (x := (0, 9, 12, 21)) G hC htab rfl (fun z hz => absurd hz List.not_mem_nil) (by decide) (by decide) (by decide) mw_839 hce hcv hcl ?_
      refine lv_astore_n (lv' := [(3, .ref q9), (0, .ref (eX V 96)), (1, .int x), (2, .ref (eX V 600))]) hx hcd dL_plan_12 rfl hl (by decide) rfl (fun ls hl => ?_)
      refine lv_iconst (v := nI 1) hx hcd dL_plan_13 (by decide) ?_
      exact k_reti hQ G hret hlocks h (Or.inr (Or.inl ⟨rfl, hp9⟩)) (Nat.le_of_ble_eq_true rfl) (Nat.le_of_ble_eq_true rfl) dL_plan_14
    · refine kc_catch (pre := [(0, 9, 12, 21)]) (suf := []) (x := (0, 9, 15, 15)) G hC htab rfl (fun z hz => by simp only [List.mem_cons, List.not_mem_nil, or_false] at hz; rcases hz with rfl; exact ⟨by decide, _, mw_839, by decide, by decide⟩) (by decide) (by decide) (by decide) mw_783 hce hcv hcl ?_
      refine lv_astore_n (lv' := [(3, .ref q9), (0, .ref (eX V 96)), (1, .int x), (2, .ref (eX V 600))]) hx hcd dL_plan_15 rfl hl (by decide) rfl (fun ls hl => ?_)
      refine lv_iconst (v := nI 2) hx hcd dL_plan_16 (by decide) ?_
      exact k_reti hQ G hret hlocks h (Or.inr (Or.inr ⟨rfl, hp9⟩)) (Nat.le_of_ble_eq_true rfl) (Nat.le_of_ble_eq_true rfl) dL_plan_17
  · have h : cH V s H locs (lwF V (u, O)) := h
    refine lv_i2l (v := r.toInt64) hx hcd dL_plan_7 rfl ?_
    refine r_lS G hC h (r.toInt64) dL_plan_8 (fun H locs h => ?_)
    refine lv_goto (tgt := 18) hx hcd dL_plan_9 (by decide) ?_
    refine lv_iconst (v := nI 0) hx hcd dL_plan_18 (by decide) ?_
    exact k_reti hQ G hret hlocks h (Or.inl ⟨rfl, r, hp, rfl⟩) (Nat.le_of_ble_eq_true rfl) (Nat.le_of_ble_eq_true rfl) dL_plan_19
set_option maxHeartbeats 4000000 in
set_option maxRecDepth 100000 in
theorem met_L_unplan (l : Launch) (V : kEnv) (hV : kOk V) (S0 : kCs) (O : Nat → Int64) {post : Int32 → kCs → Prop} {px : String → kCs → Prop} (x : Int32) (hM : ∀ ws n, kX l yX3_unplan cX3_unplan 2 (some .int) { frames := 8, cells := 6, slots := 36, locals := 131 } (frV V ws n) (cWs V) (.ref (eX V 96) :: [.int x]) S0 post px 6 36) (hE : ∀ E u, px E u → E = "java/lang/IndexOutOfBoundsException" ∨ E = "java/lang/IllegalStateException") : kW l yL_unplan cL_unplan 4 [(0, 9, 12, 21), (0, 9, 15, 15)] { frames := 9, cells := 6, slots := 36, locals := 152 } V (lwF V) [.ref (eX V 96), .int x, .ref (eX V 600)] (S0, O) (fun k u => (k = nI 0 ∧ ∃ r, post r u.1 ∧ u.2 = vp_updL O 0 r.toInt64) ∨ (k = nI 1 ∧ px "java/lang/IndexOutOfBoundsException" u.1) ∨ (k = nI 2 ∧ px "java/lang/IllegalStateException" u.1)) 6 36 := by
  refine kW_of (by decide +kernel) (Nat.le_of_ble_eq_true rfl) ?_
  intro p e s m args below meth c G hret hlocks htab hC hB h ls hl Q hQ
  have hl : lv_has ls 4 [(0, .ref (eX V 96)), (1, .int x), (2, .ref (eX V 600))] := hl
  have hx := G.1
  have hcd := G.2.1
  refine lv_aload_n hx hcd dL_unplan_0 rfl (lv_at hl 2 rfl) ?_
  refine lv_iconst (v := nI 0) hx hcd dL_unplan_1 (by decide) ?_
  refine lv_aload_n hx hcd dL_unplan_2 rfl (lv_at hl 0 rfl) ?_
  refine lv_iload_n hx hcd dL_unplan_3 rfl (lv_at hl 1 rfl) ?_
  refine fx_Vi (F := cWs V) (u0 := S0) (o9 := oC V O) (As := [.int x]) (rest := [.int (nI 0), .ref (eX V 600)]) (b := eX V 96) G hC hB hV h (hM _ _) mw_1146 kv_X3_unplan ⟨rfl, rfl⟩ ⟨Nat.le_of_ble_eq_true rfl, Nat.le_of_ble_eq_true rfl⟩ (r_sVf hC h) rfl rfl hl.1 (Nat.le_of_ble_eq_true rfl) dL_unplan_4 ⟨Nat.le_of_ble_eq_true rfl, Nat.le_of_ble_eq_true rfl⟩ (fun E ce q9 u H locs hp9 h hce hcv hcl => ?_) (fun r u H locs hp h => ?_)
  · have h : cH V s H locs (lwF V (u, O)) := h
    rcases hE E u hp9 with rfl | rfl
    · refine kc_catch (pre := []) (suf := [(0, 9, 15, 15)]) (x := (0, 9, 12, 21)) G hC htab rfl (fun z hz => absurd hz List.not_mem_nil) (by decide) (by decide) (by decide) mw_839 hce hcv hcl ?_
      refine lv_astore_n (lv' := [(3, .ref q9), (0, .ref (eX V 96)), (1, .int x), (2, .ref (eX V 600))]) hx hcd dL_unplan_12 rfl hl (by decide) rfl (fun ls hl => ?_)
      refine lv_iconst (v := nI 1) hx hcd dL_unplan_13 (by decide) ?_
      exact k_reti hQ G hret hlocks h (Or.inr (Or.inl ⟨rfl, hp9⟩)) (Nat.le_of_ble_eq_true rfl) (Nat.le_of_ble_eq_true rfl) dL_unplan_14
    · refine kc_catch (pre := [(0, 9, 12, 21)]) (suf := []) (x := (0, 9, 15, 15)) G hC htab rfl (fun z hz => by simp only [List.mem_cons, List.not_mem_nil, or_false] at hz; rcases hz with rfl; exact ⟨by decide, _, mw_839, by decide, by decide⟩) (by decide) (by decide) (by decide) mw_783 hce hcv hcl ?_
      refine lv_astore_n (lv' := [(3, .ref q9), (0, .ref (eX V 96)), (1, .int x), (2, .ref (eX V 600))]) hx hcd dL_unplan_15 rfl hl (by decide) rfl (fun ls hl => ?_)
      refine lv_iconst (v := nI 2) hx hcd dL_unplan_16 (by decide) ?_
      exact k_reti hQ G hret hlocks h (Or.inr (Or.inr ⟨rfl, hp9⟩)) (Nat.le_of_ble_eq_true rfl) (Nat.le_of_ble_eq_true rfl) dL_unplan_17
  · have h : cH V s H locs (lwF V (u, O)) := h
    refine lv_i2l (v := r.toInt64) hx hcd dL_unplan_7 rfl ?_
    refine r_lS G hC h (r.toInt64) dL_unplan_8 (fun H locs h => ?_)
    refine lv_goto (tgt := 18) hx hcd dL_unplan_9 (by decide) ?_
    refine lv_iconst (v := nI 0) hx hcd dL_unplan_18 (by decide) ?_
    exact k_reti hQ G hret hlocks h (Or.inl ⟨rfl, r, hp, rfl⟩) (Nat.le_of_ble_eq_true rfl) (Nat.le_of_ble_eq_true rfl) dL_unplan_19
set_option maxHeartbeats 4000000 in
set_option maxRecDepth 100000 in
theorem met_L_startSprint (l : Launch) (V : kEnv) (hV : kOk V) (S0 : kCs) (O : Nat → Int64) {post : Int32 → kCs → Prop} {px : String → kCs → Prop} (x : Int32) (hM : ∀ ws n, kX l yX3_startSprint cX3_startSprint 2 (some .int) { frames := 8, cells := 6, slots := 36, locals := 131 } (frV V ws n) (cWs V) (.ref (eX V 96) :: [.int x]) S0 post px 6 36) (hE : ∀ E u, px E u → E = "java/lang/IllegalArgumentException" ∨ E = "java/lang/IllegalStateException") : kW l yL_startSprint cL_startSprint 4 [(0, 9, 12, 13), (0, 9, 15, 15)] { frames := 9, cells := 6, slots := 36, locals := 152 } V (lwF V) [.ref (eX V 96), .int x, .ref (eX V 600)] (S0, O) (fun k u => (k = nI 0 ∧ ∃ r, post r u.1 ∧ u.2 = vp_updL O 0 r.toInt64) ∨ (k = nI 1 ∧ px "java/lang/IllegalArgumentException" u.1) ∨ (k = nI 2 ∧ px "java/lang/IllegalStateException" u.1)) 6 36 := by
  refine kW_of (by decide +kernel) (Nat.le_of_ble_eq_true rfl) ?_
  intro p e s m args below meth c G hret hlocks htab hC hB h ls hl Q hQ
  have hl : lv_has ls 4 [(0, .ref (eX V 96)), (1, .int x), (2, .ref (eX V 600))] := hl
  have hx := G.1
  have hcd := G.2.1
  refine lv_aload_n hx hcd dL_startSprint_0 rfl (lv_at hl 2 rfl) ?_
  refine lv_iconst (v := nI 0) hx hcd dL_startSprint_1 (by decide) ?_
  refine lv_aload_n hx hcd dL_startSprint_2 rfl (lv_at hl 0 rfl) ?_
  refine lv_iload_n hx hcd dL_startSprint_3 rfl (lv_at hl 1 rfl) ?_
  refine fx_Vi (F := cWs V) (u0 := S0) (o9 := oC V O) (As := [.int x]) (rest := [.int (nI 0), .ref (eX V 600)]) (b := eX V 96) G hC hB hV h (hM _ _) mw_1161 kv_X3_startSprint ⟨rfl, rfl⟩ ⟨Nat.le_of_ble_eq_true rfl, Nat.le_of_ble_eq_true rfl⟩ (r_sVf hC h) rfl rfl hl.1 (Nat.le_of_ble_eq_true rfl) dL_startSprint_4 ⟨Nat.le_of_ble_eq_true rfl, Nat.le_of_ble_eq_true rfl⟩ (fun E ce q9 u H locs hp9 h hce hcv hcl => ?_) (fun r u H locs hp h => ?_)
  · have h : cH V s H locs (lwF V (u, O)) := h
    rcases hE E u hp9 with rfl | rfl
    · refine kc_catch (pre := []) (suf := [(0, 9, 15, 15)]) (x := (0, 9, 12, 13)) G hC htab rfl (fun z hz => absurd hz List.not_mem_nil) (by decide) (by decide) (by decide) mw_782 hce hcv hcl ?_
      refine lv_astore_n (lv' := [(3, .ref q9), (0, .ref (eX V 96)), (1, .int x), (2, .ref (eX V 600))]) hx hcd dL_startSprint_12 rfl hl (by decide) rfl (fun ls hl => ?_)
      refine lv_iconst (v := nI 1) hx hcd dL_startSprint_13 (by decide) ?_
      exact k_reti hQ G hret hlocks h (Or.inr (Or.inl ⟨rfl, hp9⟩)) (Nat.le_of_ble_eq_true rfl) (Nat.le_of_ble_eq_true rfl) dL_startSprint_14
    · refine kc_catch (pre := [(0, 9, 12, 13)]) (suf := []) (x := (0, 9, 15, 15)) G hC htab rfl (fun z hz => by simp only [List.mem_cons, List.not_mem_nil, or_false] at hz; rcases hz with rfl; exact ⟨by decide, _, mw_782, by decide, by decide⟩) (by decide) (by decide) (by decide) mw_783 hce hcv hcl ?_
      refine lv_astore_n (lv' := [(3, .ref q9), (0, .ref (eX V 96)), (1, .int x), (2, .ref (eX V 600))]) hx hcd dL_startSprint_15 rfl hl (by decide) rfl (fun ls hl => ?_)
      refine lv_iconst (v := nI 2) hx hcd dL_startSprint_16 (by decide) ?_
      exact k_reti hQ G hret hlocks h (Or.inr (Or.inr ⟨rfl, hp9⟩)) (Nat.le_of_ble_eq_true rfl) (Nat.le_of_ble_eq_true rfl) dL_startSprint_17
  · have h : cH V s H locs (lwF V (u, O)) := h
    refine lv_i2l (v := r.toInt64) hx hcd dL_startSprint_7 rfl ?_
    refine r_lS G hC h (r.toInt64) dL_startSprint_8 (fun H locs h => ?_)
    refine lv_goto (tgt := 18) hx hcd dL_startSprint_9 (by decide) ?_
    refine lv_iconst (v := nI 0) hx hcd dL_startSprint_18 (by decide) ?_
    exact k_reti hQ G hret hlocks h (Or.inl ⟨rfl, r, hp, rfl⟩) (Nat.le_of_ble_eq_true rfl) (Nat.le_of_ble_eq_true rfl) dL_startSprint_19
set_option maxHeartbeats 4000000 in
set_option maxRecDepth 100000 in
theorem met_L_passDay (l : Launch) (V : kEnv) (hV : kOk V) (S0 : kCs) (O : Nat → Int64) {post : Int32 → kCs → Prop} {px : String → kCs → Prop} (hM : ∀ ws n, kX l yX3_passDay cX3_passDay 1 (some .int) { frames := 7, cells := 6, slots := 36, locals := 110 } (frV V ws n) (cWs V) (.ref (eX V 96) :: []) S0 post px 6 36) (hE : ∀ E u, px E u → E = "java/lang/IllegalStateException") : kW l yL_passDay cL_passDay 3 [(0, 8, 11, 15)] { frames := 8, cells := 6, slots := 36, locals := 130 } V (lwF V) [.ref (eX V 96), .ref (eX V 600)] (S0, O) (fun k u => (k = nI 0 ∧ ∃ r, post r u.1 ∧ u.2 = vp_updL O 0 r.toInt64) ∨ (k = nI 1 ∧ px "java/lang/IllegalStateException" u.1)) 6 36 := by
  refine kW_of (by decide +kernel) (Nat.le_of_ble_eq_true rfl) ?_
  intro p e s m args below meth c G hret hlocks htab hC hB h ls hl Q hQ
  have hl : lv_has ls 3 [(0, .ref (eX V 96)), (1, .ref (eX V 600))] := hl
  have hx := G.1
  have hcd := G.2.1
  refine lv_aload_n hx hcd dL_passDay_0 rfl (lv_at hl 1 rfl) ?_
  refine lv_iconst (v := nI 0) hx hcd dL_passDay_1 (by decide) ?_
  refine lv_aload_n hx hcd dL_passDay_2 rfl (lv_at hl 0 rfl) ?_
  refine fx_Vi (F := cWs V) (u0 := S0) (o9 := oC V O) (As := []) (rest := [.int (nI 0), .ref (eX V 600)]) (b := eX V 96) G hC hB hV h (hM _ _) mw_1181 kv_X3_passDay ⟨rfl, rfl⟩ ⟨Nat.le_of_ble_eq_true rfl, Nat.le_of_ble_eq_true rfl⟩ (r_sVf hC h) rfl rfl hl.1 (Nat.le_of_ble_eq_true rfl) dL_passDay_3 ⟨Nat.le_of_ble_eq_true rfl, Nat.le_of_ble_eq_true rfl⟩ (fun E ce q9 u H locs hp9 h hce hcv hcl => ?_) (fun r u H locs hp h => ?_)
  · have h : cH V s H locs (lwF V (u, O)) := h
    rcases hE E u hp9 with rfl
    · refine kc_catch (pre := []) (suf := []) (x := (0, 8, 11, 15)) G hC htab rfl (fun z hz => absurd hz List.not_mem_nil) (by decide) (by decide) (by decide) mw_783 hce hcv hcl ?_
      refine lv_astore_n (lv' := [(2, .ref q9), (0, .ref (eX V 96)), (1, .ref (eX V 600))]) hx hcd dL_passDay_11 rfl hl (by decide) rfl (fun ls hl => ?_)
      refine lv_iconst (v := nI 1) hx hcd dL_passDay_12 (by decide) ?_
      exact k_reti hQ G hret hlocks h (Or.inr ⟨rfl, hp9⟩) (Nat.le_of_ble_eq_true rfl) (Nat.le_of_ble_eq_true rfl) dL_passDay_13
  · have h : cH V s H locs (lwF V (u, O)) := h
    refine lv_i2l (v := r.toInt64) hx hcd dL_passDay_6 rfl ?_
    refine r_lS G hC h (r.toInt64) dL_passDay_7 (fun H locs h => ?_)
    refine lv_goto (tgt := 14) hx hcd dL_passDay_8 (by decide) ?_
    refine lv_iconst (v := nI 0) hx hcd dL_passDay_14 (by decide) ?_
    exact k_reti hQ G hret hlocks h (Or.inl ⟨rfl, r, hp, rfl⟩) (Nat.le_of_ble_eq_true rfl) (Nat.le_of_ble_eq_true rfl) dL_passDay_15
set_option maxHeartbeats 4000000 in
set_option maxRecDepth 100000 in
theorem met_L_endSprint (l : Launch) (V : kEnv) (hV : kOk V) (S0 : kCs) (O : Nat → Int64) {post : Int32 → kCs → Prop} {px : String → kCs → Prop} (hM : ∀ ws n, kX l yX3_endSprint cX3_endSprint 1 (some .int) { frames := 7, cells := 6, slots := 36, locals := 110 } (frV V ws n) (cWs V) (.ref (eX V 96) :: []) S0 post px 6 36) (hE : ∀ E u, px E u → E = "java/lang/IllegalStateException") : kW l yL_endSprint cL_endSprint 3 [(0, 8, 11, 15)] { frames := 8, cells := 6, slots := 36, locals := 130 } V (lwF V) [.ref (eX V 96), .ref (eX V 600)] (S0, O) (fun k u => (k = nI 0 ∧ ∃ r, post r u.1 ∧ u.2 = vp_updL O 0 r.toInt64) ∨ (k = nI 1 ∧ px "java/lang/IllegalStateException" u.1)) 6 36 := by
  refine kW_of (by decide +kernel) (Nat.le_of_ble_eq_true rfl) ?_
  intro p e s m args below meth c G hret hlocks htab hC hB h ls hl Q hQ
  have hl : lv_has ls 3 [(0, .ref (eX V 96)), (1, .ref (eX V 600))] := hl
  have hx := G.1
  have hcd := G.2.1
  refine lv_aload_n hx hcd dL_endSprint_0 rfl (lv_at hl 1 rfl) ?_
  refine lv_iconst (v := nI 0) hx hcd dL_endSprint_1 (by decide) ?_
  refine lv_aload_n hx hcd dL_endSprint_2 rfl (lv_at hl 0 rfl) ?_
  refine fx_Vi (F := cWs V) (u0 := S0) (o9 := oC V O) (As := []) (rest := [.int (nI 0), .ref (eX V 600)]) (b := eX V 96) G hC hB hV h (hM _ _) mw_1197 kv_X3_endSprint ⟨rfl, rfl⟩ ⟨Nat.le_of_ble_eq_true rfl, Nat.le_of_ble_eq_true rfl⟩ (r_sVf hC h) rfl rfl hl.1 (Nat.le_of_ble_eq_true rfl) dL_endSprint_3 ⟨Nat.le_of_ble_eq_true rfl, Nat.le_of_ble_eq_true rfl⟩ (fun E ce q9 u H locs hp9 h hce hcv hcl => ?_) (fun r u H locs hp h => ?_)
  · have h : cH V s H locs (lwF V (u, O)) := h
    rcases hE E u hp9 with rfl
    · refine kc_catch (pre := []) (suf := []) (x := (0, 8, 11, 15)) G hC htab rfl (fun z hz => absurd hz List.not_mem_nil) (by decide) (by decide) (by decide) mw_783 hce hcv hcl ?_
      refine lv_astore_n (lv' := [(2, .ref q9), (0, .ref (eX V 96)), (1, .ref (eX V 600))]) hx hcd dL_endSprint_11 rfl hl (by decide) rfl (fun ls hl => ?_)
      refine lv_iconst (v := nI 1) hx hcd dL_endSprint_12 (by decide) ?_
      exact k_reti hQ G hret hlocks h (Or.inr ⟨rfl, hp9⟩) (Nat.le_of_ble_eq_true rfl) (Nat.le_of_ble_eq_true rfl) dL_endSprint_13
  · have h : cH V s H locs (lwF V (u, O)) := h
    refine lv_i2l (v := r.toInt64) hx hcd dL_endSprint_6 rfl ?_
    refine r_lS G hC h (r.toInt64) dL_endSprint_7 (fun H locs h => ?_)
    refine lv_goto (tgt := 14) hx hcd dL_endSprint_8 (by decide) ?_
    refine lv_iconst (v := nI 0) hx hcd dL_endSprint_14 (by decide) ?_
    exact k_reti hQ G hret hlocks h (Or.inl ⟨rfl, r, hp, rfl⟩) (Nat.le_of_ble_eq_true rfl) (Nat.le_of_ble_eq_true rfl) dL_endSprint_15
set_option maxHeartbeats 4000000 in
set_option maxRecDepth 100000 in
theorem met_L_daysPassed (l : Launch) (V : kEnv) (hV : kOk V) (S0 : kCs) (O : Nat → Int64) {post : Int32 → kCs → Prop} {px : String → kCs → Prop} (hM : ∀ ws n, kX l yX3_daysPassed cX3_daysPassed 1 (some .int) { frames := 7, cells := 6, slots := 36, locals := 110 } (frV V ws n) (cWs V) (.ref (eX V 96) :: []) S0 post px 6 36) (hE : ∀ E u, px E u → E = "java/util/NoSuchElementException") : kW l yL_daysPassed cL_daysPassed 3 [(0, 8, 11, 66)] { frames := 8, cells := 6, slots := 36, locals := 130 } V (lwF V) [.ref (eX V 96), .ref (eX V 600)] (S0, O) (fun k u => (k = nI 0 ∧ ∃ r, post r u.1 ∧ u.2 = vp_updL O 0 r.toInt64) ∨ (k = nI 1 ∧ px "java/util/NoSuchElementException" u.1)) 6 36 := by
  refine kW_of (by decide +kernel) (Nat.le_of_ble_eq_true rfl) ?_
  intro p e s m args below meth c G hret hlocks htab hC hB h ls hl Q hQ
  have hl : lv_has ls 3 [(0, .ref (eX V 96)), (1, .ref (eX V 600))] := hl
  have hx := G.1
  have hcd := G.2.1
  refine lv_aload_n hx hcd dL_daysPassed_0 rfl (lv_at hl 1 rfl) ?_
  refine lv_iconst (v := nI 0) hx hcd dL_daysPassed_1 (by decide) ?_
  refine lv_aload_n hx hcd dL_daysPassed_2 rfl (lv_at hl 0 rfl) ?_
  refine fx_Vi (F := cWs V) (u0 := S0) (o9 := oC V O) (As := []) (rest := [.int (nI 0), .ref (eX V 600)]) (b := eX V 96) G hC hB hV h (hM _ _) mw_1212 kv_X3_daysPassed ⟨rfl, rfl⟩ ⟨Nat.le_of_ble_eq_true rfl, Nat.le_of_ble_eq_true rfl⟩ (r_sVf hC h) rfl rfl hl.1 (Nat.le_of_ble_eq_true rfl) dL_daysPassed_3 ⟨Nat.le_of_ble_eq_true rfl, Nat.le_of_ble_eq_true rfl⟩ (fun E ce q9 u H locs hp9 h hce hcv hcl => ?_) (fun r u H locs hp h => ?_)
  · have h : cH V s H locs (lwF V (u, O)) := h
    rcases hE E u hp9 with rfl
    · refine kc_catch (pre := []) (suf := []) (x := (0, 8, 11, 66)) G hC htab rfl (fun z hz => absurd hz List.not_mem_nil) (by decide) (by decide) (by decide) mw_1015 hce hcv hcl ?_
      refine lv_astore_n (lv' := [(2, .ref q9), (0, .ref (eX V 96)), (1, .ref (eX V 600))]) hx hcd dL_daysPassed_11 rfl hl (by decide) rfl (fun ls hl => ?_)
      refine lv_iconst (v := nI 1) hx hcd dL_daysPassed_12 (by decide) ?_
      exact k_reti hQ G hret hlocks h (Or.inr ⟨rfl, hp9⟩) (Nat.le_of_ble_eq_true rfl) (Nat.le_of_ble_eq_true rfl) dL_daysPassed_13
  · have h : cH V s H locs (lwF V (u, O)) := h
    refine lv_i2l (v := r.toInt64) hx hcd dL_daysPassed_6 rfl ?_
    refine r_lS G hC h (r.toInt64) dL_daysPassed_7 (fun H locs h => ?_)
    refine lv_goto (tgt := 14) hx hcd dL_daysPassed_8 (by decide) ?_
    refine lv_iconst (v := nI 0) hx hcd dL_daysPassed_14 (by decide) ?_
    exact k_reti hQ G hret hlocks h (Or.inl ⟨rfl, r, hp, rfl⟩) (Nat.le_of_ble_eq_true rfl) (Nat.le_of_ble_eq_true rfl) dL_daysPassed_15
set_option maxHeartbeats 4000000 in
set_option maxRecDepth 100000 in
theorem met_L_isPlanned (l : Launch) (V : kEnv) (hV : kOk V) (S0 : kCs) (O : Nat → Int64) {post : Int32 → kCs → Prop} {px : String → kCs → Prop} (x : Int32) (hM : ∀ ws n, kX l yX3_isPlanned cX3_isPlanned 2 (some .boolean) { frames := 8, cells := 6, slots := 36, locals := 131 } (frV V ws n) (cWs V) (.ref (eX V 96) :: [.int x]) S0 post px 6 36) (hE : ∀ E u, px E u → E = "java/lang/IndexOutOfBoundsException") : kW l yL_isPlanned cL_isPlanned 4 [(0, 16, 19, 21)] { frames := 9, cells := 6, slots := 36, locals := 152 } V (lwF V) [.ref (eX V 96), .int x, .ref (eX V 600)] (S0, O) (fun k u => (k = nI 0 ∧ ∃ r, post r u.1 ∧ u.2 = vp_updL O 0 (if r = 0 then 0 else 1)) ∨ (k = nI 1 ∧ px "java/lang/IndexOutOfBoundsException" u.1)) 6 36 := by
  refine kW_of (by decide +kernel) (Nat.le_of_ble_eq_true rfl) ?_
  intro p e s m args below meth c G hret hlocks htab hC hB h ls hl Q hQ
  have hl : lv_has ls 4 [(0, .ref (eX V 96)), (1, .int x), (2, .ref (eX V 600))] := hl
  have hx := G.1
  have hcd := G.2.1
  refine lv_aload_n hx hcd dL_isPlanned_0 rfl (lv_at hl 2 rfl) ?_
  refine lv_iconst (v := nI 0) hx hcd dL_isPlanned_1 (by decide) ?_
  refine lv_aload_n hx hcd dL_isPlanned_2 rfl (lv_at hl 0 rfl) ?_
  refine lv_iload_n hx hcd dL_isPlanned_3 rfl (lv_at hl 1 rfl) ?_
  refine fx_Vi (F := cWs V) (u0 := S0) (o9 := oC V O) (As := [.int x]) (rest := [.int (nI 0), .ref (eX V 600)]) (b := eX V 96) G hC hB hV h (hM _ _) mw_1219 kv_X3_isPlanned ⟨rfl, rfl⟩ ⟨Nat.le_of_ble_eq_true rfl, Nat.le_of_ble_eq_true rfl⟩ (r_sVf hC h) rfl rfl hl.1 (Nat.le_of_ble_eq_true rfl) dL_isPlanned_4 ⟨Nat.le_of_ble_eq_true rfl, Nat.le_of_ble_eq_true rfl⟩ (fun E ce q9 u H locs hp9 h hce hcv hcl => ?_) (fun r u H locs hp h => ?_)
  · have h : cH V s H locs (lwF V (u, O)) := h
    rcases hE E u hp9 with rfl
    · refine kc_catch (pre := []) (suf := []) (x := (0, 16, 19, 21)) G hC htab rfl (fun z hz => absurd hz List.not_mem_nil) (by decide) (by decide) (by decide) mw_839 hce hcv hcl ?_
      refine lv_astore_n (lv' := [(3, .ref q9), (0, .ref (eX V 96)), (1, .int x), (2, .ref (eX V 600))]) hx hcd dL_isPlanned_19 rfl hl (by decide) rfl (fun ls hl => ?_)
      refine lv_iconst (v := nI 1) hx hcd dL_isPlanned_20 (by decide) ?_
      exact k_reti hQ G hret hlocks h (Or.inr ⟨rfl, hp9⟩) (Nat.le_of_ble_eq_true rfl) (Nat.le_of_ble_eq_true rfl) dL_isPlanned_21
  · have h : cH V s H locs (lwF V (u, O)) := h
    refine lv_if_eq (tgt := 14) hx hcd dL_isPlanned_7 (by decide) (fun c1 => ?_) (fun c1 => ?_)
    · refine lv_lconst (v := 0) hx hcd dL_isPlanned_14 (by decide) ?_
      refine r_lS G hC h 0 dL_isPlanned_15 (fun H locs h => ?_)
      refine lv_goto (tgt := 22) hx hcd dL_isPlanned_16 (by decide) ?_
      refine lv_iconst (v := nI 0) hx hcd dL_isPlanned_22 (by decide) ?_
      exact k_reti hQ G hret hlocks h (Or.inl ⟨rfl, r, hp, by rw [if_pos c1]⟩) (Nat.le_of_ble_eq_true rfl) (Nat.le_of_ble_eq_true rfl) dL_isPlanned_23
    · refine lv_lconst (v := 1) hx hcd dL_isPlanned_10 (by decide) ?_
      refine lv_goto (tgt := 15) hx hcd dL_isPlanned_11 (by decide) ?_
      refine r_lS G hC h 1 dL_isPlanned_15 (fun H locs h => ?_)
      refine lv_goto (tgt := 22) hx hcd dL_isPlanned_16 (by decide) ?_
      refine lv_iconst (v := nI 0) hx hcd dL_isPlanned_22 (by decide) ?_
      exact k_reti hQ G hret hlocks h (Or.inl ⟨rfl, r, hp, by rw [if_neg c1]⟩) (Nat.le_of_ble_eq_true rfl) (Nat.le_of_ble_eq_true rfl) dL_isPlanned_23
set_option maxHeartbeats 4000000 in
set_option maxRecDepth 100000 in
theorem met_L_scopeChange (l : Launch) (V : kEnv) (hV : kOk V) (S0 : kCs) (O : Nat → Int64) {post : Int32 → kCs → Prop} {px : String → kCs → Prop} (hM : ∀ ws n, kX l yX3_scopeChange cX3_scopeChange 1 (some .int) { frames := 7, cells := 6, slots := 36, locals := 110 } (frV V ws n) (cWs V) (.ref (eX V 96) :: []) S0 post px 6 36) (hE : ∀ E u, px E u → E = "java/util/NoSuchElementException") : kW l yL_scopeChange cL_scopeChange 3 [(0, 8, 11, 66)] { frames := 8, cells := 6, slots := 36, locals := 130 } V (lwF V) [.ref (eX V 96), .ref (eX V 600)] (S0, O) (fun k u => (k = nI 0 ∧ ∃ r, post r u.1 ∧ u.2 = vp_updL O 0 r.toInt64) ∨ (k = nI 1 ∧ px "java/util/NoSuchElementException" u.1)) 6 36 := by
  refine kW_of (by decide +kernel) (Nat.le_of_ble_eq_true rfl) ?_
  intro p e s m args below meth c G hret hlocks htab hC hB h ls hl Q hQ
  have hl : lv_has ls 3 [(0, .ref (eX V 96)), (1, .ref (eX V 600))] := hl
  have hx := G.1
  have hcd := G.2.1
  refine lv_aload_n hx hcd dL_scopeChange_0 rfl (lv_at hl 1 rfl) ?_
  refine lv_iconst (v := nI 0) hx hcd dL_scopeChange_1 (by decide) ?_
  refine lv_aload_n hx hcd dL_scopeChange_2 rfl (lv_at hl 0 rfl) ?_
  refine fx_Vi (F := cWs V) (u0 := S0) (o9 := oC V O) (As := []) (rest := [.int (nI 0), .ref (eX V 600)]) (b := eX V 96) G hC hB hV h (hM _ _) mw_1227 kv_X3_scopeChange ⟨rfl, rfl⟩ ⟨Nat.le_of_ble_eq_true rfl, Nat.le_of_ble_eq_true rfl⟩ (r_sVf hC h) rfl rfl hl.1 (Nat.le_of_ble_eq_true rfl) dL_scopeChange_3 ⟨Nat.le_of_ble_eq_true rfl, Nat.le_of_ble_eq_true rfl⟩ (fun E ce q9 u H locs hp9 h hce hcv hcl => ?_) (fun r u H locs hp h => ?_)
  · have h : cH V s H locs (lwF V (u, O)) := h
    rcases hE E u hp9 with rfl
    · refine kc_catch (pre := []) (suf := []) (x := (0, 8, 11, 66)) G hC htab rfl (fun z hz => absurd hz List.not_mem_nil) (by decide) (by decide) (by decide) mw_1015 hce hcv hcl ?_
      refine lv_astore_n (lv' := [(2, .ref q9), (0, .ref (eX V 96)), (1, .ref (eX V 600))]) hx hcd dL_scopeChange_11 rfl hl (by decide) rfl (fun ls hl => ?_)
      refine lv_iconst (v := nI 1) hx hcd dL_scopeChange_12 (by decide) ?_
      exact k_reti hQ G hret hlocks h (Or.inr ⟨rfl, hp9⟩) (Nat.le_of_ble_eq_true rfl) (Nat.le_of_ble_eq_true rfl) dL_scopeChange_13
  · have h : cH V s H locs (lwF V (u, O)) := h
    refine lv_i2l (v := r.toInt64) hx hcd dL_scopeChange_6 rfl ?_
    refine r_lS G hC h (r.toInt64) dL_scopeChange_7 (fun H locs h => ?_)
    refine lv_goto (tgt := 14) hx hcd dL_scopeChange_8 (by decide) ?_
    refine lv_iconst (v := nI 0) hx hcd dL_scopeChange_14 (by decide) ?_
    exact k_reti hQ G hret hlocks h (Or.inl ⟨rfl, r, hp, rfl⟩) (Nat.le_of_ble_eq_true rfl) (Nat.le_of_ble_eq_true rfl) dL_scopeChange_15
set_option maxHeartbeats 4000000 in
set_option maxRecDepth 100000 in
theorem met_L_burnDown (l : Launch) (V : kEnv) (hV : kOk V) (S0 : kCs) (O : Nat → Int64) {post : Int32 → kCs → Prop} {px : String → kCs → Prop} (x : Int32) (hM : ∀ ws n, kX l yX3_burnDown cX3_burnDown 2 (some .int) { frames := 7, cells := 6, slots := 36, locals := 110 } (frV V ws n) (cWs V) (.ref (eX V 96) :: [.int x]) S0 post px 6 36) (hE : ∀ E u, px E u → E = "java/util/NoSuchElementException") : kW l yL_burnDown cL_burnDown 4 [(0, 9, 12, 66)] { frames := 8, cells := 6, slots := 36, locals := 131 } V (lwF V) [.ref (eX V 96), .int x, .ref (eX V 600)] (S0, O) (fun k u => (k = nI 0 ∧ ∃ r, post r u.1 ∧ u.2 = vp_updL O 0 r.toInt64) ∨ (k = nI 1 ∧ px "java/util/NoSuchElementException" u.1)) 6 36 := by
  refine kW_of (by decide +kernel) (Nat.le_of_ble_eq_true rfl) ?_
  intro p e s m args below meth c G hret hlocks htab hC hB h ls hl Q hQ
  have hl : lv_has ls 4 [(0, .ref (eX V 96)), (1, .int x), (2, .ref (eX V 600))] := hl
  have hx := G.1
  have hcd := G.2.1
  refine lv_aload_n hx hcd dL_burnDown_0 rfl (lv_at hl 2 rfl) ?_
  refine lv_iconst (v := nI 0) hx hcd dL_burnDown_1 (by decide) ?_
  refine lv_aload_n hx hcd dL_burnDown_2 rfl (lv_at hl 0 rfl) ?_
  refine lv_iload_n hx hcd dL_burnDown_3 rfl (lv_at hl 1 rfl) ?_
  refine fx_Vi (F := cWs V) (u0 := S0) (o9 := oC V O) (As := [.int x]) (rest := [.int (nI 0), .ref (eX V 600)]) (b := eX V 96) G hC hB hV h (hM _ _) mw_1234 kv_X3_burnDown ⟨rfl, rfl⟩ ⟨Nat.le_of_ble_eq_true rfl, Nat.le_of_ble_eq_true rfl⟩ (r_sVf hC h) rfl rfl hl.1 (Nat.le_of_ble_eq_true rfl) dL_burnDown_4 ⟨Nat.le_of_ble_eq_true rfl, Nat.le_of_ble_eq_true rfl⟩ (fun E ce q9 u H locs hp9 h hce hcv hcl => ?_) (fun r u H locs hp h => ?_)
  · have h : cH V s H locs (lwF V (u, O)) := h
    rcases hE E u hp9 with rfl
    · refine kc_catch (pre := []) (suf := []) (x := (0, 9, 12, 66)) G hC htab rfl (fun z hz => absurd hz List.not_mem_nil) (by decide) (by decide) (by decide) mw_1015 hce hcv hcl ?_
      refine lv_astore_n (lv' := [(3, .ref q9), (0, .ref (eX V 96)), (1, .int x), (2, .ref (eX V 600))]) hx hcd dL_burnDown_12 rfl hl (by decide) rfl (fun ls hl => ?_)
      refine lv_iconst (v := nI 1) hx hcd dL_burnDown_13 (by decide) ?_
      exact k_reti hQ G hret hlocks h (Or.inr ⟨rfl, hp9⟩) (Nat.le_of_ble_eq_true rfl) (Nat.le_of_ble_eq_true rfl) dL_burnDown_14
  · have h : cH V s H locs (lwF V (u, O)) := h
    refine lv_i2l (v := r.toInt64) hx hcd dL_burnDown_7 rfl ?_
    refine r_lS G hC h (r.toInt64) dL_burnDown_8 (fun H locs h => ?_)
    refine lv_goto (tgt := 15) hx hcd dL_burnDown_9 (by decide) ?_
    refine lv_iconst (v := nI 0) hx hcd dL_burnDown_15 (by decide) ?_
    exact k_reti hQ G hret hlocks h (Or.inl ⟨rfl, r, hp, rfl⟩) (Nat.le_of_ble_eq_true rfl) (Nat.le_of_ble_eq_true rfl) dL_burnDown_16
set_option maxHeartbeats 4000000 in
set_option maxRecDepth 100000 in
theorem met_L_idealBurnDown (l : Launch) (V : kEnv) (hV : kOk V) (S0 : kCs) (O : Nat → UInt64) {post : UInt32 → kCs → Prop} {px : String → kCs → Prop} (x : Int32) (hM : ∀ ws n, kXf l yX3_idealBurnDown cX3_idealBurnDown 2 { frames := 7, cells := 6, slots := 36, locals := 110 } (frV V ws n) (cWs V) (.ref (eX V 96) :: [.int x]) S0 post px 6 36) (hE : ∀ E u, px E u → E = "java/util/NoSuchElementException") (hnan : ∀ r u, post r u → vf_n64 (FP.f2d r)) : kW l yL_idealBurnDown cL_idealBurnDown 4 [(0, 9, 12, 66)] { frames := 8, cells := 6, slots := 36, locals := 131 } V (ldF V) [.ref (eX V 96), .int x, .ref (eX V 601)] (S0, O) (fun k u => (k = nI 0 ∧ ∃ r, post r u.1 ∧ u.2 = vf_upd O 0 (FP.f2d r)) ∨ (k = nI 1 ∧ px "java/util/NoSuchElementException" u.1)) 6 36 := by
  refine kW_of (by decide +kernel) (Nat.le_of_ble_eq_true rfl) ?_
  intro p e s m args below meth c G hret hlocks htab hC hB h ls hl Q hQ
  have hl : lv_has ls 4 [(0, .ref (eX V 96)), (1, .int x), (2, .ref (eX V 601))] := hl
  have hx := G.1
  have hcd := G.2.1
  refine lv_aload_n hx hcd dL_idealBurnDown_0 rfl (lv_at hl 2 rfl) ?_
  refine lv_iconst (v := nI 0) hx hcd dL_idealBurnDown_1 (by decide) ?_
  refine lv_aload_n hx hcd dL_idealBurnDown_2 rfl (lv_at hl 0 rfl) ?_
  refine lv_iload_n hx hcd dL_idealBurnDown_3 rfl (lv_at hl 1 rfl) ?_
  refine fx_Vf (F := cWs V) (u0 := S0) (o9 := dC V O) (As := [.int x]) (rest := [.int (nI 0), .ref (eX V 601)]) (b := eX V 96) G hC hB hV h (hM _ _) mw_1241 kv_X3_idealBurnDown ⟨rfl, rfl⟩ ⟨Nat.le_of_ble_eq_true rfl, Nat.le_of_ble_eq_true rfl⟩ (r_sVf hC h) rfl rfl hl.1 (Nat.le_of_ble_eq_true rfl) dL_idealBurnDown_4 ⟨Nat.le_of_ble_eq_true rfl, Nat.le_of_ble_eq_true rfl⟩ (fun E ce q9 u H locs hp9 h hce hcv hcl => ?_) (fun r u H locs hp h => ?_)
  · have h : cH V s H locs (ldF V (u, O)) := h
    rcases hE E u hp9 with rfl
    · refine kc_catch (pre := []) (suf := []) (x := (0, 9, 12, 66)) G hC htab rfl (fun z hz => absurd hz List.not_mem_nil) (by decide) (by decide) (by decide) mw_1015 hce hcv hcl ?_
      refine lv_astore_n (lv' := [(3, .ref q9), (0, .ref (eX V 96)), (1, .int x), (2, .ref (eX V 601))]) hx hcd dL_idealBurnDown_12 rfl hl (by decide) rfl (fun ls hl => ?_)
      refine lv_iconst (v := nI 1) hx hcd dL_idealBurnDown_13 (by decide) ?_
      exact k_reti hQ G hret hlocks h (Or.inr ⟨rfl, hp9⟩) (Nat.le_of_ble_eq_true rfl) (Nat.le_of_ble_eq_true rfl) dL_idealBurnDown_14
  · have h : cH V s H locs (ldF V (u, O)) := h
    refine lv_f2d hx hcd dL_idealBurnDown_7 (hnan r u hp) ?_
    refine r_dS G hC h (FP.f2d r) dL_idealBurnDown_8 (fun H locs h => ?_)
    refine lv_goto (tgt := 15) hx hcd dL_idealBurnDown_9 (by decide) ?_
    refine lv_iconst (v := nI 0) hx hcd dL_idealBurnDown_15 (by decide) ?_
    exact k_reti hQ G hret hlocks h (Or.inl ⟨rfl, r, hp, rfl⟩) (Nat.le_of_ble_eq_true rfl) (Nat.le_of_ble_eq_true rfl) dL_idealBurnDown_16
set_option maxHeartbeats 4000000 in
set_option maxRecDepth 100000 in
theorem met_L_velocityOf (l : Launch) (V : kEnv) (hV : kOk V) (S0 : kCs) (O : Nat → Int64) {post : Int32 → kCs → Prop} {px : String → kCs → Prop} (x : Int32) (hM : ∀ ws n, kX l yX3_velocityOf cX3_velocityOf 2 (some .int) { frames := 7, cells := 6, slots := 36, locals := 110 } (frV V ws n) (cWs V) (.ref (eX V 96) :: [.int x]) S0 post px 6 36) (hE : ∀ E u, px E u → E = "java/lang/IndexOutOfBoundsException") : kW l yL_velocityOf cL_velocityOf 4 [(0, 9, 12, 21)] { frames := 8, cells := 6, slots := 36, locals := 131 } V (lwF V) [.ref (eX V 96), .int x, .ref (eX V 600)] (S0, O) (fun k u => (k = nI 0 ∧ ∃ r, post r u.1 ∧ u.2 = vp_updL O 0 r.toInt64) ∨ (k = nI 1 ∧ px "java/lang/IndexOutOfBoundsException" u.1)) 6 36 := by
  refine kW_of (by decide +kernel) (Nat.le_of_ble_eq_true rfl) ?_
  intro p e s m args below meth c G hret hlocks htab hC hB h ls hl Q hQ
  have hl : lv_has ls 4 [(0, .ref (eX V 96)), (1, .int x), (2, .ref (eX V 600))] := hl
  have hx := G.1
  have hcd := G.2.1
  refine lv_aload_n hx hcd dL_velocityOf_0 rfl (lv_at hl 2 rfl) ?_
  refine lv_iconst (v := nI 0) hx hcd dL_velocityOf_1 (by decide) ?_
  refine lv_aload_n hx hcd dL_velocityOf_2 rfl (lv_at hl 0 rfl) ?_
  refine lv_iload_n hx hcd dL_velocityOf_3 rfl (lv_at hl 1 rfl) ?_
  refine fx_Vi (F := cWs V) (u0 := S0) (o9 := oC V O) (As := [.int x]) (rest := [.int (nI 0), .ref (eX V 600)]) (b := eX V 96) G hC hB hV h (hM _ _) mw_1252 kv_X3_velocityOf ⟨rfl, rfl⟩ ⟨Nat.le_of_ble_eq_true rfl, Nat.le_of_ble_eq_true rfl⟩ (r_sVf hC h) rfl rfl hl.1 (Nat.le_of_ble_eq_true rfl) dL_velocityOf_4 ⟨Nat.le_of_ble_eq_true rfl, Nat.le_of_ble_eq_true rfl⟩ (fun E ce q9 u H locs hp9 h hce hcv hcl => ?_) (fun r u H locs hp h => ?_)
  · have h : cH V s H locs (lwF V (u, O)) := h
    rcases hE E u hp9 with rfl
    · refine kc_catch (pre := []) (suf := []) (x := (0, 9, 12, 21)) G hC htab rfl (fun z hz => absurd hz List.not_mem_nil) (by decide) (by decide) (by decide) mw_839 hce hcv hcl ?_
      refine lv_astore_n (lv' := [(3, .ref q9), (0, .ref (eX V 96)), (1, .int x), (2, .ref (eX V 600))]) hx hcd dL_velocityOf_12 rfl hl (by decide) rfl (fun ls hl => ?_)
      refine lv_iconst (v := nI 1) hx hcd dL_velocityOf_13 (by decide) ?_
      exact k_reti hQ G hret hlocks h (Or.inr ⟨rfl, hp9⟩) (Nat.le_of_ble_eq_true rfl) (Nat.le_of_ble_eq_true rfl) dL_velocityOf_14
  · have h : cH V s H locs (lwF V (u, O)) := h
    refine lv_i2l (v := r.toInt64) hx hcd dL_velocityOf_7 rfl ?_
    refine r_lS G hC h (r.toInt64) dL_velocityOf_8 (fun H locs h => ?_)
    refine lv_goto (tgt := 15) hx hcd dL_velocityOf_9 (by decide) ?_
    refine lv_iconst (v := nI 0) hx hcd dL_velocityOf_15 (by decide) ?_
    exact k_reti hQ G hret hlocks h (Or.inl ⟨rfl, r, hp, rfl⟩) (Nat.le_of_ble_eq_true rfl) (Nat.le_of_ble_eq_true rfl) dL_velocityOf_16
set_option maxHeartbeats 4000000 in
set_option maxRecDepth 100000 in
theorem met_L_meanVelocity (l : Launch) (V : kEnv) (hV : kOk V) (S0 : kCs) (O : Nat → UInt64) {post : UInt64 → kCs → Prop} {px : String → kCs → Prop} (hM : ∀ ws n, kXd l yX3_meanVelocity cX3_meanVelocity 1 { frames := 6, cells := 1, slots := 6, locals := 90 } (frV V ws n) (cWs V) (.ref (eX V 96) :: []) S0 post px 1 6) (hE : ∀ E u, px E u → E = "java/lang/ArithmeticException") : kW l yL_meanVelocity cL_meanVelocity 3 [(0, 7, 10, 125)] { frames := 7, cells := 1, slots := 6, locals := 110 } V (ldF V) [.ref (eX V 96), .ref (eX V 601)] (S0, O) (fun k u => (k = nI 0 ∧ ∃ r, post r u.1 ∧ u.2 = vf_upd O 0 r) ∨ (k = nI 1 ∧ px "java/lang/ArithmeticException" u.1)) 1 6 := by
  refine kW_of (by decide +kernel) (Nat.le_of_ble_eq_true rfl) ?_
  intro p e s m args below meth c G hret hlocks htab hC hB h ls hl Q hQ
  have hl : lv_has ls 3 [(0, .ref (eX V 96)), (1, .ref (eX V 601))] := hl
  have hx := G.1
  have hcd := G.2.1
  refine lv_aload_n hx hcd dL_meanVelocity_0 rfl (lv_at hl 1 rfl) ?_
  refine lv_iconst (v := nI 0) hx hcd dL_meanVelocity_1 (by decide) ?_
  refine lv_aload_n hx hcd dL_meanVelocity_2 rfl (lv_at hl 0 rfl) ?_
  refine fx_Vd (F := cWs V) (u0 := S0) (o9 := dC V O) (As := []) (rest := [.int (nI 0), .ref (eX V 601)]) (b := eX V 96) G hC hB hV h (hM _ _) mw_1277 kv_X3_meanVelocity ⟨rfl, rfl⟩ ⟨Nat.le_of_ble_eq_true rfl, Nat.le_of_ble_eq_true rfl⟩ (r_sVf hC h) rfl rfl hl.1 (Nat.le_of_ble_eq_true rfl) dL_meanVelocity_3 ⟨Nat.le_of_ble_eq_true rfl, Nat.le_of_ble_eq_true rfl⟩ (fun E ce q9 u H locs hp9 h hce hcv hcl => ?_) (fun r u H locs hp h => ?_)
  · have h : cH V s H locs (ldF V (u, O)) := h
    rcases hE E u hp9 with rfl
    · refine kc_catch (pre := []) (suf := []) (x := (0, 7, 10, 125)) G hC htab rfl (fun z hz => absurd hz List.not_mem_nil) (by decide) (by decide) (by decide) mw_1263 hce hcv hcl ?_
      refine lv_astore_n (lv' := [(2, .ref q9), (0, .ref (eX V 96)), (1, .ref (eX V 601))]) hx hcd dL_meanVelocity_10 rfl hl (by decide) rfl (fun ls hl => ?_)
      refine lv_iconst (v := nI 1) hx hcd dL_meanVelocity_11 (by decide) ?_
      exact k_reti hQ G hret hlocks h (Or.inr ⟨rfl, hp9⟩) (Nat.le_of_ble_eq_true rfl) (Nat.le_of_ble_eq_true rfl) dL_meanVelocity_12
  · have h : cH V s H locs (ldF V (u, O)) := h
    refine r_dS G hC h r dL_meanVelocity_6 (fun H locs h => ?_)
    refine lv_goto (tgt := 13) hx hcd dL_meanVelocity_7 (by decide) ?_
    refine lv_iconst (v := nI 0) hx hcd dL_meanVelocity_13 (by decide) ?_
    exact k_reti hQ G hret hlocks h (Or.inl ⟨rfl, r, hp, rfl⟩) (Nat.le_of_ble_eq_true rfl) (Nat.le_of_ble_eq_true rfl) dL_meanVelocity_14
set_option maxHeartbeats 4000000 in
set_option maxRecDepth 100000 in
theorem met_L_finishDay (l : Launch) (V : kEnv) (hV : kOk V) (S0 : kCs) (O : Nat → Int64) {post : Int32 → kCs → Prop} {px : String → kCs → Prop} (x : Int32) (hM : ∀ ws n, kX l yX3_finishDay cX3_finishDay 3 (some .int) { frames := 8, cells := 6, slots := 36, locals := 131 } (frV V ws n) (cWs V) (.ref (eX V 96) :: [.int x]) S0 post px 6 36) (hE : ∀ E u, px E u → E = "java/lang/IndexOutOfBoundsException" ∨ E = "java/util/NoSuchElementException") : kW l yL_finishDay cL_finishDay 4 [(0, 9, 12, 21), (0, 9, 15, 66)] { frames := 9, cells := 6, slots := 36, locals := 153 } V (lwF V) [.ref (eX V 96), .int x, .ref (eX V 600)] (S0, O) (fun k u => (k = nI 0 ∧ ∃ r, post r u.1 ∧ u.2 = vp_updL O 0 r.toInt64) ∨ (k = nI 1 ∧ px "java/lang/IndexOutOfBoundsException" u.1) ∨ (k = nI 2 ∧ px "java/util/NoSuchElementException" u.1)) 6 36 := by
  refine kW_of (by decide +kernel) (Nat.le_of_ble_eq_true rfl) ?_
  intro p e s m args below meth c G hret hlocks htab hC hB h ls hl Q hQ
  have hl : lv_has ls 4 [(0, .ref (eX V 96)), (1, .int x), (2, .ref (eX V 600))] := hl
  have hx := G.1
  have hcd := G.2.1
  refine lv_aload_n hx hcd dL_finishDay_0 rfl (lv_at hl 2 rfl) ?_
  refine lv_iconst (v := nI 0) hx hcd dL_finishDay_1 (by decide) ?_
  refine lv_aload_n hx hcd dL_finishDay_2 rfl (lv_at hl 0 rfl) ?_
  refine lv_iload_n hx hcd dL_finishDay_3 rfl (lv_at hl 1 rfl) ?_
  refine fx_Vi (F := cWs V) (u0 := S0) (o9 := oC V O) (As := [.int x]) (rest := [.int (nI 0), .ref (eX V 600)]) (b := eX V 96) G hC hB hV h (hM _ _) mw_1291 kv_X3_finishDay ⟨rfl, rfl⟩ ⟨Nat.le_of_ble_eq_true rfl, Nat.le_of_ble_eq_true rfl⟩ (r_sVf hC h) rfl rfl hl.1 (Nat.le_of_ble_eq_true rfl) dL_finishDay_4 ⟨Nat.le_of_ble_eq_true rfl, Nat.le_of_ble_eq_true rfl⟩ (fun E ce q9 u H locs hp9 h hce hcv hcl => ?_) (fun r u H locs hp h => ?_)
  · have h : cH V s H locs (lwF V (u, O)) := h
    rcases hE E u hp9 with rfl | rfl
    · refine kc_catch (pre := []) (suf := [(0, 9, 15, 66)]) (x := (0, 9, 12, 21)) G hC htab rfl (fun z hz => absurd hz List.not_mem_nil) (by decide) (by decide) (by decide) mw_839 hce hcv hcl ?_
      refine lv_astore_n (lv' := [(3, .ref q9), (0, .ref (eX V 96)), (1, .int x), (2, .ref (eX V 600))]) hx hcd dL_finishDay_12 rfl hl (by decide) rfl (fun ls hl => ?_)
      refine lv_iconst (v := nI 1) hx hcd dL_finishDay_13 (by decide) ?_
      exact k_reti hQ G hret hlocks h (Or.inr (Or.inl ⟨rfl, hp9⟩)) (Nat.le_of_ble_eq_true rfl) (Nat.le_of_ble_eq_true rfl) dL_finishDay_14
    · refine kc_catch (pre := [(0, 9, 12, 21)]) (suf := []) (x := (0, 9, 15, 66)) G hC htab rfl (fun z hz => by simp only [List.mem_cons, List.not_mem_nil, or_false] at hz; rcases hz with rfl; exact ⟨by decide, _, mw_839, by decide, by decide⟩) (by decide) (by decide) (by decide) mw_1015 hce hcv hcl ?_
      refine lv_astore_n (lv' := [(3, .ref q9), (0, .ref (eX V 96)), (1, .int x), (2, .ref (eX V 600))]) hx hcd dL_finishDay_15 rfl hl (by decide) rfl (fun ls hl => ?_)
      refine lv_iconst (v := nI 2) hx hcd dL_finishDay_16 (by decide) ?_
      exact k_reti hQ G hret hlocks h (Or.inr (Or.inr ⟨rfl, hp9⟩)) (Nat.le_of_ble_eq_true rfl) (Nat.le_of_ble_eq_true rfl) dL_finishDay_17
  · have h : cH V s H locs (lwF V (u, O)) := h
    refine lv_i2l (v := r.toInt64) hx hcd dL_finishDay_7 rfl ?_
    refine r_lS G hC h (r.toInt64) dL_finishDay_8 (fun H locs h => ?_)
    refine lv_goto (tgt := 18) hx hcd dL_finishDay_9 (by decide) ?_
    refine lv_iconst (v := nI 0) hx hcd dL_finishDay_18 (by decide) ?_
    exact k_reti hQ G hret hlocks h (Or.inl ⟨rfl, r, hp, rfl⟩) (Nat.le_of_ble_eq_true rfl) (Nat.le_of_ble_eq_true rfl) dL_finishDay_19
set_option maxHeartbeats 4000000 in
set_option maxRecDepth 100000 in
theorem met_L_finishDayByRecursion (l : Launch) (V : kEnv) (hV : kOk V) (S0 : kCs) (O : Nat → Int64) {post : Int32 → kCs → Prop} {px : String → kCs → Prop} (x : Int32) (hM : ∀ ws n, kX l yX3_finishDayByRecursion cX3_finishDayByRecursion 3 (some .int) { frames := 20, cells := 6, slots := 36, locals := 522 } (frV V ws n) (cWs V) (.ref (eX V 96) :: [.int x]) S0 post px 6 36) (hE : ∀ E u, px E u → E = "java/lang/IndexOutOfBoundsException" ∨ E = "java/util/NoSuchElementException") : kW l yL_finishDayByRecursion cL_finishDayByRecursion 4 [(0, 9, 12, 21), (0, 9, 15, 66)] { frames := 21, cells := 6, slots := 36, locals := 544 } V (lwF V) [.ref (eX V 96), .int x, .ref (eX V 600)] (S0, O) (fun k u => (k = nI 0 ∧ ∃ r, post r u.1 ∧ u.2 = vp_updL O 0 r.toInt64) ∨ (k = nI 1 ∧ px "java/lang/IndexOutOfBoundsException" u.1) ∨ (k = nI 2 ∧ px "java/util/NoSuchElementException" u.1)) 6 36 := by
  refine kW_of (by decide +kernel) (Nat.le_of_ble_eq_true rfl) ?_
  intro p e s m args below meth c G hret hlocks htab hC hB h ls hl Q hQ
  have hl : lv_has ls 4 [(0, .ref (eX V 96)), (1, .int x), (2, .ref (eX V 600))] := hl
  have hx := G.1
  have hcd := G.2.1
  refine lv_aload_n hx hcd dL_finishDayByRecursion_0 rfl (lv_at hl 2 rfl) ?_
  refine lv_iconst (v := nI 0) hx hcd dL_finishDayByRecursion_1 (by decide) ?_
  refine lv_aload_n hx hcd dL_finishDayByRecursion_2 rfl (lv_at hl 0 rfl) ?_
  refine lv_iload_n hx hcd dL_finishDayByRecursion_3 rfl (lv_at hl 1 rfl) ?_
  refine fx_Vi (F := cWs V) (u0 := S0) (o9 := oC V O) (As := [.int x]) (rest := [.int (nI 0), .ref (eX V 600)]) (b := eX V 96) G hC hB hV h (hM _ _) mw_1298 kv_X3_finishDayByRecursion ⟨rfl, rfl⟩ ⟨Nat.le_of_ble_eq_true rfl, Nat.le_of_ble_eq_true rfl⟩ (r_sVf hC h) rfl rfl hl.1 (Nat.le_of_ble_eq_true rfl) dL_finishDayByRecursion_4 ⟨Nat.le_of_ble_eq_true rfl, Nat.le_of_ble_eq_true rfl⟩ (fun E ce q9 u H locs hp9 h hce hcv hcl => ?_) (fun r u H locs hp h => ?_)
  · have h : cH V s H locs (lwF V (u, O)) := h
    rcases hE E u hp9 with rfl | rfl
    · refine kc_catch (pre := []) (suf := [(0, 9, 15, 66)]) (x := (0, 9, 12, 21)) G hC htab rfl (fun z hz => absurd hz List.not_mem_nil) (by decide) (by decide) (by decide) mw_839 hce hcv hcl ?_
      refine lv_astore_n (lv' := [(3, .ref q9), (0, .ref (eX V 96)), (1, .int x), (2, .ref (eX V 600))]) hx hcd dL_finishDayByRecursion_12 rfl hl (by decide) rfl (fun ls hl => ?_)
      refine lv_iconst (v := nI 1) hx hcd dL_finishDayByRecursion_13 (by decide) ?_
      exact k_reti hQ G hret hlocks h (Or.inr (Or.inl ⟨rfl, hp9⟩)) (Nat.le_of_ble_eq_true rfl) (Nat.le_of_ble_eq_true rfl) dL_finishDayByRecursion_14
    · refine kc_catch (pre := [(0, 9, 12, 21)]) (suf := []) (x := (0, 9, 15, 66)) G hC htab rfl (fun z hz => by simp only [List.mem_cons, List.not_mem_nil, or_false] at hz; rcases hz with rfl; exact ⟨by decide, _, mw_839, by decide, by decide⟩) (by decide) (by decide) (by decide) mw_1015 hce hcv hcl ?_
      refine lv_astore_n (lv' := [(3, .ref q9), (0, .ref (eX V 96)), (1, .int x), (2, .ref (eX V 600))]) hx hcd dL_finishDayByRecursion_15 rfl hl (by decide) rfl (fun ls hl => ?_)
      refine lv_iconst (v := nI 2) hx hcd dL_finishDayByRecursion_16 (by decide) ?_
      exact k_reti hQ G hret hlocks h (Or.inr (Or.inr ⟨rfl, hp9⟩)) (Nat.le_of_ble_eq_true rfl) (Nat.le_of_ble_eq_true rfl) dL_finishDayByRecursion_17
  · have h : cH V s H locs (lwF V (u, O)) := h
    refine lv_i2l (v := r.toInt64) hx hcd dL_finishDayByRecursion_7 rfl ?_
    refine r_lS G hC h (r.toInt64) dL_finishDayByRecursion_8 (fun H locs h => ?_)
    refine lv_goto (tgt := 18) hx hcd dL_finishDayByRecursion_9 (by decide) ?_
    refine lv_iconst (v := nI 0) hx hcd dL_finishDayByRecursion_18 (by decide) ?_
    exact k_reti hQ G hret hlocks h (Or.inl ⟨rfl, r, hp, rfl⟩) (Nat.le_of_ble_eq_true rfl) (Nat.le_of_ble_eq_true rfl) dL_finishDayByRecursion_19
set_option maxHeartbeats 4000000 in
set_option maxRecDepth 100000 in
theorem met_L_writeStory (l : Launch) (V : kEnv) (hV : kOk V) (S0 : kCs) (O : Nat → Int64) {post : Int32 → kCs → Prop} {px : String → kCs → Prop} (x : Int32) (hM : ∀ ws n, kX l yX3_writeStory cX3_writeStory 3 (some .int) { frames := 8, cells := 12, slots := 1300, locals := 156 } (frV V ws n) (cWs V) (.ref (eX V 96) :: [.int x]) S0 post px 12 1300) (hE : ∀ E u, px E u → E = "java/lang/IndexOutOfBoundsException") : kW l yL_writeStory cL_writeStory 4 [(0, 9, 12, 21)] { frames := 9, cells := 12, slots := 1300, locals := 178 } V (lwF V) [.ref (eX V 96), .int x, .ref (eX V 600)] (S0, O) (fun k u => (k = nI 0 ∧ ∃ r, post r u.1 ∧ u.2 = vp_updL O 0 r.toInt64) ∨ (k = nI 1 ∧ px "java/lang/IndexOutOfBoundsException" u.1)) 12 1300 := by
  refine kW_of (by decide +kernel) (Nat.le_of_ble_eq_true rfl) ?_
  intro p e s m args below meth c G hret hlocks htab hC hB h ls hl Q hQ
  have hl : lv_has ls 4 [(0, .ref (eX V 96)), (1, .int x), (2, .ref (eX V 600))] := hl
  have hx := G.1
  have hcd := G.2.1
  refine lv_aload_n hx hcd dL_writeStory_0 rfl (lv_at hl 2 rfl) ?_
  refine lv_iconst (v := nI 0) hx hcd dL_writeStory_1 (by decide) ?_
  refine lv_aload_n hx hcd dL_writeStory_2 rfl (lv_at hl 0 rfl) ?_
  refine lv_iload_n hx hcd dL_writeStory_3 rfl (lv_at hl 1 rfl) ?_
  refine fx_Vi (F := cWs V) (u0 := S0) (o9 := oC V O) (As := [.int x]) (rest := [.int (nI 0), .ref (eX V 600)]) (b := eX V 96) G hC hB hV h (hM _ _) mw_1305 kv_X3_writeStory ⟨rfl, rfl⟩ ⟨Nat.le_of_ble_eq_true rfl, Nat.le_of_ble_eq_true rfl⟩ (r_sVf hC h) rfl rfl hl.1 (Nat.le_of_ble_eq_true rfl) dL_writeStory_4 ⟨Nat.le_of_ble_eq_true rfl, Nat.le_of_ble_eq_true rfl⟩ (fun E ce q9 u H locs hp9 h hce hcv hcl => ?_) (fun r u H locs hp h => ?_)
  · have h : cH V s H locs (lwF V (u, O)) := h
    rcases hE E u hp9 with rfl
    · refine kc_catch (pre := []) (suf := []) (x := (0, 9, 12, 21)) G hC htab rfl (fun z hz => absurd hz List.not_mem_nil) (by decide) (by decide) (by decide) mw_839 hce hcv hcl ?_
      refine lv_astore_n (lv' := [(3, .ref q9), (0, .ref (eX V 96)), (1, .int x), (2, .ref (eX V 600))]) hx hcd dL_writeStory_12 rfl hl (by decide) rfl (fun ls hl => ?_)
      refine lv_iconst (v := nI 1) hx hcd dL_writeStory_13 (by decide) ?_
      exact k_reti hQ G hret hlocks h (Or.inr ⟨rfl, hp9⟩) (Nat.le_of_ble_eq_true rfl) (Nat.le_of_ble_eq_true rfl) dL_writeStory_14
  · have h : cH V s H locs (lwF V (u, O)) := h
    refine lv_i2l (v := r.toInt64) hx hcd dL_writeStory_7 rfl ?_
    refine r_lS G hC h (r.toInt64) dL_writeStory_8 (fun H locs h => ?_)
    refine lv_goto (tgt := 15) hx hcd dL_writeStory_9 (by decide) ?_
    refine lv_iconst (v := nI 0) hx hcd dL_writeStory_15 (by decide) ?_
    exact k_reti hQ G hret hlocks h (Or.inl ⟨rfl, r, hp, rfl⟩) (Nat.le_of_ble_eq_true rfl) (Nat.le_of_ble_eq_true rfl) dL_writeStory_16
set_option maxHeartbeats 4000000 in
set_option maxRecDepth 100000 in
theorem met_L_lineAt (l : Launch) (V : kEnv) (hV : kOk V) (S0 : kCs) (O : Nat → Int64) {post : Int32 → kCs → Prop} {px : String → kCs → Prop} (x : Int32) (hM : ∀ ws n, kX l yX3_lineAt cX3_lineAt 2 (some .char) { frames := 7, cells := 6, slots := 36, locals := 110 } (frV V ws n) (cWs V) (.ref (eX V 96) :: [.int x]) S0 post px 6 36) (hE : ∀ E u, px E u → E = "java/lang/IndexOutOfBoundsException") : kW l yL_lineAt cL_lineAt 4 [(0, 9, 12, 21)] { frames := 8, cells := 6, slots := 36, locals := 131 } V (lwF V) [.ref (eX V 96), .int x, .ref (eX V 600)] (S0, O) (fun k u => (k = nI 0 ∧ ∃ r, post r u.1 ∧ u.2 = vp_updL O 0 r.toInt64) ∨ (k = nI 1 ∧ px "java/lang/IndexOutOfBoundsException" u.1)) 6 36 := by
  refine kW_of (by decide +kernel) (Nat.le_of_ble_eq_true rfl) ?_
  intro p e s m args below meth c G hret hlocks htab hC hB h ls hl Q hQ
  have hl : lv_has ls 4 [(0, .ref (eX V 96)), (1, .int x), (2, .ref (eX V 600))] := hl
  have hx := G.1
  have hcd := G.2.1
  refine lv_aload_n hx hcd dL_lineAt_0 rfl (lv_at hl 2 rfl) ?_
  refine lv_iconst (v := nI 0) hx hcd dL_lineAt_1 (by decide) ?_
  refine lv_aload_n hx hcd dL_lineAt_2 rfl (lv_at hl 0 rfl) ?_
  refine lv_iload_n hx hcd dL_lineAt_3 rfl (lv_at hl 1 rfl) ?_
  refine fx_Vi (F := cWs V) (u0 := S0) (o9 := oC V O) (As := [.int x]) (rest := [.int (nI 0), .ref (eX V 600)]) (b := eX V 96) G hC hB hV h (hM _ _) mw_1312 kv_X3_lineAt ⟨rfl, rfl⟩ ⟨Nat.le_of_ble_eq_true rfl, Nat.le_of_ble_eq_true rfl⟩ (r_sVf hC h) rfl rfl hl.1 (Nat.le_of_ble_eq_true rfl) dL_lineAt_4 ⟨Nat.le_of_ble_eq_true rfl, Nat.le_of_ble_eq_true rfl⟩ (fun E ce q9 u H locs hp9 h hce hcv hcl => ?_) (fun r u H locs hp h => ?_)
  · have h : cH V s H locs (lwF V (u, O)) := h
    rcases hE E u hp9 with rfl
    · refine kc_catch (pre := []) (suf := []) (x := (0, 9, 12, 21)) G hC htab rfl (fun z hz => absurd hz List.not_mem_nil) (by decide) (by decide) (by decide) mw_839 hce hcv hcl ?_
      refine lv_astore_n (lv' := [(3, .ref q9), (0, .ref (eX V 96)), (1, .int x), (2, .ref (eX V 600))]) hx hcd dL_lineAt_12 rfl hl (by decide) rfl (fun ls hl => ?_)
      refine lv_iconst (v := nI 1) hx hcd dL_lineAt_13 (by decide) ?_
      exact k_reti hQ G hret hlocks h (Or.inr ⟨rfl, hp9⟩) (Nat.le_of_ble_eq_true rfl) (Nat.le_of_ble_eq_true rfl) dL_lineAt_14
  · have h : cH V s H locs (lwF V (u, O)) := h
    refine lv_i2l (v := r.toInt64) hx hcd dL_lineAt_7 rfl ?_
    refine r_lS G hC h (r.toInt64) dL_lineAt_8 (fun H locs h => ?_)
    refine lv_goto (tgt := 15) hx hcd dL_lineAt_9 (by decide) ?_
    refine lv_iconst (v := nI 0) hx hcd dL_lineAt_15 (by decide) ?_
    exact k_reti hQ G hret hlocks h (Or.inl ⟨rfl, r, hp, rfl⟩) (Nat.le_of_ble_eq_true rfl) (Nat.le_of_ble_eq_true rfl) dL_lineAt_16
set_option maxHeartbeats 4000000 in
set_option maxRecDepth 100000 in
theorem met_L_type (l : Launch) (V : kEnv) (hV : kOk V) (S0 : kCs) (O : Nat → Int64) {post : Int32 → kCs → Prop} {px : String → kCs → Prop} (x : Int32) (hM : ∀ ws n, kX l yX3_type cX3_type 2 (some .int) { frames := 7, cells := 4, slots := 200, locals := 175 } (frV V ws n) (cWs V) (.ref (eX V 96) :: [.int x]) S0 post px 4 200) (hE : ∀ E u, px E u → E = "java/lang/IllegalArgumentException" ∨ E = "java/lang/IllegalStateException") : kW l yL_type cL_type 4 [(0, 9, 12, 13), (0, 9, 15, 15)] { frames := 8, cells := 4, slots := 200, locals := 196 } V (lwF V) [.ref (eX V 96), .int x, .ref (eX V 600)] (S0, O) (fun k u => (k = nI 0 ∧ ∃ r, post r u.1 ∧ u.2 = vp_updL O 0 r.toInt64) ∨ (k = nI 1 ∧ px "java/lang/IllegalArgumentException" u.1) ∨ (k = nI 2 ∧ px "java/lang/IllegalStateException" u.1)) 4 200 := by
  refine kW_of (by decide +kernel) (Nat.le_of_ble_eq_true rfl) ?_
  intro p e s m args below meth c G hret hlocks htab hC hB h ls hl Q hQ
  have hl : lv_has ls 4 [(0, .ref (eX V 96)), (1, .int x), (2, .ref (eX V 600))] := hl
  have hx := G.1
  have hcd := G.2.1
  refine lv_aload_n hx hcd dL_type_0 rfl (lv_at hl 2 rfl) ?_
  refine lv_iconst (v := nI 0) hx hcd dL_type_1 (by decide) ?_
  refine lv_aload_n hx hcd dL_type_2 rfl (lv_at hl 0 rfl) ?_
  refine lv_iload_n hx hcd dL_type_3 rfl (lv_at hl 1 rfl) ?_
  refine fx_Vi (F := cWs V) (u0 := S0) (o9 := oC V O) (As := [.int x]) (rest := [.int (nI 0), .ref (eX V 600)]) (b := eX V 96) G hC hB hV h (hM _ _) mw_1329 kv_X3_type ⟨rfl, rfl⟩ ⟨Nat.le_of_ble_eq_true rfl, Nat.le_of_ble_eq_true rfl⟩ (r_sVf hC h) rfl rfl hl.1 (Nat.le_of_ble_eq_true rfl) dL_type_4 ⟨Nat.le_of_ble_eq_true rfl, Nat.le_of_ble_eq_true rfl⟩ (fun E ce q9 u H locs hp9 h hce hcv hcl => ?_) (fun r u H locs hp h => ?_)
  · have h : cH V s H locs (lwF V (u, O)) := h
    rcases hE E u hp9 with rfl | rfl
    · refine kc_catch (pre := []) (suf := [(0, 9, 15, 15)]) (x := (0, 9, 12, 13)) G hC htab rfl (fun z hz => absurd hz List.not_mem_nil) (by decide) (by decide) (by decide) mw_782 hce hcv hcl ?_
      refine lv_astore_n (lv' := [(3, .ref q9), (0, .ref (eX V 96)), (1, .int x), (2, .ref (eX V 600))]) hx hcd dL_type_12 rfl hl (by decide) rfl (fun ls hl => ?_)
      refine lv_iconst (v := nI 1) hx hcd dL_type_13 (by decide) ?_
      exact k_reti hQ G hret hlocks h (Or.inr (Or.inl ⟨rfl, hp9⟩)) (Nat.le_of_ble_eq_true rfl) (Nat.le_of_ble_eq_true rfl) dL_type_14
    · refine kc_catch (pre := [(0, 9, 12, 13)]) (suf := []) (x := (0, 9, 15, 15)) G hC htab rfl (fun z hz => by simp only [List.mem_cons, List.not_mem_nil, or_false] at hz; rcases hz with rfl; exact ⟨by decide, _, mw_782, by decide, by decide⟩) (by decide) (by decide) (by decide) mw_783 hce hcv hcl ?_
      refine lv_astore_n (lv' := [(3, .ref q9), (0, .ref (eX V 96)), (1, .int x), (2, .ref (eX V 600))]) hx hcd dL_type_15 rfl hl (by decide) rfl (fun ls hl => ?_)
      refine lv_iconst (v := nI 2) hx hcd dL_type_16 (by decide) ?_
      exact k_reti hQ G hret hlocks h (Or.inr (Or.inr ⟨rfl, hp9⟩)) (Nat.le_of_ble_eq_true rfl) (Nat.le_of_ble_eq_true rfl) dL_type_17
  · have h : cH V s H locs (lwF V (u, O)) := h
    refine lv_i2l (v := r.toInt64) hx hcd dL_type_7 rfl ?_
    refine r_lS G hC h (r.toInt64) dL_type_8 (fun H locs h => ?_)
    refine lv_goto (tgt := 18) hx hcd dL_type_9 (by decide) ?_
    refine lv_iconst (v := nI 0) hx hcd dL_type_18 (by decide) ?_
    exact k_reti hQ G hret hlocks h (Or.inl ⟨rfl, r, hp, rfl⟩) (Nat.le_of_ble_eq_true rfl) (Nat.le_of_ble_eq_true rfl) dL_type_19
set_option maxHeartbeats 4000000 in
set_option maxRecDepth 100000 in
theorem met_L_execute (l : Launch) (V : kEnv) (hV : kOk V) (S0 : kCs) (O : Nat → Int64) {post : Int32 → kCs → Prop} {px : String → kCs → Prop} (hM : ∀ ws n, kX l yX3_execute cX3_execute 3 (some .int) { frames := 10, cells := 4, slots := 200, locals := 224 } (frV V ws n) (cWs V) (.ref (eX V 96) :: []) S0 post px 4 200) (hE : ∀ E u, px E u → E = "java/lang/IllegalArgumentException" ∨ E = "java/lang/IllegalStateException") : kW l yL_execute cL_execute 3 [(0, 8, 11, 13), (0, 8, 14, 15)] { frames := 11, cells := 4, slots := 200, locals := 246 } V (lwF V) [.ref (eX V 96), .ref (eX V 600)] (S0, O) (fun k u => (k = nI 0 ∧ ∃ r, post r u.1 ∧ u.2 = vp_updL O 0 r.toInt64) ∨ (k = nI 1 ∧ px "java/lang/IllegalArgumentException" u.1) ∨ (k = nI 2 ∧ px "java/lang/IllegalStateException" u.1)) 4 200 := by
  refine kW_of (by decide +kernel) (Nat.le_of_ble_eq_true rfl) ?_
  intro p e s m args below meth c G hret hlocks htab hC hB h ls hl Q hQ
  have hl : lv_has ls 3 [(0, .ref (eX V 96)), (1, .ref (eX V 600))] := hl
  have hx := G.1
  have hcd := G.2.1
  refine lv_aload_n hx hcd dL_execute_0 rfl (lv_at hl 1 rfl) ?_
  refine lv_iconst (v := nI 0) hx hcd dL_execute_1 (by decide) ?_
  refine lv_aload_n hx hcd dL_execute_2 rfl (lv_at hl 0 rfl) ?_
  refine fx_Vi (F := cWs V) (u0 := S0) (o9 := oC V O) (As := []) (rest := [.int (nI 0), .ref (eX V 600)]) (b := eX V 96) G hC hB hV h (hM _ _) mw_1346 kv_X3_execute ⟨rfl, rfl⟩ ⟨Nat.le_of_ble_eq_true rfl, Nat.le_of_ble_eq_true rfl⟩ (r_sVf hC h) rfl rfl hl.1 (Nat.le_of_ble_eq_true rfl) dL_execute_3 ⟨Nat.le_of_ble_eq_true rfl, Nat.le_of_ble_eq_true rfl⟩ (fun E ce q9 u H locs hp9 h hce hcv hcl => ?_) (fun r u H locs hp h => ?_)
  · have h : cH V s H locs (lwF V (u, O)) := h
    rcases hE E u hp9 with rfl | rfl
    · refine kc_catch (pre := []) (suf := [(0, 8, 14, 15)]) (x := (0, 8, 11, 13)) G hC htab rfl (fun z hz => absurd hz List.not_mem_nil) (by decide) (by decide) (by decide) mw_782 hce hcv hcl ?_
      refine lv_astore_n (lv' := [(2, .ref q9), (0, .ref (eX V 96)), (1, .ref (eX V 600))]) hx hcd dL_execute_11 rfl hl (by decide) rfl (fun ls hl => ?_)
      refine lv_iconst (v := nI 1) hx hcd dL_execute_12 (by decide) ?_
      exact k_reti hQ G hret hlocks h (Or.inr (Or.inl ⟨rfl, hp9⟩)) (Nat.le_of_ble_eq_true rfl) (Nat.le_of_ble_eq_true rfl) dL_execute_13
    · refine kc_catch (pre := [(0, 8, 11, 13)]) (suf := []) (x := (0, 8, 14, 15)) G hC htab rfl (fun z hz => by simp only [List.mem_cons, List.not_mem_nil, or_false] at hz; rcases hz with rfl; exact ⟨by decide, _, mw_782, by decide, by decide⟩) (by decide) (by decide) (by decide) mw_783 hce hcv hcl ?_
      refine lv_astore_n (lv' := [(2, .ref q9), (0, .ref (eX V 96)), (1, .ref (eX V 600))]) hx hcd dL_execute_14 rfl hl (by decide) rfl (fun ls hl => ?_)
      refine lv_iconst (v := nI 2) hx hcd dL_execute_15 (by decide) ?_
      exact k_reti hQ G hret hlocks h (Or.inr (Or.inr ⟨rfl, hp9⟩)) (Nat.le_of_ble_eq_true rfl) (Nat.le_of_ble_eq_true rfl) dL_execute_16
  · have h : cH V s H locs (lwF V (u, O)) := h
    refine lv_i2l (v := r.toInt64) hx hcd dL_execute_6 rfl ?_
    refine r_lS G hC h (r.toInt64) dL_execute_7 (fun H locs h => ?_)
    refine lv_goto (tgt := 17) hx hcd dL_execute_8 (by decide) ?_
    refine lv_iconst (v := nI 0) hx hcd dL_execute_17 (by decide) ?_
    exact k_reti hQ G hret hlocks h (Or.inl ⟨rfl, r, hp, rfl⟩) (Nat.le_of_ble_eq_true rfl) (Nat.le_of_ble_eq_true rfl) dL_execute_18
set_option maxHeartbeats 4000000 in
set_option maxRecDepth 100000 in
theorem met_L_errorPosition (l : Launch) (V : kEnv) (hV : kOk V) (S0 : kCs) (O : Nat → Int64) {post : Int32 → kCs → Prop} {px : String → kCs → Prop} (hM : ∀ ws n, kX l yX3_errorPosition cX3_errorPosition 1 (some .int) { frames := 7, cells := 6, slots := 36, locals := 110 } (frV V ws n) (cWs V) (.ref (eX V 96) :: []) S0 post px 6 36) (hE : ∀ E u, px E u → E = "java/util/NoSuchElementException") : kW l yL_errorPosition cL_errorPosition 3 [(0, 8, 11, 66)] { frames := 8, cells := 6, slots := 36, locals := 130 } V (lwF V) [.ref (eX V 96), .ref (eX V 600)] (S0, O) (fun k u => (k = nI 0 ∧ ∃ r, post r u.1 ∧ u.2 = vp_updL O 0 r.toInt64) ∨ (k = nI 1 ∧ px "java/util/NoSuchElementException" u.1)) 6 36 := by
  refine kW_of (by decide +kernel) (Nat.le_of_ble_eq_true rfl) ?_
  intro p e s m args below meth c G hret hlocks htab hC hB h ls hl Q hQ
  have hl : lv_has ls 3 [(0, .ref (eX V 96)), (1, .ref (eX V 600))] := hl
  have hx := G.1
  have hcd := G.2.1
  refine lv_aload_n hx hcd dL_errorPosition_0 rfl (lv_at hl 1 rfl) ?_
  refine lv_iconst (v := nI 0) hx hcd dL_errorPosition_1 (by decide) ?_
  refine lv_aload_n hx hcd dL_errorPosition_2 rfl (lv_at hl 0 rfl) ?_
  refine fx_Vi (F := cWs V) (u0 := S0) (o9 := oC V O) (As := []) (rest := [.int (nI 0), .ref (eX V 600)]) (b := eX V 96) G hC hB hV h (hM _ _) mw_1433 kv_X3_errorPosition ⟨rfl, rfl⟩ ⟨Nat.le_of_ble_eq_true rfl, Nat.le_of_ble_eq_true rfl⟩ (r_sVf hC h) rfl rfl hl.1 (Nat.le_of_ble_eq_true rfl) dL_errorPosition_3 ⟨Nat.le_of_ble_eq_true rfl, Nat.le_of_ble_eq_true rfl⟩ (fun E ce q9 u H locs hp9 h hce hcv hcl => ?_) (fun r u H locs hp h => ?_)
  · have h : cH V s H locs (lwF V (u, O)) := h
    rcases hE E u hp9 with rfl
    · refine kc_catch (pre := []) (suf := []) (x := (0, 8, 11, 66)) G hC htab rfl (fun z hz => absurd hz List.not_mem_nil) (by decide) (by decide) (by decide) mw_1015 hce hcv hcl ?_
      refine lv_astore_n (lv' := [(2, .ref q9), (0, .ref (eX V 96)), (1, .ref (eX V 600))]) hx hcd dL_errorPosition_11 rfl hl (by decide) rfl (fun ls hl => ?_)
      refine lv_iconst (v := nI 1) hx hcd dL_errorPosition_12 (by decide) ?_
      exact k_reti hQ G hret hlocks h (Or.inr ⟨rfl, hp9⟩) (Nat.le_of_ble_eq_true rfl) (Nat.le_of_ble_eq_true rfl) dL_errorPosition_13
  · have h : cH V s H locs (lwF V (u, O)) := h
    refine lv_i2l (v := r.toInt64) hx hcd dL_errorPosition_6 rfl ?_
    refine r_lS G hC h (r.toInt64) dL_errorPosition_7 (fun H locs h => ?_)
    refine lv_goto (tgt := 14) hx hcd dL_errorPosition_8 (by decide) ?_
    refine lv_iconst (v := nI 0) hx hcd dL_errorPosition_14 (by decide) ?_
    exact k_reti hQ G hret hlocks h (Or.inl ⟨rfl, r, hp, rfl⟩) (Nat.le_of_ble_eq_true rfl) (Nat.le_of_ble_eq_true rfl) dL_errorPosition_15
set_option maxHeartbeats 4000000 in
set_option maxRecDepth 100000 in
theorem met_L_failedCommand (l : Launch) (V : kEnv) (hV : kOk V) (S0 : kCs) (O : Nat → Int64) {post : Int32 → kCs → Prop} {px : String → kCs → Prop} (hM : ∀ ws n, kX l yX3_failedCommand cX3_failedCommand 1 (some .int) { frames := 7, cells := 6, slots := 36, locals := 110 } (frV V ws n) (cWs V) (.ref (eX V 96) :: []) S0 post px 6 36) (hE : ∀ E u, px E u → E = "java/util/NoSuchElementException") : kW l yL_failedCommand cL_failedCommand 3 [(0, 8, 11, 66)] { frames := 8, cells := 6, slots := 36, locals := 130 } V (lwF V) [.ref (eX V 96), .ref (eX V 600)] (S0, O) (fun k u => (k = nI 0 ∧ ∃ r, post r u.1 ∧ u.2 = vp_updL O 0 r.toInt64) ∨ (k = nI 1 ∧ px "java/util/NoSuchElementException" u.1)) 6 36 := by
  refine kW_of (by decide +kernel) (Nat.le_of_ble_eq_true rfl) ?_
  intro p e s m args below meth c G hret hlocks htab hC hB h ls hl Q hQ
  have hl : lv_has ls 3 [(0, .ref (eX V 96)), (1, .ref (eX V 600))] := hl
  have hx := G.1
  have hcd := G.2.1
  refine lv_aload_n hx hcd dL_failedCommand_0 rfl (lv_at hl 1 rfl) ?_
  refine lv_iconst (v := nI 0) hx hcd dL_failedCommand_1 (by decide) ?_
  refine lv_aload_n hx hcd dL_failedCommand_2 rfl (lv_at hl 0 rfl) ?_
  refine fx_Vi (F := cWs V) (u0 := S0) (o9 := oC V O) (As := []) (rest := [.int (nI 0), .ref (eX V 600)]) (b := eX V 96) G hC hB hV h (hM _ _) mw_1440 kv_X3_failedCommand ⟨rfl, rfl⟩ ⟨Nat.le_of_ble_eq_true rfl, Nat.le_of_ble_eq_true rfl⟩ (r_sVf hC h) rfl rfl hl.1 (Nat.le_of_ble_eq_true rfl) dL_failedCommand_3 ⟨Nat.le_of_ble_eq_true rfl, Nat.le_of_ble_eq_true rfl⟩ (fun E ce q9 u H locs hp9 h hce hcv hcl => ?_) (fun r u H locs hp h => ?_)
  · have h : cH V s H locs (lwF V (u, O)) := h
    rcases hE E u hp9 with rfl
    · refine kc_catch (pre := []) (suf := []) (x := (0, 8, 11, 66)) G hC htab rfl (fun z hz => absurd hz List.not_mem_nil) (by decide) (by decide) (by decide) mw_1015 hce hcv hcl ?_
      refine lv_astore_n (lv' := [(2, .ref q9), (0, .ref (eX V 96)), (1, .ref (eX V 600))]) hx hcd dL_failedCommand_11 rfl hl (by decide) rfl (fun ls hl => ?_)
      refine lv_iconst (v := nI 1) hx hcd dL_failedCommand_12 (by decide) ?_
      exact k_reti hQ G hret hlocks h (Or.inr ⟨rfl, hp9⟩) (Nat.le_of_ble_eq_true rfl) (Nat.le_of_ble_eq_true rfl) dL_failedCommand_13
  · have h : cH V s H locs (lwF V (u, O)) := h
    refine lv_i2l (v := r.toInt64) hx hcd dL_failedCommand_6 rfl ?_
    refine r_lS G hC h (r.toInt64) dL_failedCommand_7 (fun H locs h => ?_)
    refine lv_goto (tgt := 14) hx hcd dL_failedCommand_8 (by decide) ?_
    refine lv_iconst (v := nI 0) hx hcd dL_failedCommand_14 (by decide) ?_
    exact k_reti hQ G hret hlocks h (Or.inl ⟨rfl, r, hp, rfl⟩) (Nat.le_of_ble_eq_true rfl) (Nat.le_of_ble_eq_true rfl) dL_failedCommand_15
set_option maxHeartbeats 4000000 in
set_option maxRecDepth 100000 in
theorem met_L_undo (l : Launch) (V : kEnv) (hV : kOk V) (S0 : kCs) (O : Nat → Int64) {post : Int32 → kCs → Prop} {px : String → kCs → Prop} (hM : ∀ ws n, kX l yX3_undo cX3_undo 1 (some .int) { frames := 7, cells := 6, slots := 36, locals := 110 } (frV V ws n) (cWs V) (.ref (eX V 96) :: []) S0 post px 6 36) (hE : ∀ E u, px E u → E = "java/lang/IllegalStateException") : kW l yL_undo cL_undo 3 [(0, 8, 11, 15)] { frames := 8, cells := 6, slots := 36, locals := 130 } V (lwF V) [.ref (eX V 96), .ref (eX V 600)] (S0, O) (fun k u => (k = nI 0 ∧ ∃ r, post r u.1 ∧ u.2 = vp_updL O 0 r.toInt64) ∨ (k = nI 1 ∧ px "java/lang/IllegalStateException" u.1)) 6 36 := by
  refine kW_of (by decide +kernel) (Nat.le_of_ble_eq_true rfl) ?_
  intro p e s m args below meth c G hret hlocks htab hC hB h ls hl Q hQ
  have hl : lv_has ls 3 [(0, .ref (eX V 96)), (1, .ref (eX V 600))] := hl
  have hx := G.1
  have hcd := G.2.1
  refine lv_aload_n hx hcd dL_undo_0 rfl (lv_at hl 1 rfl) ?_
  refine lv_iconst (v := nI 0) hx hcd dL_undo_1 (by decide) ?_
  refine lv_aload_n hx hcd dL_undo_2 rfl (lv_at hl 0 rfl) ?_
  refine fx_Vi (F := cWs V) (u0 := S0) (o9 := oC V O) (As := []) (rest := [.int (nI 0), .ref (eX V 600)]) (b := eX V 96) G hC hB hV h (hM _ _) mw_1447 kv_X3_undo ⟨rfl, rfl⟩ ⟨Nat.le_of_ble_eq_true rfl, Nat.le_of_ble_eq_true rfl⟩ (r_sVf hC h) rfl rfl hl.1 (Nat.le_of_ble_eq_true rfl) dL_undo_3 ⟨Nat.le_of_ble_eq_true rfl, Nat.le_of_ble_eq_true rfl⟩ (fun E ce q9 u H locs hp9 h hce hcv hcl => ?_) (fun r u H locs hp h => ?_)
  · have h : cH V s H locs (lwF V (u, O)) := h
    rcases hE E u hp9 with rfl
    · refine kc_catch (pre := []) (suf := []) (x := (0, 8, 11, 15)) G hC htab rfl (fun z hz => absurd hz List.not_mem_nil) (by decide) (by decide) (by decide) mw_783 hce hcv hcl ?_
      refine lv_astore_n (lv' := [(2, .ref q9), (0, .ref (eX V 96)), (1, .ref (eX V 600))]) hx hcd dL_undo_11 rfl hl (by decide) rfl (fun ls hl => ?_)
      refine lv_iconst (v := nI 1) hx hcd dL_undo_12 (by decide) ?_
      exact k_reti hQ G hret hlocks h (Or.inr ⟨rfl, hp9⟩) (Nat.le_of_ble_eq_true rfl) (Nat.le_of_ble_eq_true rfl) dL_undo_13
  · have h : cH V s H locs (lwF V (u, O)) := h
    refine lv_i2l (v := r.toInt64) hx hcd dL_undo_6 rfl ?_
    refine r_lS G hC h (r.toInt64) dL_undo_7 (fun H locs h => ?_)
    refine lv_goto (tgt := 14) hx hcd dL_undo_8 (by decide) ?_
    refine lv_iconst (v := nI 0) hx hcd dL_undo_14 (by decide) ?_
    exact k_reti hQ G hret hlocks h (Or.inl ⟨rfl, r, hp, rfl⟩) (Nat.le_of_ble_eq_true rfl) (Nat.le_of_ble_eq_true rfl) dL_undo_15
set_option maxHeartbeats 4000000 in
set_option maxRecDepth 100000 in
theorem met_L_restore (l : Launch) (V : kEnv) (hV : kOk V) (S0 : kCs) (O : Nat → Int64) {post : Int32 → kCs → Prop} {px : String → kCs → Prop} (hM : ∀ ws n, kX l yX3_restore cX3_restore 1 (some .int) { frames := 7, cells := 6, slots := 36, locals := 110 } (frV V ws n) (cWs V) (.ref (eX V 96) :: []) S0 post px 6 36) (hE : ∀ E u, px E u → E = "java/lang/IllegalStateException") : kW l yL_restore cL_restore 3 [(0, 8, 11, 15)] { frames := 8, cells := 6, slots := 36, locals := 130 } V (lwF V) [.ref (eX V 96), .ref (eX V 600)] (S0, O) (fun k u => (k = nI 0 ∧ ∃ r, post r u.1 ∧ u.2 = vp_updL O 0 r.toInt64) ∨ (k = nI 1 ∧ px "java/lang/IllegalStateException" u.1)) 6 36 := by
  refine kW_of (by decide +kernel) (Nat.le_of_ble_eq_true rfl) ?_
  intro p e s m args below meth c G hret hlocks htab hC hB h ls hl Q hQ
  have hl : lv_has ls 3 [(0, .ref (eX V 96)), (1, .ref (eX V 600))] := hl
  have hx := G.1
  have hcd := G.2.1
  refine lv_aload_n hx hcd dL_restore_0 rfl (lv_at hl 1 rfl) ?_
  refine lv_iconst (v := nI 0) hx hcd dL_restore_1 (by decide) ?_
  refine lv_aload_n hx hcd dL_restore_2 rfl (lv_at hl 0 rfl) ?_
  refine fx_Vi (F := cWs V) (u0 := S0) (o9 := oC V O) (As := []) (rest := [.int (nI 0), .ref (eX V 600)]) (b := eX V 96) G hC hB hV h (hM _ _) mw_1458 kv_X3_restore ⟨rfl, rfl⟩ ⟨Nat.le_of_ble_eq_true rfl, Nat.le_of_ble_eq_true rfl⟩ (r_sVf hC h) rfl rfl hl.1 (Nat.le_of_ble_eq_true rfl) dL_restore_3 ⟨Nat.le_of_ble_eq_true rfl, Nat.le_of_ble_eq_true rfl⟩ (fun E ce q9 u H locs hp9 h hce hcv hcl => ?_) (fun r u H locs hp h => ?_)
  · have h : cH V s H locs (lwF V (u, O)) := h
    rcases hE E u hp9 with rfl
    · refine kc_catch (pre := []) (suf := []) (x := (0, 8, 11, 15)) G hC htab rfl (fun z hz => absurd hz List.not_mem_nil) (by decide) (by decide) (by decide) mw_783 hce hcv hcl ?_
      refine lv_astore_n (lv' := [(2, .ref q9), (0, .ref (eX V 96)), (1, .ref (eX V 600))]) hx hcd dL_restore_11 rfl hl (by decide) rfl (fun ls hl => ?_)
      refine lv_iconst (v := nI 1) hx hcd dL_restore_12 (by decide) ?_
      exact k_reti hQ G hret hlocks h (Or.inr ⟨rfl, hp9⟩) (Nat.le_of_ble_eq_true rfl) (Nat.le_of_ble_eq_true rfl) dL_restore_13
  · have h : cH V s H locs (lwF V (u, O)) := h
    refine lv_i2l (v := r.toInt64) hx hcd dL_restore_6 rfl ?_
    refine r_lS G hC h (r.toInt64) dL_restore_7 (fun H locs h => ?_)
    refine lv_goto (tgt := 14) hx hcd dL_restore_8 (by decide) ?_
    refine lv_iconst (v := nI 0) hx hcd dL_restore_14 (by decide) ?_
    exact k_reti hQ G hret hlocks h (Or.inl ⟨rfl, r, hp, rfl⟩) (Nat.le_of_ble_eq_true rfl) (Nat.le_of_ble_eq_true rfl) dL_restore_15
