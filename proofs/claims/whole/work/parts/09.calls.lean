/-! ENTRY, END AND CALLS of methods over a world of cells: F says which cells a state stands for. -/
/-- a callee's words, but its link -/
def kV (y : MethodName) (bytes : ByteArray) (maxL : Nat) (ret : Option FieldType) (n : Nat) : Prop := Cond.instanceMethod y ∈ LW ∧ Cond.selects y.cls y y ∈ LW ∧ Cond.initialized y.cls ∈ LW ∧ Cond.code y bytes maxL ret ∈ LW ∧ (y.cls ≠ "java/lang/invoke/MethodHandle" ∧ y.cls ≠ "java/lang/invoke/VarHandle" ∧ (parseMethodDescriptor y.desc).map (fun d => d.parameters.length) = some n)
def kSt (y : MethodName) (bytes : ByteArray) (maxL : Nat) (ret : Option FieldType) (n : Nat) : Prop := Cond.static y ∈ LW ∧ Cond.initialized y.cls ∈ LW ∧ Cond.code y bytes maxL ret ∈ LW ∧ (y.cls ≠ "java/lang/invoke/MethodHandle" ∧ y.cls ≠ "java/lang/invoke/VarHandle" ∧ (parseMethodDescriptor y.desc).map (fun d => d.parameters.length) = some n)
/-- the contract's words -/
abbrev kWs (y : MethodName) (bytes : ByteArray) (maxL : Nat) (ret : Option FieldType) : List Cond := Cond.code y bytes maxL ret :: LW
/-- a method's body under its contract, also where its class has natives of other names -/
theorem kMet {l : Launch} {y : MethodName} {ws ws' : List Cond} {rm : Room} {Pc : Array Value → State → Prop} {Qc : Array Value → State → Outcome → State → Prop} {mc ms : Nat} {free : Addr → Prop} {cc : ByteArray} {maxL : Nat} {ret : Option FieldType}
    (hy : plainFor y = true) (hw : ws = Cond.code y cc maxL ret :: ws')
    (body : ∀ p e s m args below meth c s₁, BodyLoose p l y (headSpec ws rm) cc maxL ret e s m args below meth c s₁ → c.maxLocals = maxL → Pc args s →
      W p l e (headSpec ws rm).room s m args below meth c s.heap [] 0 0 (MQ below Qc args s mc ms free) (entryFrame m args maxL)) : Met l y ws rm Pc Qc mc ms free := by
  refine MetFree.of_bodySF (code := cc) (maxLocals := maxL) (ret := ret) hy ?_ ?_
  · intro args s m h hn
    obtain ⟨meth, c, h1, h2, h3, h4, h5, h6, -, -⟩ := Cond.code_spec hn (atoms_spec (ws := ws) h _ (by rw [hw]; exact List.mem_cons_self))
    exact ⟨meth, c, h1, h2, h3, h4, h5, h6⟩
  · intro p e s m args below meth c s₁ B hml hP _
    have hh0 : s₁.heap = s.heap := by rw [B.state]; rfl
    obtain ⟨t, a1, o, b1, b2, b3⟩ := body p e s m args below meth c s₁ B hml hP s₁ hh0 (Stand.of_body B)
    exact ⟨t, o, a1, b1, b2, ⟨b3.1, b3.2⟩⟩
/-- contracts: int-like answers, none -/
def kI {τ : Type} (l : Launch) (y : MethodName) (cc : ByteArray) (mL : Nat) (ret : Option FieldType) (rm : Room) (V : kEnv) (F : τ → va_W) (av : List Value) (u0 : τ) (post : Int32 → τ → Prop) (mc ms : Nat) : Prop :=
  Met l y (kWs y cc mL ret) rm (va_Pc av (cPre V (F u0))) (va_Qi post (fun u t => cAt V (F u) t) (eA V)) mc ms (eA V)
def kU {τ : Type} (l : Launch) (y : MethodName) (cc : ByteArray) (mL : Nat) (rm : Room) (V : kEnv) (F : τ → va_W) (av : List Value) (u0 : τ) (post : τ → Prop) (mc ms : Nat) : Prop :=
  Met l y (kWs y cc mL none) rm (va_Pc av (cPre V (F u0))) (va_Qv post (fun u t => cAt V (F u) t) (eA V)) mc ms (eA V)
def kOk (V : kEnv) : Prop := ∀ q, eB V ≤ q → eA V q
section KC
variable {p : Program} {l : Launch} {e : Env} {R : Room} {s : State} {m : MethodId} {args : Array Value} {below : List Frame} {meth : Method} {c : Code} {H : Heap} {locs : List Loc} {cells slots : Nat} {Q : State → Prop}
variable {cc bytes : ByteArray} {pc nL index maxL mc ms n b : Nat} {ls : Array Slot} {rest st0 As : List Value} {own : String} {V : kEnv} {y : MethodName} {ret : Option FieldType} {rm : Room} {τ : Type} {F : τ → va_W} {u0 : τ}
theorem kV_cw (G : CallFix p m c cc nL s args LW own) (w1 : Cond.methodLink own index y ∈ LW) (hv : kV y bytes maxL ret n) (hr : rm.cells = mc ∧ rm.slots = ms) (hR : rm.frames + 1 ≤ R.frames ∧ 8 + (maxL + 11) + rm.locals ≤ R.locals) : CallW R s args own y.cls index y bytes maxL ret (kWs y bytes maxL ret) rm mc ms n := by
  obtain ⟨w2, w3, w4, w5, hd⟩ := hv
  refine cwV n G.2.2.2.2 ?_ rfl hr.1 hr.2 ⟨rfl, hd⟩ hR
  intro w hw
  simp only [wsV, List.cons_append, List.nil_append, List.mem_cons] at hw
  rcases hw with rfl | rfl | rfl | rfl | rfl | hw
  · exact lwG _ w1
  · exact lwG _ w2
  · exact lwG _ w3
  · exact lwG _ w4
  · exact lwG _ w5
  · exact lwG _ hw
theorem kS_cw (G : CallFix p m c cc nL s args LW own) (w1 : Cond.methodLink own index y ∈ LW) (hv : kSt y bytes maxL ret n) (hr : rm.cells = mc ∧ rm.slots = ms) (hR : rm.frames + 1 ≤ R.frames ∧ 8 + (maxL + 11) + rm.locals ≤ R.locals) : CallB R s args own index y bytes maxL ret (kWs y bytes maxL ret) rm mc ms n ∧ (Cond.static y).before args s = true := by
  obtain ⟨w2, w4, w5, hd⟩ := hv
  refine va_cwS n G.2.2.2.2 ?_ rfl hr.1 hr.2 hd hR
  intro w hw
  simp only [va_wsS, List.cons_append, List.nil_append, List.mem_cons] at hw
  rcases hw with rfl | rfl | rfl | rfl | hw
  · exact lwG _ w1
  · exact lwG _ w2
  · exact lwG _ w4
  · exact lwG _ w5
  · exact lwG _ hw
/-- a private static method of a nest mate -/
theorem kN_cw {host : String} (G : CallFix p m c cc nL s args LW own) (w1 : va_Nw (.methodLinkNest own index y host) s) (hv : kSt y bytes maxL ret n) (hr : rm.cells = mc ∧ rm.slots = ms) (hR : rm.frames + 1 ≤ R.frames ∧ 8 + (maxL + 11) + rm.locals ≤ R.locals) : va_CN R s args own index y host bytes maxL ret (kWs y bytes maxL ret) rm mc ms n ∧ (Cond.static y).before args s = true ∧ True := by
  obtain ⟨w2, w4, w5, hd⟩ := hv
  exact ⟨va_cnB n G.2.2.2.2 (lwGc w5) rfl hr.1 hr.2 w1 (G.2.2.2.2 _ w4) hd hR, G.2.2.2.2 _ w2, trivial⟩
/-- behind a call -/
theorem kBack {ws : va_W} {t : State} {H1 : Heap} {locs1 : List Loc} (ht : t.heap = H1) (h : cAt V ws t) (hS : va_S (eA V) s.heap H1 locs1) : cH V s H1 locs1 ws := by
  obtain ⟨hP, hD⟩ := h
  rw [ht] at hP
  exact ⟨hP, hD, hS⟩
theorem k_Vi {post : Int32 → τ → Prop} (G : CallFix p m c cc nL s args LW own) (hC : cSt V s) (hB : eB V ≤ s.heap.size) (h : cH V s H locs (F u0)) (hM : kI l y bytes maxL ret rm V F (.ref b :: As) u0 post mc ms)
    (w1 : Cond.methodLink own index y ∈ LW) (hv : kV y bytes maxL ret n) (hr : rm.cells = mc ∧ rm.slots = ms) (hR : rm.frames + 1 ≤ R.frames ∧ 8 + (maxL + 11) + rm.locals ≤ R.locals) (hrec : ∃ cell : Cell, H[b]? = some cell ∧ cell.vm.isStatics = false ∧ s.vm.findClass y.cls = some cell.cls)
    (hn : As.length = n) (hst : st0 = As.reverse ++ .ref b :: rest) (hsz : ls.size = nL) (hro : (rest.map fun v => v.category).sum ≤ 8) (hd : decode cc pc = .ok (.invokevirtual index, 3)) (hf : cells + mc ≤ R.cells ∧ slots + ms ≤ R.slots)
    (k : ∀ (r : Int32) (u : τ) (H : Heap) (locs : List Loc), post r u → cH V s H locs (F u) → W p l e R s m args below meth c H locs (cells + mc) (slots + ms) Q (F0 m (pc + 3) ls (.int r :: rest))) : W p l e R s m args below meth c H locs cells slots Q (F0 m pc ls st0) :=
  va_calli (va_runV G hM (kV_cw G w1 hv hr hR) ⟨cPre.blind, hrec, cPre.of hC hB h⟩ rfl hn hsz hst (lv_room hro) hd hf) h.2.2 (fun _ _ h => h) (fun _ h => h)
    (fun r u t H1 locs1 ht _ hp hb _ _ hS => k r u H1 locs1 hp (kBack ht hb hS))
theorem k_Vv {post : τ → Prop} (G : CallFix p m c cc nL s args LW own) (hC : cSt V s) (hB : eB V ≤ s.heap.size) (h : cH V s H locs (F u0)) (hM : kU l y bytes maxL rm V F (.ref b :: As) u0 post mc ms)
    (w1 : Cond.methodLink own index y ∈ LW) (hv : kV y bytes maxL none n) (hr : rm.cells = mc ∧ rm.slots = ms) (hR : rm.frames + 1 ≤ R.frames ∧ 8 + (maxL + 11) + rm.locals ≤ R.locals) (hrec : ∃ cell : Cell, H[b]? = some cell ∧ cell.vm.isStatics = false ∧ s.vm.findClass y.cls = some cell.cls)
    (hn : As.length = n) (hst : st0 = As.reverse ++ .ref b :: rest) (hsz : ls.size = nL) (hro : (rest.map fun v => v.category).sum ≤ 8) (hd : decode cc pc = .ok (.invokevirtual index, 3)) (hf : cells + mc ≤ R.cells ∧ slots + ms ≤ R.slots)
    (k : ∀ (u : τ) (H : Heap) (locs : List Loc), post u → cH V s H locs (F u) → W p l e R s m args below meth c H locs (cells + mc) (slots + ms) Q (F0 m (pc + 3) ls rest)) : W p l e R s m args below meth c H locs cells slots Q (F0 m pc ls st0) :=
  va_callv (va_runV G hM (kV_cw G w1 hv hr hR) ⟨cPre.blind, hrec, cPre.of hC hB h⟩ rfl hn hsz hst (lv_room hro) hd hf) h.2.2 (fun _ _ h => h) (fun _ h => h)
    (fun u t H1 locs1 ht _ hp hb _ _ hS => k u H1 locs1 hp (kBack ht hb hS))
theorem k_Si {post : Int32 → τ → Prop} (G : CallFix p m c cc nL s args LW own) (hC : cSt V s) (hB : eB V ≤ s.heap.size) (h : cH V s H locs (F u0)) (hM : kI l y bytes maxL ret rm V F As u0 post mc ms)
    (w1 : Cond.methodLink own index y ∈ LW) (hv : kSt y bytes maxL ret n) (hr : rm.cells = mc ∧ rm.slots = ms) (hR : rm.frames + 1 ≤ R.frames ∧ 8 + (maxL + 11) + rm.locals ≤ R.locals)
    (hn : As.length = n) (hst : st0 = As.reverse ++ rest) (hsz : ls.size = nL) (hro : (rest.map fun v => v.category).sum ≤ 8) (hd : decode cc pc = .ok (.invokestatic index, 3)) (hf : cells + mc ≤ R.cells ∧ slots + ms ≤ R.slots)
    (k : ∀ (r : Int32) (u : τ) (H : Heap) (locs : List Loc), post r u → cH V s H locs (F u) → W p l e R s m args below meth c H locs (cells + mc) (slots + ms) Q (F0 m (pc + 3) ls (.int r :: rest))) : W p l e R s m args below meth c H locs cells slots Q (F0 m pc ls st0) :=
  va_calli (va_runS G hM (kS_cw G w1 hv hr hR) ⟨cPre.blind, cPre.of hC hB h⟩ rfl hn hsz hst (lv_room hro) hd hf) h.2.2 (fun _ _ h => h) (fun _ h => h)
    (fun r u t H1 locs1 ht _ hp hb _ _ hS => k r u H1 locs1 hp (kBack ht hb hS))
theorem k_Sv {post : τ → Prop} (G : CallFix p m c cc nL s args LW own) (hC : cSt V s) (hB : eB V ≤ s.heap.size) (h : cH V s H locs (F u0)) (hM : kU l y bytes maxL rm V F As u0 post mc ms)
    (w1 : Cond.methodLink own index y ∈ LW) (hv : kSt y bytes maxL none n) (hr : rm.cells = mc ∧ rm.slots = ms) (hR : rm.frames + 1 ≤ R.frames ∧ 8 + (maxL + 11) + rm.locals ≤ R.locals)
    (hn : As.length = n) (hst : st0 = As.reverse ++ rest) (hsz : ls.size = nL) (hro : (rest.map fun v => v.category).sum ≤ 8) (hd : decode cc pc = .ok (.invokestatic index, 3)) (hf : cells + mc ≤ R.cells ∧ slots + ms ≤ R.slots)
    (k : ∀ (u : τ) (H : Heap) (locs : List Loc), post u → cH V s H locs (F u) → W p l e R s m args below meth c H locs (cells + mc) (slots + ms) Q (F0 m (pc + 3) ls rest)) : W p l e R s m args below meth c H locs cells slots Q (F0 m pc ls st0) :=
  va_callv (va_runS G hM (kS_cw G w1 hv hr hR) ⟨cPre.blind, cPre.of hC hB h⟩ rfl hn hsz hst (lv_room hro) hd hf) h.2.2 (fun _ _ h => h) (fun _ h => h)
    (fun u t H1 locs1 ht _ hp hb _ _ hS => k u H1 locs1 hp (kBack ht hb hS))
theorem k_Ni {host : String} {post : Int32 → τ → Prop} (G : CallFix p m c cc nL s args LW own) (hC : cSt V s) (hB : eB V ≤ s.heap.size) (h : cH V s H locs (F u0)) (hM : kI l y bytes maxL ret rm V F As u0 post mc ms)
    (w1 : va_Nw (.methodLinkNest own index y host) s) (hv : kSt y bytes maxL ret n) (hr : rm.cells = mc ∧ rm.slots = ms) (hR : rm.frames + 1 ≤ R.frames ∧ 8 + (maxL + 11) + rm.locals ≤ R.locals)
    (hn : As.length = n) (hst : st0 = As.reverse ++ rest) (hsz : ls.size = nL) (hro : (rest.map fun v => v.category).sum ≤ 8) (hd : decode cc pc = .ok (.invokestatic index, 3)) (hf : cells + mc ≤ R.cells ∧ slots + ms ≤ R.slots)
    (k : ∀ (r : Int32) (u : τ) (H : Heap) (locs : List Loc), post r u → cH V s H locs (F u) → W p l e R s m args below meth c H locs (cells + mc) (slots + ms) Q (F0 m (pc + 3) ls (.int r :: rest))) : W p l e R s m args below meth c H locs cells slots Q (F0 m pc ls st0) :=
  va_calli (va_runSN G hM (kN_cw G w1 hv hr hR) ⟨cPre.blind, cPre.of hC hB h⟩ rfl hn hsz hst (lv_room hro) hd hf) h.2.2 (fun _ _ h => h) (fun _ h => h)
    (fun r u t H1 locs1 ht _ hp hb _ _ hS => k r u H1 locs1 hp (kBack ht hb hS))
/-- a method's body, from its entry -/
theorem kI_of {av : List Value} {post : Int32 → τ → Prop} {mL : Nat} (hy : plainFor y = true) (hlen : (lg_sl av).length ≤ mL)
    (body : ∀ (p : Program) (e : Env) (s : State) (m : MethodId) (args : Array Value) (below : List Frame) (meth : Method) (c : Code), CallFix p m c cc mL s args LW y.cls → meth.sig.returnType = ret → meth.locks = false → cSt V s → eB V ≤ s.heap.size → cH V s s.heap [] (F u0) → ∀ ls : Array Slot, lv_has ls mL (lv_args 0 av) → ∀ Q : State → Prop, Q = MQ below (va_Qi post (fun u t => cAt V (F u) t) (eA V)) args s mc ms (eA V) →
      W p l e rm s m args below meth c s.heap [] 0 0 Q (F0 m 0 ls [])) : kI l y cc mL ret rm V F av u0 post mc ms := by
  refine kMet (cc := cc) (maxL := mL) (ret := ret) hy rfl ?_
  intro p e s m args below meth c s₁ B hml hv
  obtain ⟨rfl, hC, hB, hP, hD⟩ := hv
  have hts := atoms_spec (ws := kWs y cc mL ret) B.pre
  rw [lg_entry_eq]
  exact body p e s m _ below meth c ⟨B.exec, B.bytes, hml, findClass_of_methodNamed B.named, fun w h => hts w (List.mem_cons_of_mem _ h)⟩ B.returns B.notSynchronized hC hB ⟨hP, hD, va_S.rf⟩ _ (lv_entry av hlen) _ rfl
theorem kU_of {av : List Value} {post : τ → Prop} {mL : Nat} (hy : plainFor y = true) (hlen : (lg_sl av).length ≤ mL)
    (body : ∀ (p : Program) (e : Env) (s : State) (m : MethodId) (args : Array Value) (below : List Frame) (meth : Method) (c : Code), CallFix p m c cc mL s args LW y.cls → meth.sig.returnType = none → meth.locks = false → cSt V s → eB V ≤ s.heap.size → cH V s s.heap [] (F u0) → ∀ ls : Array Slot, lv_has ls mL (lv_args 0 av) → ∀ Q : State → Prop, Q = MQ below (va_Qv post (fun u t => cAt V (F u) t) (eA V)) args s mc ms (eA V) →
      W p l e rm s m args below meth c s.heap [] 0 0 Q (F0 m 0 ls [])) : kU l y cc mL rm V F av u0 post mc ms := by
  refine kMet (cc := cc) (maxL := mL) (ret := none) hy rfl ?_
  intro p e s m args below meth c s₁ B hml hv
  obtain ⟨rfl, hC, hB, hP, hD⟩ := hv
  have hts := atoms_spec (ws := kWs y cc mL none) B.pre
  rw [lg_entry_eq]
  exact body p e s m _ below meth c ⟨B.exec, B.bytes, hml, findClass_of_methodNamed B.named, fun w h => hts w (List.mem_cons_of_mem _ h)⟩ B.returns B.notSynchronized hC hB ⟨hP, hD, va_S.rf⟩ _ (lv_entry av hlen) _ rfl
/-- .. and its end -/
theorem kAt {ws : va_W} {t : State} (ht : t.heap = H) (h : cH V s H locs ws) : cAt V ws t := by
  unfold cAt
  rw [ht]
  exact ⟨h.1, h.2.1⟩
theorem k_reti {post : Int32 → τ → Prop} {v : Int32} {u : τ} (hQ : Q = MQ below (va_Qi post (fun u t => cAt V (F u) t) (eA V)) args s mc ms (eA V)) (G : CallFix p m c cc nL s args LW own) (hret : meth.sig.returnType = some .int) (hlocks : meth.locks = false) (h : cH V s H locs (F u)) (hp : post v u) (hc : cells ≤ mc) (hs : slots ≤ ms) (hd : decode cc pc = .ok (.ireturn, 1)) :
    W p l e R s m args below meth c H locs cells slots Q (F0 m pc ls [.int v]) :=
  hQ ▸ W.widen hc hs (W.iret (v := v) G.1 G.2.1 hret (fun t ht _ => ⟨⟨v, u, rfl, hp, kAt ht h⟩, h.2.2.F ht⟩) h.2.2.2.2 hd)
theorem k_retz {post : Int32 → τ → Prop} {v : Int32} {u : τ} (hQ : Q = MQ below (va_Qi post (fun u t => cAt V (F u) t) (eA V)) args s mc ms (eA V)) (G : CallFix p m c cc nL s args LW own) (hret : meth.sig.returnType = some .boolean) (hlocks : meth.locks = false) (h : cH V s H locs (F u)) (hv : v = 0 ∨ v = 1) (hp : post v u) (hc : cells ≤ mc) (hs : slots ≤ ms) (hd : decode cc pc = .ok (.ireturn, 1)) :
    W p l e R s m args below meth c H locs cells slots Q (F0 m pc ls [.int v]) :=
  hQ ▸ W.widen hc hs (W.zret (v := v) G.1 G.2.1 hret (by rcases hv with rfl | rfl <;> decide +kernel) (fun t ht _ => ⟨⟨v, u, rfl, hp, kAt ht h⟩, h.2.2.F ht⟩) h.2.2.2.2 hd)
theorem k_retv {post : τ → Prop} {u : τ} (hQ : Q = MQ below (va_Qv post (fun u t => cAt V (F u) t) (eA V)) args s mc ms (eA V)) (G : CallFix p m c cc nL s args LW own) (hret : meth.sig.returnType = none) (hlocks : meth.locks = false) (h : cH V s H locs (F u)) (hp : post u) (hc : cells ≤ mc) (hs : slots ≤ ms) (hd : decode cc pc = .ok (.return_, 1)) :
    W p l e R s m args below meth c H locs cells slots Q (F0 m pc ls []) :=
  hQ ▸ W.widen hc hs (W.vret G.1 G.2.1 hret (fun t ht _ => ⟨⟨u, rfl, hp, kAt ht h⟩, h.2.2.F ht⟩) h.2.2.2.2 hd)
end KC
