/-! METHODS THAT THROW: their contract, their calls, their ends. -/
def kX {τ : Type} (l : Launch) (y : MethodName) (cc : ByteArray) (mL : Nat) (ret : Option FieldType) (rm : Room) (V : kEnv) (F : τ → va_W) (av : List Value) (u0 : τ) (post : Int32 → τ → Prop) (px : String → τ → Prop) (mc ms : Nat) : Prop :=
  vx_Met l y (kWs y cc mL ret) rm (va_Pc av (cPre V (F u0))) (va_Qi post (fun u t => cAt V (F u) t) (eA V)) (vx_X (fun _ : τ => True) (fun E u t => px E u ∧ cAt V (F u) t) (eA V)) mc ms (eA V)
def kXv {τ : Type} (l : Launch) (y : MethodName) (cc : ByteArray) (mL : Nat) (rm : Room) (V : kEnv) (F : τ → va_W) (av : List Value) (u0 : τ) (post : τ → Prop) (px : String → τ → Prop) (mc ms : Nat) : Prop :=
  vx_Met l y (kWs y cc mL none) rm (va_Pc av (cPre V (F u0))) (va_Qv post (fun u t => cAt V (F u) t) (eA V)) (vx_X (fun _ : τ => True) (fun E u t => px E u ∧ cAt V (F u) t) (eA V)) mc ms (eA V)
/-- what a body owes -/
def kQi {τ : Type} (below : List Frame) (V : kEnv) (F : τ → va_W) (post : Int32 → τ → Prop) (px : String → τ → Prop) (args : Array Value) (s : State) (mc ms : Nat) : State → Prop := vx_MQ below (va_Qi post (fun u t => cAt V (F u) t) (eA V)) (vx_X (fun _ : τ => True) (fun E u t => px E u ∧ cAt V (F u) t) (eA V)) args s mc ms (eA V)
def kQv {τ : Type} (below : List Frame) (V : kEnv) (F : τ → va_W) (post : τ → Prop) (px : String → τ → Prop) (args : Array Value) (s : State) (mc ms : Nat) : State → Prop := vx_MQ below (va_Qv post (fun u t => cAt V (F u) t) (eA V)) (vx_X (fun _ : τ => True) (fun E u t => px E u ∧ cAt V (F u) t) (eA V)) args s mc ms (eA V)
section KX
variable {p : Program} {l : Launch} {e : Env} {R : Room} {s : State} {m : MethodId} {args : Array Value} {below : List Frame} {meth : Method} {c : Code} {H : Heap} {locs : List Loc} {cells slots : Nat} {Q : State → Prop}
variable {cc bytes : ByteArray} {pc nL index maxL mc ms mc0 ms0 n b : Nat} {ls : Array Slot} {rest st0 As : List Value} {own : String} {V : kEnv} {y : MethodName} {ret : Option FieldType} {rm : Room} {τ : Type} {F : τ → va_W} {u0 : τ}
/-- the cells stay when something new is made -/
theorem cH_new {ws : va_W} {H1 : Heap} {t : State} (h : cH V s H locs ws) (ht : t.heap = H1) (hz : H.size ≤ H1.size) (hq : ∀ q : Nat, q < H.size → H1[q]? = H[q]?) : cAt V ws t := by
  obtain ⟨hP, hD, -⟩ := h
  refine ⟨fun k q hk => ?_, hD⟩
  have h9 := hP k q hk
  rw [ht]
  exact h9.kept (hq q.1 h9.lt)
theorem kX_of {av : List Value} {post : Int32 → τ → Prop} {px : String → τ → Prop} {mL : Nat} (hy : plainName y.cls = true) (hlen : (lg_sl av).length ≤ mL)
    (body : ∀ (p : Program) (e : Env) (s : State) (m : MethodId) (args : Array Value) (below : List Frame) (meth : Method) (c : Code), CallFix p m c cc mL s args LW y.cls → meth.sig.returnType = ret → meth.locks = false → (∀ x ∈ c.exceptionTable.toList, False) → cSt V s → eB V ≤ s.heap.size → cH V s s.heap [] (F u0) → ∀ ls : Array Slot, lv_has ls mL (lv_args 0 av) → ∀ Q : State → Prop, Q = kQi below V F post px args s mc ms →
      W p l e rm s m args below meth c s.heap [] 0 0 Q (F0 m 0 ls [])) : kX l y cc mL ret rm V F av u0 post px mc ms := by
  refine vx_ofW (cc := cc) (maxL := mL) (ret := ret) hy rfl ?_
  intro p e s m args below meth c s₁ B hml htab hv
  obtain ⟨rfl, hC, hB, hP, hD⟩ := hv
  have hts := atoms_spec (ws := kWs y cc mL ret) B.pre
  rw [lg_entry_eq]
  exact body p e s m _ below meth c ⟨B.exec, B.bytes, hml, findClass_of_methodNamed B.named, fun w h => hts w (List.mem_cons_of_mem _ h)⟩ B.returns B.notSynchronized htab hC hB ⟨hP, hD, va_S.rf⟩ _ (lv_entry av hlen) _ rfl
theorem kXv_of {av : List Value} {post : τ → Prop} {px : String → τ → Prop} {mL : Nat} (hy : plainName y.cls = true) (hlen : (lg_sl av).length ≤ mL)
    (body : ∀ (p : Program) (e : Env) (s : State) (m : MethodId) (args : Array Value) (below : List Frame) (meth : Method) (c : Code), CallFix p m c cc mL s args LW y.cls → meth.sig.returnType = none → meth.locks = false → (∀ x ∈ c.exceptionTable.toList, False) → cSt V s → eB V ≤ s.heap.size → cH V s s.heap [] (F u0) → ∀ ls : Array Slot, lv_has ls mL (lv_args 0 av) → ∀ Q : State → Prop, Q = kQv below V F post px args s mc ms →
      W p l e rm s m args below meth c s.heap [] 0 0 Q (F0 m 0 ls [])) : kXv l y cc mL rm V F av u0 post px mc ms := by
  refine vx_ofW (cc := cc) (maxL := mL) (ret := none) hy rfl ?_
  intro p e s m args below meth c s₁ B hml htab hv
  obtain ⟨rfl, hC, hB, hP, hD⟩ := hv
  have hts := atoms_spec (ws := kWs y cc mL none) B.pre
  rw [lg_entry_eq]
  exact body p e s m _ below meth c ⟨B.exec, B.bytes, hml, findClass_of_methodNamed B.named, fun w h => hts w (List.mem_cons_of_mem _ h)⟩ B.returns B.notSynchronized htab hC hB ⟨hP, hD, va_S.rf⟩ _ (lv_entry av hlen) _ rfl
theorem kx_reti {post : Int32 → τ → Prop} {px : String → τ → Prop} {v : Int32} {u : τ} (hQ : Q = kQi below V F post px args s mc ms) (G : CallFix p m c cc nL s args LW own) (hret : meth.sig.returnType = some .int) (hlocks : meth.locks = false) (h : cH V s H locs (F u)) (hp : post v u) (hc : cells ≤ mc) (hs : slots ≤ ms) (hd : decode cc pc = .ok (.ireturn, 1)) :
    W p l e R s m args below meth c H locs cells slots Q (F0 m pc ls [.int v]) :=
  hQ ▸ vx_ret (k_reti rfl G hret hlocks h hp hc hs hd)
theorem kx_retz {post : Int32 → τ → Prop} {px : String → τ → Prop} {v : Int32} {u : τ} (hQ : Q = kQi below V F post px args s mc ms) (G : CallFix p m c cc nL s args LW own) (hret : meth.sig.returnType = some .boolean) (hlocks : meth.locks = false) (h : cH V s H locs (F u)) (hv : v = 0 ∨ v = 1) (hp : post v u) (hc : cells ≤ mc) (hs : slots ≤ ms) (hd : decode cc pc = .ok (.ireturn, 1)) :
    W p l e R s m args below meth c H locs cells slots Q (F0 m pc ls [.int v]) :=
  hQ ▸ vx_ret (k_retz rfl G hret hlocks h hv hp hc hs hd)
theorem kx_retv {post : τ → Prop} {px : String → τ → Prop} {u : τ} (hQ : Q = kQv below V F post px args s mc ms) (G : CallFix p m c cc nL s args LW own) (hret : meth.sig.returnType = none) (hlocks : meth.locks = false) (h : cH V s H locs (F u)) (hp : post u) (hc : cells ≤ mc) (hs : slots ≤ ms) (hd : decode cc pc = .ok (.return_, 1)) :
    W p l e R s m args below meth c H locs cells slots Q (F0 m pc ls []) :=
  hQ ▸ vx_ret (k_retv rfl G hret hlocks h hp hc hs hd)
/-- what a thrown exception leaves behind a call, in a method without handlers -/
theorem kx_pass {Qc : Array Value → State → Outcome → State → Prop} {px : String → τ → Prop} (htab : ∀ x ∈ c.exceptionTable.toList, False) (hlocks : meth.locks = false) {E : String} {ce : Cell} {q9 : Addr} {u : τ} {t : State} {H1 : Heap} {locs1 : List Loc} (ht : t.heap = H1) (hp : px E u) (hb : cAt V (F u) t) (hS : va_S (eA V) s.heap H1 locs1) (hce : H1[q9]? = some ce) (hv : ce.vm = .none) (hcl : s.vm.findClass E = some ce.cls) (hc : cells ≤ mc) (hs : slots ≤ ms) :
    vx_W p l e R s m args below meth c H1 locs1 cells slots (vx_MQ below Qc (vx_X (fun _ : τ => True) (fun E u t => px E u ∧ cAt V (F u) t) (eA V)) args s mc ms (eA V)) (F0 m pc ls rest) q9 :=
  vx_out (fun x hx => (htab x hx).elim) hlocks hce hv hcl (fun t9 ht9 _ => ⟨u, trivial, ⟨hp, by unfold cAt at hb ⊢; rw [ht9, ← ht]; exact hb⟩, hS.F ht9⟩) hS.2.2 hc hs
theorem kx_Sv {post : τ → Prop} {px : String → τ → Prop} (G : CallFix p m c cc nL s args LW own) (hC : cSt V s) (hB : eB V ≤ s.heap.size) (h : cH V s H locs (F u0)) (hM : kXv l y bytes maxL rm V F As u0 post px mc ms)
    (w1 : Cond.methodLink own index y ∈ LW) (hv : kSt y bytes maxL none n) (hr : rm.cells = mc ∧ rm.slots = ms) (hR : rm.frames + 1 ≤ R.frames ∧ 8 + (maxL + 11) + rm.locals ≤ R.locals)
    (hn : As.length = n) (hst : st0 = As.reverse ++ rest) (hsz : ls.size = nL) (hro : (rest.map fun v => v.category).sum ≤ 8) (hd : decode cc pc = .ok (.invokestatic index, 3)) (hf : cells + mc ≤ R.cells ∧ slots + ms ≤ R.slots)
    (kx : ∀ (E : String) (ce : Cell) (q9 : Addr) (u : τ) (t : State) (H1 : Heap) (locs1 : List Loc), t.heap = H1 → px E u → cAt V (F u) t → va_S (eA V) s.heap H1 locs1 → H1[q9]? = some ce → ce.vm = .none → s.vm.findClass E = some ce.cls → vx_W p l e R s m args below meth c H1 locs1 (cells + mc) (slots + ms) Q (F0 m pc ls rest) q9)
    (k : ∀ (u : τ) (H : Heap) (locs : List Loc), post u → cH V s H locs (F u) → W p l e R s m args below meth c H locs (cells + mc) (slots + ms) Q (F0 m (pc + 3) ls rest)) : W p l e R s m args below meth c H locs cells slots Q (F0 m pc ls st0) :=
  vx_callv (vx_runS G hM (kS_cw G w1 hv hr hR) ⟨cPre.blind, cPre.of hC hB h⟩ rfl hn hsz hst (lv_room hro) hd hf) h.2.2 (fun _ _ h => h) (fun _ h => h) (fun _ _ h => h)
    (fun E ce q9 u t H1 locs1 ht _ _ hb _ _ hS h1 h2 h3 => kx E ce q9 u t H1 locs1 ht hb.1 hb.2 hS h1 h2 h3)
    (fun u t H1 locs1 ht _ hp hb _ _ hS => k u H1 locs1 hp (kBack ht hb hS))
theorem kx_Vv {post : τ → Prop} {px : String → τ → Prop} (G : CallFix p m c cc nL s args LW own) (hC : cSt V s) (hB : eB V ≤ s.heap.size) (h : cH V s H locs (F u0)) (hM : kXv l y bytes maxL rm V F (.ref b :: As) u0 post px mc ms)
    (w1 : Cond.methodLink own index y ∈ LW) (hv : kV y bytes maxL none n) (hr : rm.cells = mc ∧ rm.slots = ms) (hR : rm.frames + 1 ≤ R.frames ∧ 8 + (maxL + 11) + rm.locals ≤ R.locals) (hrec : ∃ cell : Cell, H[b]? = some cell ∧ cell.vm.isStatics = false ∧ s.vm.findClass y.cls = some cell.cls)
    (hn : As.length = n) (hst : st0 = As.reverse ++ .ref b :: rest) (hsz : ls.size = nL) (hro : (rest.map fun v => v.category).sum ≤ 8) (hd : decode cc pc = .ok (.invokevirtual index, 3)) (hf : cells + mc ≤ R.cells ∧ slots + ms ≤ R.slots)
    (kx : ∀ (E : String) (ce : Cell) (q9 : Addr) (u : τ) (t : State) (H1 : Heap) (locs1 : List Loc), t.heap = H1 → px E u → cAt V (F u) t → va_S (eA V) s.heap H1 locs1 → H1[q9]? = some ce → ce.vm = .none → s.vm.findClass E = some ce.cls → vx_W p l e R s m args below meth c H1 locs1 (cells + mc) (slots + ms) Q (F0 m pc ls rest) q9)
    (k : ∀ (u : τ) (H : Heap) (locs : List Loc), post u → cH V s H locs (F u) → W p l e R s m args below meth c H locs (cells + mc) (slots + ms) Q (F0 m (pc + 3) ls rest)) : W p l e R s m args below meth c H locs cells slots Q (F0 m pc ls st0) :=
  vx_callv (vx_runV G hM (kV_cw G w1 hv hr hR) ⟨cPre.blind, hrec, cPre.of hC hB h⟩ rfl hn hsz hst (lv_room hro) hd hf) h.2.2 (fun _ _ h => h) (fun _ h => h) (fun _ _ h => h)
    (fun E ce q9 u t H1 locs1 ht _ _ hb _ _ hS h1 h2 h3 => kx E ce q9 u t H1 locs1 ht hb.1 hb.2 hS h1 h2 h3)
    (fun u t H1 locs1 ht _ hp hb _ _ hS => k u H1 locs1 hp (kBack ht hb hS))
theorem kx_Vi {post : Int32 → τ → Prop} {px : String → τ → Prop} (G : CallFix p m c cc nL s args LW own) (hC : cSt V s) (hB : eB V ≤ s.heap.size) (h : cH V s H locs (F u0)) (hM : kX l y bytes maxL ret rm V F (.ref b :: As) u0 post px mc ms)
    (w1 : Cond.methodLink own index y ∈ LW) (hv : kV y bytes maxL ret n) (hr : rm.cells = mc ∧ rm.slots = ms) (hR : rm.frames + 1 ≤ R.frames ∧ 8 + (maxL + 11) + rm.locals ≤ R.locals) (hrec : ∃ cell : Cell, H[b]? = some cell ∧ cell.vm.isStatics = false ∧ s.vm.findClass y.cls = some cell.cls)
    (hn : As.length = n) (hst : st0 = As.reverse ++ .ref b :: rest) (hsz : ls.size = nL) (hro : (rest.map fun v => v.category).sum ≤ 8) (hd : decode cc pc = .ok (.invokevirtual index, 3)) (hf : cells + mc ≤ R.cells ∧ slots + ms ≤ R.slots)
    (kx : ∀ (E : String) (ce : Cell) (q9 : Addr) (u : τ) (t : State) (H1 : Heap) (locs1 : List Loc), t.heap = H1 → px E u → cAt V (F u) t → va_S (eA V) s.heap H1 locs1 → H1[q9]? = some ce → ce.vm = .none → s.vm.findClass E = some ce.cls → vx_W p l e R s m args below meth c H1 locs1 (cells + mc) (slots + ms) Q (F0 m pc ls rest) q9)
    (k : ∀ (r : Int32) (u : τ) (H : Heap) (locs : List Loc), post r u → cH V s H locs (F u) → W p l e R s m args below meth c H locs (cells + mc) (slots + ms) Q (F0 m (pc + 3) ls (.int r :: rest))) : W p l e R s m args below meth c H locs cells slots Q (F0 m pc ls st0) :=
  vx_calli (vx_runV G hM (kV_cw G w1 hv hr hR) ⟨cPre.blind, hrec, cPre.of hC hB h⟩ rfl hn hsz hst (lv_room hro) hd hf) h.2.2 (fun _ _ h => h) (fun _ h => h) (fun _ _ h => h)
    (fun E ce q9 u t H1 locs1 ht _ _ hb _ _ hS h1 h2 h3 => kx E ce q9 u t H1 locs1 ht hb.1 hb.2 hS h1 h2 h3)
    (fun r u t H1 locs1 ht _ hp hb _ _ hS => k r u H1 locs1 hp (kBack ht hb hS))
/-- the words of a throw at one place: class, entries of class, text, constructor -/
def kTh (own : String) (ik is ic : Nat) (cls text : String) : Prop := Bundle.fit cls = true ∧ Cond.classLink own ik cls ∈ LW ∧ Cond.initialized cls ∈ LW ∧ (∀ w ∈ vx_atS own ic cls ["java/lang/RuntimeException", "java/lang/Exception"], w ∈ LW ∨ w = .castable cls cls ∨ ∃ y ∈ kDn, w = .declares y) ∧ (∀ w ∈ Cond.classLink own ik cls :: Cond.initialized cls :: vx_atS own ic cls ["java/lang/RuntimeException", "java/lang/Exception"], vx_ot w = true) ∧ (is, text) ∈ kXt ∧ cls ∈ kEx
theorem kx_throw {Qc : Array Value → State → Outcome → State → Prop} {px : String → τ → Prop} {ik is ic : Nat} {cls text : String} (G : CallFix p m c cc nL s args LW RX3) (hl : l.stackTraces = false) (hC : cSt V s) (h : cH V s H locs (F u0)) (hsz : ls.size = nL) (htab : ∀ x ∈ c.exceptionTable.toList, False) (hlocks : meth.locks = false) (hT : kTh RX3 ik is ic cls text)
    (d0 : decode cc pc = .ok (.new ik, 3)) (d3 : decode cc (pc + 3) = .ok (.dup, 1)) (d4 : decode cc (pc + 4) = .ok (.ldc_w is, 3)) (d7 : decode cc (pc + 7) = .ok (.invokespecial ic, 3)) (d10 : decode cc (pc + 10) = .ok (.athrow, 1))
    (hRf : 5 < R.frames) (hRl : (rest.map fun v => v.category).sum + 82 ≤ R.locals) (hRc : cells + 1 ≤ R.cells) (hRs : slots + 6 ≤ R.slots) (hc : cells + 1 ≤ mc) (hs : slots + 6 ≤ ms) (hp : px cls u0) :
    W p l e R s m args below meth c H locs cells slots (vx_MQ below Qc (vx_X (fun _ : τ => True) (fun E u t => px E u ∧ cAt V (F u) t) (eA V)) args s mc ms (eA V)) (F0 m pc ls rest) := by
  obtain ⟨t1, t2, t3, t4, t5, t6, t7⟩ := hT
  obtain ⟨sa, hsa⟩ := hC.2.2.2.2.1 _ t6
  refine vx_throwSW (names := ["java/lang/RuntimeException", "java/lang/Exception"]) G.1 G.2.1 hl G.2.2.2.1 t1 (by decide +kernel) (G.2.2.2.2 _ t2) (G.2.2.2.2 _ t3) hsa (fun w hw => ?_) t5 hC.2.2.2.1.1 hC.2.2.2.1.2 h.2.2 (hsz.trans G.2.2.1.symm) d0 d3 d4 d7 d10 (fun x hx => (htab x hx).elim) hRf hRl hRc hRs hlocks (fun t _ h1 h2 => ⟨u0, trivial, ⟨hp, cH_new h rfl h1 h2⟩, ?_⟩) h.2.2.2.2 hc hs
  · rcases t4 w hw with h9 | rfl | ⟨y, hy, rfl⟩
    · exact G.2.2.2.2 _ h9
    · exact va_Nw.use rfl (hC.2.2.2.2.2.2.2.1 _ t7)
    · exact va_Nw.use rfl (hC.2.2.2.2.2.2.1.2.2.2.2.2.2.2 _ hy)
  · refine ⟨Nat.le_trans h.2.2.1 h1, fun q hq hn => ?_⟩
    rw [h2 q (Nat.lt_of_lt_of_le hq h.2.2.1)]
    exact h.2.2.2.1 q hq hn
end KX
