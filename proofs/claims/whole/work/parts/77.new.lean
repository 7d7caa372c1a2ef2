/-! CONSTRUCTORS: rows. A constructor runs beside the cells that are there; what it made comes with its end. -/
def kC (l : Launch) (y : MethodName) (cc : ByteArray) (mL : Nat) (rm : Room) (V : kEnv) (a : va_W) (av : List Value) (post : va_W → Prop) (mc ms : Nat) : Prop :=
  Met l y (kWs y cc mL none) rm (va_Pc av (fun U => va_AO RX0 U ∧ cPre V a U)) (va_Qv post (fun u t => cAt V u t) (eA V)) mc ms (eA V)
def kCw (y : MethodName) (bytes : ByteArray) (maxL n : Nat) : Prop := y.name = "<init>" ∧ Cond.instanceMethod y ∈ LW ∧ Cond.initialized y.cls ∈ LW ∧ Cond.code y bytes maxL none ∈ LW ∧ (y.cls ≠ "java/lang/invoke/MethodHandle" ∧ y.cls ≠ "java/lang/invoke/VarHandle" ∧ (parseMethodDescriptor y.desc).map (fun d => d.parameters.length) = some n)
section NW
variable {p : Program} {l : Launch} {e : Env} {R : Room} {s : State} {m : MethodId} {args : Array Value} {below : List Frame} {meth : Method} {c : Code} {H : Heap} {locs : List Loc} {cells slots : Nat} {Q : State → Prop}
variable {cc bytes : ByteArray} {pc nL index maxL mc ms n b : Nat} {ls : Array Slot} {rest st0 As : List Value} {own : String} {V : kEnv} {y : MethodName} {rm : Room} {a ws o9 : va_W}
theorem cH_perm {a b : va_W} (hp : a.Perm b) (h : cH V s H locs a) : cH V s H locs b := by
  obtain ⟨hP, ⟨hD, hA⟩, hS⟩ := h
  have key : ∀ (k : Nat) (q : Nat × va_E), b[k]? = some q → ∃ j, a[j]? = some q := fun k q hk =>
    List.getElem?_of_mem (hp.mem_iff.mpr (List.mem_of_getElem? hk))
  have h1 : a.Pairwise (fun p q => p.1 ≠ q.1) := by
    refine List.pairwise_iff_getElem.mpr fun i j hi hj hij e => ?_
    have := hD i j a[i] a[j] (List.getElem?_eq_getElem hi) (List.getElem?_eq_getElem hj) e
    omega
  have h2 := List.pairwise_iff_getElem.mp ((hp.pairwise_iff (fun z e => z e.symm)).mp h1)
  refine ⟨fun k q hk => ?_, ⟨fun i j p q hi hj e => ?_, fun k q hk => ?_⟩, hS⟩
  · obtain ⟨j, hj⟩ := key k q hk
    exact hP j q hj
  · obtain ⟨hi1, hi2⟩ := List.getElem?_eq_some_iff.mp hi
    obtain ⟨hj1, hj2⟩ := List.getElem?_eq_some_iff.mp hj
    rcases Nat.lt_trichotomy i j with c1 | c1 | c1
    · exact absurd (by rw [hi2, hj2]; exact e) (h2 i j hi1 hj1 c1)
    · exact c1
    · exact absurd (by rw [hi2, hj2]; exact e.symm) (h2 j i hj1 hi1 c1)
  · obtain ⟨j, hj⟩ := key k q hk
    exact hA j q hj
theorem cH_2 {a b : va_W} (h : cH V s H locs (a ++ b)) : cH V s H locs (b ++ a) := cH_perm List.perm_append_comm h
/-- an array, told by what it holds within its length -/
theorem arr_i {cA : ClassId} {n : Nat} {f g : Nat → Int32} (hfg : ∀ j, j < n → f j = g j) : vp_cell cA (n, .inl f) = vp_cell cA (n, .inl g) := by
  rw [vp_cell_i, vp_cell_i]
  unfold arrV
  congr 2
  funext j
  exact congrArg Value.int (hfg j.val j.isLt)
theorem arr_q {cA : ClassId} {n : Nat} {f g : Nat → Option Nat} (hfg : ∀ j, j < n → f j = g j) : vp_cell cA (n, .inr (.inr (.inr (.inr f)))) = vp_cell cA (n, .inr (.inr (.inr (.inr g)))) := by
  rw [vp_cell_q, vp_cell_q]
  unfold arrV
  congr 2
  funext j
  exact congrArg va_rf (hfg j.val j.isLt)
theorem cH_arr {a b : va_W} {q : Nat} {cA : ClassId} {x0 x1 : vp_A} (e : vp_cell cA x0 = vp_cell cA x1) (h : cH V s H locs (a ++ (q, .inl (cA, x0)) :: b)) : cH V s H locs (a ++ (q, .inl (cA, x1)) :: b) := by
  obtain ⟨hP, ⟨hD, hA⟩, hS⟩ := h
  have key : ∀ (k : Nat) (x : Nat × va_E), (a ++ (q, .inl (cA, x1)) :: b)[k]? = some x → ((a ++ (q, .inl (cA, x0)) :: b)[k]? = some x ∧ k ≠ a.length) ∨ (k = a.length ∧ x = (q, .inl (cA, x1)) ∧ (a ++ (q, .inl (cA, x0)) :: b)[k]? = some (q, .inl (cA, x0))) := by
    intro k x hk
    rcases app_x hk with h1 | ⟨j, e1, h1⟩
    · have := (List.getElem?_eq_some_iff.mp h1).1
      exact Or.inl ⟨app_l h1, by omega⟩
    · match j, e1, h1 with
      | 0, e1, h1 =>
        refine Or.inr ⟨e1, (Option.some.inj h1).symm, ?_⟩
        rw [e1]
        exact app_r (i := 0) rfl
      | j + 1, e1, h1 =>
        refine Or.inl ⟨?_, by omega⟩
        rw [e1]
        exact app_r (i := j + 1) h1
  refine ⟨fun k x hk => ?_, ⟨fun i j p x hi hj ee => ?_, fun k x hk => ?_⟩, hS⟩
  · rcases key k x hk with ⟨h1, -⟩ | ⟨-, rfl, h1⟩
    · exact hP k x h1
    · have h9 := hP k _ h1
      show H[q]? = some (vp_cell cA x1)
      rw [← e]
      exact h9
  · rcases key i p hi with ⟨h1, -⟩ | ⟨-, rfl, h1⟩
    · rcases key j x hj with ⟨h2, -⟩ | ⟨-, rfl, h2⟩
      · exact hD i j p x h1 h2 ee
      · exact hD i j p _ h1 h2 ee
    · rcases key j x hj with ⟨h2, -⟩ | ⟨-, rfl, h2⟩
      · exact hD i j _ x h1 h2 ee
      · exact hD i j _ _ h1 h2 rfl
  · rcases key k x hk with ⟨h1, -⟩ | ⟨-, rfl, h1⟩
    · exact hA k x h1
    · have h9 := hA k _ h1
      exact h9
theorem kC_of {av : List Value} {post : va_W → Prop} {mL : Nat} (hy : plainFor y = true) (hlen : (lg_sl av).length ≤ mL)
    (body : ∀ (p : Program) (e : Env) (s : State) (m : MethodId) (args : Array Value) (below : List Frame) (meth : Method) (c : Code), CallFix p m c cc mL s args LW y.cls → meth.name = y.name → meth.sig.returnType = none → meth.locks = false → va_AO RX0 s → cSt V s → eB V ≤ s.heap.size → cH V s s.heap [] a → ∀ ls : Array Slot, lv_has ls mL (lv_args 0 av) → ∀ Q : State → Prop, Q = MQ below (va_Qv post (fun u t => cAt V u t) (eA V)) args s mc ms (eA V) →
      W p l e rm s m args below meth c s.heap [] 0 0 Q (F0 m 0 ls [])) : kC l y cc mL rm V a av post mc ms := by
  refine kMet (cc := cc) (maxL := mL) (ret := none) hy rfl ?_
  intro p e s m args below meth c s₁ B hml hv
  obtain ⟨rfl, hE, hC, hB, hP, hD⟩ := hv
  have hts := atoms_spec (ws := kWs y cc mL none) B.pre
  rw [lg_entry_eq]
  exact body p e s m _ below meth c ⟨B.exec, B.bytes, hml, findClass_of_methodNamed B.named, fun w h => hts w (List.mem_cons_of_mem _ h)⟩ (name_of_methodNamed B.named B.method).1 B.returns B.notSynchronized hE hC hB ⟨hP, hD, va_S.rf⟩ _ (lv_entry av hlen) _ rfl
theorem kC_blind {a : va_W} {av : List Value} : FrameBlind (va_Pc av (fun U => va_AO RX0 U ∧ cPre V a U)) := by
  intro a0 U g mk h
  obtain ⟨h1, h0, h2, h3, h4, h5⟩ := h
  exact ⟨h1, h0.moved (u := U) (U := U.calling g mk a0) (State.WarmedH.refl U).alike, h2.go (s := U) (U := U.calling g mk a0) (State.WarmedH.refl U) (fun _ _ _ => rfl), h3, h4, h5⟩
theorem kC_pre {av : List Value} (hE : va_AO RX0 s) (hC : cSt V s) (hB : eB V ≤ s.heap.size) (hV : kOk V) (h : cH V s H locs (a ++ o9)) : ∀ U : State, U.heap = H → s.WarmedH U.vm → va_Pc av (fun U => va_AO RX0 U ∧ cPre (frV V a H.size) a U) av.toArray U := by
  intro U hU hW
  have h9 := frPre (av := av) hC hB hV h U hU hW
  exact ⟨h9.1, hE.moved hW.alike, h9.2⟩
theorem kC_cw (G : CallFix p m c cc nL s args LW own) (w1 : Cond.methodLink own index y ∈ LW) (hv : kCw y bytes maxL n) (hr : rm.cells = mc ∧ rm.slots = ms) (hR : rm.frames + 1 ≤ R.frames ∧ 8 + (maxL + 11) + rm.locals ≤ R.locals) : CallB R s args own index y bytes maxL none (kWs y bytes maxL none) rm mc ms n ∧ y.name = "<init>" ∧ (Cond.instanceMethod y).before args s = true := by
  obtain ⟨w0, w2, w4, w5, hd⟩ := hv
  exact cwI n G.2.2.2.2 (lwGc w5) rfl hr.1 hr.2 (G.2.2.2.2 _ w4) (G.2.2.2.2 _ w1) (G.2.2.2.2 _ w2) w0 hd hR
theorem kC_cn {host : String} (G : CallFix p m c cc nL s args LW own) (w1 : va_Nw (.methodLinkNest own index y host) s) (hv : kCw y bytes maxL n) (hr : rm.cells = mc ∧ rm.slots = ms) (hR : rm.frames + 1 ≤ R.frames ∧ 8 + (maxL + 11) + rm.locals ≤ R.locals) : va_CN R s args own index y host bytes maxL none (kWs y bytes maxL none) rm mc ms n ∧ y.name = "<init>" ∧ (Cond.instanceMethod y).before args s = true := by
  obtain ⟨w0, w2, w4, w5, hd⟩ := hv
  exact ⟨va_cnB n G.2.2.2.2 (lwGc w5) rfl hr.1 hr.2 w1 (G.2.2.2.2 _ w4) hd hR, w0, G.2.2.2.2 _ w2⟩
/-- a constructor called -/
theorem fk_C {post : va_W → Prop} (G : CallFix p m c cc nL s args LW own) (hE : va_AO RX0 s) (hC : cSt V s) (hB : eB V ≤ s.heap.size) (hV : kOk V) (h : cH V s H locs (a ++ o9)) (hM : kC l y bytes maxL rm (frV V a H.size) a (.ref b :: As) post mc ms) (w1 : Cond.methodLink own index y ∈ LW) (hv : kCw y bytes maxL n) (hr : rm.cells = mc ∧ rm.slots = ms) (hR : rm.frames + 1 ≤ R.frames ∧ 8 + (maxL + 11) + rm.locals ≤ R.locals) (hn : As.length = n) (hst : st0 = As.reverse ++ .ref b :: rest) (hsz : ls.size = nL) (hro : (rest.map fun v => v.category).sum ≤ 8) (hd : decode cc pc = .ok (.invokespecial index, 3)) (hf : cells + mc ≤ R.cells ∧ slots + ms ≤ R.slots)
    (k : ∀ (u : va_W) (H : Heap) (locs : List Loc), post u → cH V s H locs (u ++ o9) → W p l e R s m args below meth c H locs (cells + mc) (slots + ms) Q (F0 m (pc + 3) ls rest)) : W p l e R s m args below meth c H locs cells slots Q (F0 m pc ls st0) :=
  va_callv (va_runI G hM (kC_cw G w1 hv hr hR) ⟨kC_blind, kC_pre hE hC hB hV h⟩ rfl hn hsz hst (lv_room hro) hd hf) h.2.2 (fun q _ hq => frSub h hB hV q hq) (fun q hq => frSub h hB hV q hq)
    (fun u t H1 locs1 ht _ hp hb _ hq hS => k u H1 locs1 hp (frBack hB hV h ht hb hq hS))
/-- .. a private one of a nest mate -/
theorem fk_Cn {host : String} {post : va_W → Prop} (G : CallFix p m c cc nL s args LW own) (hE : va_AO RX0 s) (hC : cSt V s) (hB : eB V ≤ s.heap.size) (hV : kOk V) (h : cH V s H locs (a ++ o9)) (hM : kC l y bytes maxL rm (frV V a H.size) a (.ref b :: As) post mc ms) (w1 : va_Nw (.methodLinkNest own index y host) s) (hv : kCw y bytes maxL n) (hr : rm.cells = mc ∧ rm.slots = ms) (hR : rm.frames + 1 ≤ R.frames ∧ 8 + (maxL + 11) + rm.locals ≤ R.locals) (hn : As.length = n) (hst : st0 = As.reverse ++ .ref b :: rest) (hsz : ls.size = nL) (hro : (rest.map fun v => v.category).sum ≤ 8) (hd : decode cc pc = .ok (.invokespecial index, 3)) (hf : cells + mc ≤ R.cells ∧ slots + ms ≤ R.slots)
    (k : ∀ (u : va_W) (H : Heap) (locs : List Loc), post u → cH V s H locs (u ++ o9) → W p l e R s m args below meth c H locs (cells + mc) (slots + ms) Q (F0 m (pc + 3) ls rest)) : W p l e R s m args below meth c H locs cells slots Q (F0 m pc ls st0) :=
  va_callv (va_runIN G hM (kC_cn G w1 hv hr hR) ⟨kC_blind, kC_pre hE hC hB hV h⟩ rfl hn hsz hst (lv_room hro) hd hf) h.2.2 (fun q _ hq => frSub h hB hV q hq) (fun q hq => frSub h hB hV q hq)
    (fun u t H1 locs1 ht _ hp hb _ hq hS => k u H1 locs1 hp (frBack hB hV h ht hb hq hS))
/-- a new object -/
theorem nw_N (G : CallFix p m c cc nL s args LW own) (hC : cSt V s) (hB : eB V ≤ s.heap.size) (hV : kOk V) (h : cH V s H locs ws) {C : String} {T : u_T} {N ci : Nat} (hin : ∀ w ∈ u_ws C T N, w ∈ LW) (ty : Nat → FieldType) (hty : ∀ k, k < N → parseFieldDescriptor (T k).2.2.1 = some (ty k)) (w1 : Cond.classLink own index C ∈ LW) (w2 : Cond.instantiable C N ∈ LW) (w3 : Cond.initialized C ∈ LW) (hc : vwCl[ci]? = some (C, T, N)) {fs : List Value} (hfs : ∀ j, j < N → defaultValue (ty j) = vp_V fs j) (hcells : cells + 1 ≤ R.cells) (hslots : slots + N ≤ R.slots) (hd : decode cc pc = .ok (.new index, 3))
    (k : ∀ (q : Nat) (H : Heap), cH V s H locs ([(q, (.inr (ci, fs) : va_E))] ++ ws) → W p l e R s m args below meth c H locs (cells + 1) (slots + N) Q (F0 m (pc + 3) ls (.ref q :: rest))) : W p l e R s m args below meth c H locs cells slots Q (F0 m pc ls rest) :=
  va_new (own := own) G.1 G.2.1 G.2.2.2.2 hin ty hty G.2.2.2.1 (G.2.2.2.2 _ w1) (G.2.2.2.2 _ w2) (G.2.2.2.2 _ w3) hC.1 h.1 h.2.1 h.2.2 (fun q hq => hV q (Nat.le_trans hB hq)) hc hfs hcells hslots hd
    (fun q H1 hP1 hD1 hS1 => k q H1 (cH_2 ⟨hP1, hD1, hS1⟩))
/-- a new array -/
theorem nw_A (G : CallFix p m c cc nL s args LW own) (hC : cSt V s) (hB : eB V ≤ s.heap.size) (hV : kOk V) (h : cH V s H locs ws) {atype : ArrayType} {ty : FieldType} (t : Nat) (hT : (eT V)[t]? = some (eC V t, ty)) (hR9 : ∀ A B, va_RA s A ty → va_RA s B ty → A = B) (hw : Cond.arrayClass (newarray.typeOf atype) ∈ LW) (hty : newarray.typeOf atype = ty) {a0 : vp_A} (N' : Nat) (ha : ∀ cA : ClassId, vp_cell cA a0 = arrV cA N' (fun _ => defaultValue ty)) {x : Int32} (hx : x = nI N') (hN : N' ≤ 1000) (hb : componentBytes ty ≤ 8) (hcells : cells + 1 ≤ R.cells) (hslots : slots + N' ≤ R.slots) (hd : decode cc pc = .ok (.newarray atype, 2))
    (k : ∀ (q : Nat) (H : Heap), cH V s H locs (ws ++ [(q, (.inl (eC V t, a0) : va_E))]) → W p l e R s m args below meth c H locs (cells + 1) (slots + N') Q (F0 m (pc + 2) ls (.ref q :: rest))) : W p l e R s m args below meth c H locs cells slots Q (F0 m pc ls (.int x :: rest)) := by
  subst hx
  refine va_newa (ty := ty) (a0 := a0) (N' := N') G.1 G.2.1 (G.2.2.2.2 _ hw) hty hC.1 h.1 h.2.1 h.2.2 (fun q hq => hV q (Nat.le_trans hB hq)) ha (nI_pos (by omega)) (nI_clamp (by omega)) (Nat.le_trans (Nat.mul_le_mul hN hb) (by decide)) hcells hslots hd ?_
  intro q cA H1 hK1 hP1 hD1 hS1
  have ec : cA = eC V t := hR9 _ _ (hK1.2 (eT V).length (cA, ty) (by rw [List.getElem?_append_right (Nat.le_refl _), Nat.sub_self]; rfl)).2 (hC.1.2 t (eC V t, ty) hT).2
  subst ec
  exact k q H1 ⟨hP1, hD1, hS1⟩
/-- a new array of boards -/
theorem nw_Q (G : CallFix p m c cc nL s args LW own) (hE : va_AO RX0 s) (hC : cSt V s) (hB : eB V ≤ s.heap.size) (hV : kOk V) (h : cH V s H locs ws) (w1 : Cond.classLink own index RX0 ∈ LW) {x : Int32} (hx : x = nI 8) (hcells : cells + 1 ≤ R.cells) (hslots : slots + 8 ≤ R.slots) (hd : decode cc pc = .ok (.anewarray index, 3))
    (k : ∀ (q : Nat) (H : Heap), cH V s H locs (ws ++ [(q, (.inl (eC V 2, 8, .inr (.inr (.inr (.inr (fun _ => none))))) : va_E))]) → W p l e R s m args below meth c H locs (cells + 1) (slots + 8) Q (F0 m (pc + 3) ls (.ref q :: rest))) : W p l e R s m args below meth c H locs cells slots Q (F0 m pc ls (.int x :: rest)) := by
  subst hx
  refine va_newq (C := RX0) (N' := 8) G.1 G.2.1 G.2.2.2.1 (G.2.2.2.2 _ w1) hE hC.1 h.1 h.2.1 h.2.2 (fun q hq => hV q (Nat.le_trans hB hq)) (nI_pos (by decide)) (nI_clamp (by decide)) (by decide) hcells hslots hd ?_
  intro q cA H1 hK1 hP1 hD1 hS1
  have ec : cA = eC V 2 := by
    obtain ⟨-, -, -, -, -, e1⟩ := (hK1.2 (eT V).length (cA, .object RX0) (by rw [List.getElem?_append_right (Nat.le_refl _), Nat.sub_self]; rfl)).2
    obtain ⟨-, -, -, -, -, e2⟩ := (hC.1.2 2 (eC V 2, .object RX0) rfl).2
    exact Option.some.inj (e1.symm.trans e2)
  subst ec
  exact k q H1 ⟨hP1, hD1, hS1⟩
/-- a final field of the front cell -/
theorem nw_F {ci : Nat} {fs : List Value} (G : CallFix p m c cc nL s args LW own) (hC : cSt V s) (h : cH V s H locs ((b, (.inr (ci, fs) : va_E)) :: ws)) {C : String} {T : u_T} {N : Nat} (hin : ∀ w ∈ u_ws C T N, w ∈ LW) (ty0 : Nat → FieldType) (hty : ∀ k, k < N → parseFieldDescriptor (T k).2.2.1 = some (ty0 k)) (hnm : ∀ a, a < N → ∀ b, b < N → a ≠ b → (T a).2.1 ≠ (T b).2.1) (hc : vwCl[ci]? = some (C, T, N)) (k0 : Nat) (hk : k0 < N) (hl : Cond.fieldLink own index (T k0).1 (T k0).2.1 (T k0).2.2.1 ∈ LW) (hfin : (T k0).2.2.2 = true) (hname : meth.name = "<init>") (hdecl : (T k0).1 = own) {q : Nat} (hn : narrow (ty0 k0) (.ref q) = .ref q) (hfit : fits (ty0 k0) (.ref q) = true) (hlen : k0 < fs.length) (hd : decode cc pc = .ok (.putfield index, 3))
    (k : ∀ (H : Heap) (locs : List Loc), cH V s H locs ((b, (.inr (ci, fs.set k0 (.ref q)) : va_E)) :: ws) → W p l e R s m args below meth c H locs cells slots Q (F0 m (pc + 3) ls rest)) : W p l e R s m args below meth c H locs cells slots Q (F0 m pc ls (.ref q :: .ref b :: rest)) :=
  va_putF (D := eD V) G.1 G.2.1 G.2.2.2.2 hin ty0 hty hnm G.2.2.2.1 hC.1 h.1 h.2.1 h.2.2 0 rfl hc k0 hk (G.2.2.2.2 _ hl) (fun _ z => z) hfin hname hdecl (hty k0 hk) hn hfit hlen hd
    (fun H1 locs1 hP1 hD1 hS1 => k H1 locs1 ⟨hP1, hD1, hS1⟩)
/-- .. one that isn't final -/
theorem nw_P {ci : Nat} {fs : List Value} (G : CallFix p m c cc nL s args LW own) (hC : cSt V s) (h : cH V s H locs ((b, (.inr (ci, fs) : va_E)) :: ws)) {C : String} {T : u_T} {N : Nat} (hin : ∀ w ∈ u_ws C T N, w ∈ LW) (ty0 : Nat → FieldType) (hty : ∀ k, k < N → parseFieldDescriptor (T k).2.2.1 = some (ty0 k)) (hnm : ∀ a, a < N → ∀ b, b < N → a ≠ b → (T a).2.1 ≠ (T b).2.1) (hc : vwCl[ci]? = some (C, T, N)) (k0 : Nat) (hk : k0 < N) (hl : Cond.fieldLink own index (T k0).1 (T k0).2.1 (T k0).2.2.1 ∈ LW) (hfin : (T k0).2.2.2 = false) {v : Value} (hn : narrow (ty0 k0) v = v) (hfit : fits (ty0 k0) v = true) (hlen : k0 < fs.length) (hd : decode cc pc = .ok (.putfield index, 3))
    (k : ∀ (H : Heap) (locs : List Loc), cH V s H locs ((b, (.inr (ci, fs.set k0 v) : va_E)) :: ws) → W p l e R s m args below meth c H locs cells slots Q (F0 m (pc + 3) ls rest)) : W p l e R s m args below meth c H locs cells slots Q (F0 m pc ls (v :: .ref b :: rest)) :=
  va_put (D := eD V) G.1 G.2.1 G.2.2.2.2 hin ty0 hty hnm G.2.2.2.1 hC.1 h.1 h.2.1 h.2.2 0 rfl hc k0 hk (G.2.2.2.2 _ hl) (fun _ z => z) hfin (hty k0 hk) hn hfit hlen hd
    (fun H1 locs1 hP1 hD1 hS1 => k H1 locs1 ⟨hP1, hD1, hS1⟩)
/-- a field of the front cell read -/
theorem nw_G {ci : Nat} {fs : List Value} (G : CallFix p m c cc nL s args LW own) (hC : cSt V s) (h : cH V s H locs ((b, (.inr (ci, fs) : va_E)) :: ws)) {C : String} {T : u_T} {N : Nat} (hin : ∀ w ∈ u_ws C T N, w ∈ LW) (hc : vwCl[ci]? = some (C, T, N)) (k0 : Nat) (hk : k0 < N) (hl : Cond.fieldLink own index (T k0).1 (T k0).2.1 (T k0).2.2.1 ∈ LW) {v : Value} (hv : fs[k0]? = some v) (hd : decode cc pc = .ok (.getfield index, 3))
    (k : W p l e R s m args below meth c H locs cells slots Q (F0 m (pc + 3) ls (v :: rest))) : W p l e R s m args below meth c H locs cells slots Q (F0 m pc ls (.ref b :: rest)) :=
  va_get (D := eD V) G.1 G.2.1 G.2.2.2.2 hin G.2.2.2.1 hC.1 h.1 0 rfl hc k0 hk (G.2.2.2.2 _ hl) (fun _ z => z) hv hd k
theorem nw_cs (G : CallFix p m c cc nL s args LW own) (hC : cSt V s) (h : cH V s H locs ws) {index : Nat} (hl : Cond.fieldLink own index "java/lang/String" "COMPACT_STRINGS" "Z" ∈ LW) (hd : decode cc pc = .ok (.getstatic index, 3))
    (kk : W p l e R s m args below meth c H locs cells slots Q (F0 m (pc + 3) ls (.int 1 :: rest))) : W p l e R s m args below meth c H locs cells slots Q (F0 m pc ls rest) :=
  va_gets G.1 G.2.1 hC.2.2.2.2.2.2.1.1 h.2.2 G.2.2.2.1 (G.2.2.2.2 _ hl) (fun _ h => h) hd kk
theorem kc_ret {post : va_W → Prop} {u : va_W} (hQ : Q = MQ below (va_Qv post (fun u t => cAt V u t) (eA V)) args s mc ms (eA V)) (G : CallFix p m c cc nL s args LW own) (hret : meth.sig.returnType = none) (hlocks : meth.locks = false) (h : cH V s H locs u) (hp : post u) (hc : cells ≤ mc) (hs : slots ≤ ms) (hd : decode cc pc = .ok (.return_, 1)) : W p l e R s m args below meth c H locs cells slots Q (F0 m pc ls []) :=
  hQ ▸ W.widen hc hs (W.vret G.1 G.2.1 hret (fun t ht _ => ⟨⟨u, rfl, hp, kAt ht h⟩, h.2.2.F ht⟩) h.2.2.2.2 hd)
theorem ob_init (G : CallFix p m c cc nL s args LW own) (hsz : ls.size = nL) (w1 : Cond.methodLink own index Lib.objectInit ∈ LW) (hd : decode cc pc = .ok (.invokespecial index, 3)) (hf : 1 ≤ R.frames) (hl : (rest.map fun v => v.category).sum + 12 ≤ R.locals)
    (k : W p l e R s m args below meth c H locs cells slots Q (F0 m (pc + 3) ls rest)) : W p l e R s m args below meth c H locs cells slots Q (F0 m pc ls (.ref b :: rest)) :=
  W.objInit G.1 G.2.1 G.2.2.2.1 (G.2.2.2.2 _ w1) (G.2.2.2.2 _ mw_90) (G.2.2.2.2 _ mw_91) rfl (hsz.trans G.2.2.1.symm) rfl hd hf (by show 2 * 0 + _ + 12 ≤ _; omega) k
end NW
