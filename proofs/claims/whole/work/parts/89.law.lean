/-! THE CLAIM OUT OF ONE WALK OF THE LAW'S BODY. Your part is whole_start (and what it stands on); all else here is the same for every law, but numbers. -/
def R_law : String := "SprintBoardLaw"
def lw_P (b : Addr) (xs : List Int32) (args : Array Value) (s : State) : Prop := args = #[.ref b] ∧ s.IntsAt b xs ∧ xs.length ≤ 1536 ∧ (Jvm.Cond.and given_1 narrow_1).before args s = true
/-- what a walk over the start with the record d0 says of its end, said of the start itself -/
theorem lw_closed {s t : State} {o : Outcome} {d0 : Drawn} {L : List Loc} {k n : Nat} (hd0 : s.drawn.sameBut d0 lw_cs) (hv : ∃ v, o = .returned v) (hW : (s.setDrawn d0).WarmedH t.vm) (hs : (s.setDrawn d0).sameButNew ({ t with vm := s.vm } : State) L k n) : State.butDraws s t lw_cs (fun t1 => Framed s o t1 L k n) := by
  have h2 : t.drawn = d0 := congrArg State.drawn hs.1
  refine ⟨⟨hv, hW, State.sameButNew.setDrawn hs s.drawn⟩, ?_, by decide⟩
  rw [h2]
  exact hd0
def lw_Q (_ : Array Value) (s : State) (o : Outcome) (t : State) : Prop := o = .returned (some (.int 1)) ∧ State.butDraws s t lw_cs (fun t1 => Framed s o t1 [] 603072 7194730)
def lw_Z (below : List Frame) (a : Array Value) (s : State) : State → Prop := fun t => ∃ o, t.status = .running ∧ Ended t below o ∧ lw_Q a s o t
/-- the law's own end, with 1 on the stack, nothing written that was there before, its room as the claim has it; d0: the record of draws at this point (at the entry s.drawn: begin with 'refine W.base ?_' and 'have hd0 := Drawn.sameBut.refl s.drawn lw_cs') -/
theorem lw_ret {p : Program} {l : Launch} {e : Env} {s : State} {m : MethodId} {below : List Frame} {meth : Method} {c : Code} {b : Nat} {d0 : Drawn} (hd0 : s.drawn.sameBut d0 lw_cs) (hx : p.tables.exec = Jvm.exec) (hb : c.code = code) (hr : meth.sig.returnType = ret) (hlocks : meth.locks = false) {pc : Nat} {H : Heap} {ls : Array Slot} (hdg : decode code pc = .ok (.ireturn, 1)) : W p l e room_1 (s.setDrawn d0) m #[Value.ref b] below meth c H [] 603072 7194730 (lw_Z below #[Value.ref b] s) (F0 m pc ls [.int 1]) := by
  intro T hT X
  obtain ⟨fs, hret, hrun, hended, hW, hframe⟩ := X.leave (v := some (.int 1)) (hlocks := hlocks) (fun h => by rw [hr] at h; cases h)
  have hmeth' : T.vm.method? m = some meth := X.method'
  refine ⟨T.setFrames fs, ?_, .returned (some (.int 1)), hrun, hended, rfl, lw_closed hd0 ⟨_, rfl⟩ hW hframe⟩
  jvm_step X.here [X.here.top, hx, hb, hdg, hmeth', hr, ret, narrow_b1]
  (try refine ⟨rfl, ?_⟩); (try refine ⟨rfl, ?_⟩)
  first | (intro acts; rw [hret _ acts rfl rfl rfl]) | rw [hret _ _ rfl rfl rfl]
  exact Steps.refl _
/-- what holds at the law's entry: the machine, the code, the tables' words (any of lw_tbl by 'hts w (by decide +kernel)'), the script of L ints xs at the cell b, what the Statement gives of the start (any of its parts by flat_of_before) -/
def lw_At (p : Program) (s : State) (m : MethodId) (meth : Method) (c : Code) (b L : Nat) (xs : Nat → Int32) : Prop :=
  p.tables.exec = Jvm.exec ∧ c.code = code ∧ meth.sig.returnType = ret ∧ c.maxLocals = 9 ∧ s.vm.findClass R_law = some m.cls ∧ (∀ w ∈ lw_tbl, w.before #[Value.ref b] s = true) ∧ va_X b L xs s s.heap ∧ b < s.heap.size ∧ meth.locks = false ∧ (Jvm.Cond.and given_1 narrow_1).before #[Value.ref b] s = true
/-! THE LAW: its start. -/
theorem V9_St {V : kEnv} {x : Nat → Nat → Nat} {a mo : Nat → Nat} {s : State} (h : cSt V s) : cSt (V9 V x a mo) s := by
  have e : ∀ i, 200 ≤ i → i < 500 → eX (V9 V x a mo) i = eX V i := fun i h1 h2 => by
    show eX9 x a (eX V) mo i = _
    unfold eX9
    rw [if_neg (by omega), if_neg (by omega), if_pos h2]
  obtain ⟨h1, h2, ⟨e1, e2⟩, ⟨x1, x2⟩, h5, ⟨t1, t2⟩, ⟨j1, j2, j3, j4, j5, j6, j7, j8⟩, c1, c2⟩ := h
  refine ⟨h1, h2, ⟨?_, ?_⟩, ⟨x1, x2⟩, h5, ⟨?_, ?_⟩, ⟨j1, ?_, ?_, ?_, ?_, j6, j7, j8⟩, c1, c2⟩
  · rw [e 400 (by decide) (by decide)]; exact e1
  · rw [e 400 (by decide) (by decide)]; exact e2
  · exact vk_S_c (fun i hi => e (200 + i) (by omega) (by omega)) (fun i hi => e (300 + i) (by omega) (by omega)) t1
  · intro i q hi
    have hi2 : i < 23 := (List.getElem?_eq_some_iff.mp hi).1
    rw [e (200 + i) (by omega) (by omega)]
    exact t2 i q hi
  · rw [e 401 (by decide) (by decide)]; exact j2
  · rw [e 402 (by decide) (by decide)]; exact j3
  · rw [e 401 (by decide) (by decide)]; exact j4
  · rw [e 402 (by decide) (by decide)]; exact j5
set_option maxHeartbeats 4000000 in
set_option maxRecDepth 100000 in
theorem whole_start {p : Program} {e : Env} {s : State} {m : MethodId} {below : List Frame} {meth : Method} {c : Code} (l : Launch) (hflags : l.flags = flags0) {b L : Nat} {xs : Nat → Int32} (hL : L ≤ 1536) (C0 : lw_At p s m meth c b L xs) : W p l e room_1 s m #[Value.ref b] below meth c s.heap [] 0 0 (lw_Z below #[Value.ref b] s) (entryFrame m ([Value.ref b] : List Value).toArray 9) := by
  obtain ⟨hx, hb, hr, hml, hown, hts, hX, hbl, hlocks, hgv⟩ := id C0
  have hs : ∀ w ∈ nf, w.before #[Value.ref b] s = true := flat_of_before _ hgv
  obtain ⟨V, hVA, hVB, hC, hE⟩ := en_St hts hs
  have hst : l.stackTraces = false := by unfold Launch.stackTraces; rw [hflags]; decide
  have hV : kOk V := fun q hq => by rw [hVA]; rw [hVB] at hq; exact hq
  have hB : eB V ≤ s.heap.size := by rw [hVB]; exact Nat.le_refl _
  have hbA : ¬ eA V b := by rw [hVA]; exact Nat.not_le.mpr hbl
  have G : CallFix p m c cL_law 9 s #[Value.ref b] LW RL := ⟨hx, hb, hml, hown, fun w h => hts w (List.mem_filter.mp h).1⟩
  have hcd := G.2.1
  have h : cH V s s.heap [] [] := ⟨fun k q hk => by simp at hk, ⟨fun i j p q hi => by simp at hi, fun k q hk => by simp at hk⟩, va_S.rf⟩
  have hl := lv_entry ([.ref b]) (n := 9) (Nat.le_of_ble_eq_true rfl)
  rw [lg_entry_eq]
  generalize (lg_sl ([.ref b]) ++ List.replicate (9 - (lg_sl ([.ref b])).length) Slot.unset).toArray = ls at hl ⊢
  have hl : lv_has ls 9 [(0, .ref b)] := hl
  refine nw_N (ci := 7) (fs := zX3) G hC hB hV h iwX3 tyX3 tyX3_ok mw_84 mw_85 mw_56 rfl (fun j hj => by
    match j, hj with
    | 0, _ => rfl
    | 1, _ => rfl
    | 2, _ => rfl
    | 3, _ => rfl
    | 4, _ => rfl
    | 5, _ => rfl
    | 6, _ => rfl
    | 7, _ => rfl
    | 8, _ => rfl
    | 9, _ => rfl
    | 10, _ => rfl) (Nat.le_of_ble_eq_true rfl) (Nat.le_of_ble_eq_true rfl) dL_law_0 (fun sb H h => ?_)
  refine lv_dup hx hcd dL_law_3 rfl ?_
  refine fk_C (As := []) (b := sb) (rest := [.ref sb]) G hE hC hB hV h (met_X3_init l _ (frV_ok _ _ _) sb) mw_86 kw_X3_init ⟨rfl, rfl⟩ ⟨Nat.le_of_ble_eq_true rfl, Nat.le_of_ble_eq_true rfl⟩ rfl rfl hl.1 (Nat.le_of_ble_eq_true rfl) dL_law_4 ⟨Nat.le_of_ble_eq_true rfl, Nat.le_of_ble_eq_true rfl⟩ (fun u H locs hp h => ?_)
  obtain ⟨x0, x1, x2, x3, hq, qa, xh, tq, t1, t2, t3, ts, tb, lq, lb, cq, rfl⟩ := hp
  replace h : cH V s H locs (sBk V sb x0 x1 x2 x3 hq qa xh tq t1 t2 t3 ts tb lq lb cq) := by
    rw [List.append_nil] at h
    exact h
  refine lv_astore_n (lv' := [(1, .ref sb), (0, .ref b)]) hx hcd dL_law_7 rfl hl (by decide) rfl (fun ls hl => ?_)
  refine nw_N (ci := 8) (fs := zX4) G hC hB hV h iwX4 tyX4 tyX4_ok mw_1466 mw_1467 mw_64 rfl (fun j hj => by
    match j, hj with
    | 0, _ => rfl
    | 1, _ => rfl
    | 2, _ => rfl
    | 3, _ => rfl
    | 4, _ => rfl
    | 5, _ => rfl
    | 6, _ => rfl
    | 7, _ => rfl
    | 8, _ => rfl
    | 9, _ => rfl
    | 10, _ => rfl
    | 11, _ => rfl
    | 12, _ => rfl
    | 13, _ => rfl
    | 14, _ => rfl
    | 15, _ => rfl
    | 16, _ => rfl
    | 17, _ => rfl
    | 18, _ => rfl
    | j + 19, h9 => exact absurd h9 (by omega)) (Nat.le_of_ble_eq_true rfl) (Nat.le_of_ble_eq_true rfl) dL_law_8 (fun mb H h => ?_)
  refine lv_dup hx hcd dL_law_11 rfl ?_
  refine fk_C (As := []) (b := mb) (rest := [.ref mb]) G hE hC hB hV h (met_X4_init l _ (frV_ok _ _ _) mb) mw_1468 kw_X4_init ⟨rfl, rfl⟩ ⟨Nat.le_of_ble_eq_true rfl, Nat.le_of_ble_eq_true rfl⟩ rfl rfl hl.1 (Nat.le_of_ble_eq_true rfl) dL_law_12 ⟨Nat.le_of_ble_eq_true rfl, Nat.le_of_ble_eq_true rfl⟩ (fun u H locs hp h => ?_)
  obtain ⟨q0, q1, q2, q3, q4, q5, q6, q7, q8, rfl⟩ := hp
  replace h : cH V s H locs (mBk V mb q0 q1 q2 q3 q4 q5 q6 q7 q8 ++ sBk V sb x0 x1 x2 x3 hq qa xh tq t1 t2 t3 ts tb lq lb cq) := h
  refine lv_astore_n (lv' := [(2, .ref mb), (1, .ref sb), (0, .ref b)]) hx hcd dL_law_15 rfl hl (by decide) rfl (fun ls hl => ?_)
  refine lv_iconst (v := nI 1) hx hcd dL_law_16 (by decide) ?_
  refine nw_A (atype := .long) (ty := .long) (a0 := (1, .inr (.inl (fun _ => 0)))) G hC hB hV h 4 rfl (fun A B h1 h2 => Option.some.inj (h1.symm.trans h2)) mw_1927 rfl 1 (fun _ => rfl) rfl (by decide) (by decide) (Nat.le_of_ble_eq_true rfl) (Nat.le_of_ble_eq_true rfl) dL_law_17 (fun o H h => ?_)
  refine lv_astore_n (lv' := [(3, .ref o), (2, .ref mb), (1, .ref sb), (0, .ref b)]) hx hcd dL_law_19 rfl hl (by decide) rfl (fun ls hl => ?_)
  refine lv_iconst (v := nI 1) hx hcd dL_law_20 (by decide) ?_
  refine nw_A (atype := .double) (ty := .double) (a0 := (1, .inr (.inr (.inr (.inl (fun _ => 0)))))) G hC hB hV h 5 rfl (fun A B h1 h2 => Option.some.inj (h1.symm.trans h2)) mw_1928 rfl 1 (fun _ => rfl) rfl (by decide) (by decide) (Nat.le_of_ble_eq_true rfl) (Nat.le_of_ble_eq_true rfl) dL_law_21 (fun od H h => ?_)
  refine lv_astore (lv' := [(4, .ref od), (3, .ref o), (2, .ref mb), (1, .ref sb), (0, .ref b)]) hx hcd dL_law_23 hl (by decide) rfl (fun ls hl => ?_)
  refine lv_iconst (v := nI 0) hx hcd dL_law_25 (by decide) ?_
  refine lv_istore (lv' := [(5, .int (nI 0)), (4, .ref od), (3, .ref o), (2, .ref mb), (1, .ref sb), (0, .ref b)]) hx hcd dL_law_26 hl (by decide) rfl (fun ls hl => ?_)
  have hC9 : cSt (V9 V (bx9 x0 x1 x2 x3 xh) (ax9 sb hq qa tq cq t1 t2 t3 lq ts) (mo9 mb q0 q1 q2 q3 q4 q5 q6 q7 q8 o od)) s := V9_St hC
  have h9 := cH_start h rfl
  generalize hW : V9 V (bx9 x0 x1 x2 x3 xh) (ax9 sb hq qa tq cq t1 t2 t3 lq ts) (mo9 mb q0 q1 q2 q3 q4 q5 q6 q7 q8 o od) = U at hC9 h9
  have hA9 : eA U = eA V := by rw [← hW]; rfl
  have hB9 : eB U = eB V := by rw [← hW]; rfl
  have e601 : eX U 601 = od := by rw [← hW]; rfl
  have e600 : eX U 600 = o := by rw [← hW]; rfl
  have e500 : eX U 500 = mb := by rw [← hW]; rfl
  have e96 : eX U 96 = sb := by rw [← hW]; rfl
  have hl9 : lv_has ls 9 (lv0 U b (3 * 0)) := by
    show lv_has ls 9 [(5, .int (nI 0)), (4, .ref (eX U 601)), (3, .ref (eX U 600)), (2, .ref (eX U 500)), (1, .ref (eX U 96)), (0, .ref b)]
    rw [e601, e600, e500, e96]
    exact hl
  refine law_loop (V := U) (c0 := 300) (d0 := 5000) hst (fun q hq => by rw [hA9]; rw [hB9] at hq; exact hV q hq) G hC9 (by rw [hB9]; exact hB) hX hbl (by rw [hA9]; exact hbA) hL (Nat.le_of_ble_eq_true rfl) (Nat.le_of_ble_eq_true rfl) (Nat.le_of_ble_eq_true rfl) (Nat.le_of_ble_eq_true rfl) (fun H locs ls cells slots hS hc hsl => ?_) 513 0 (by decide) (by decide) _ _ _ _ H locs ls _ _ (rel_00 lb tb) h9 hl9 (Nat.le_of_ble_eq_true rfl) (Nat.le_of_ble_eq_true rfl)
  refine lv_iconst (v := 1) hx hcd dL_law_2874 (by decide) ?_
  refine va_forget (fun q hq => ?_) ?_
  · have q9 := hS.2.2 q hq
    rw [hA9, hVA] at q9
    exact q9
  · refine W.widen (k := 603072) (n := 7194730) (Nat.le_trans hc (Nat.le_of_ble_eq_true rfl)) (Nat.le_trans hsl (Nat.le_of_ble_eq_true rfl)) ?_
    exact W.base (lw_ret (Drawn.sameBut.refl s.drawn lw_cs) hx hb hr hlocks dL_law_2875)
