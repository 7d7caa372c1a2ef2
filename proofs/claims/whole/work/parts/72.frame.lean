/-! A CALL BESIDE OTHER CELLS: a method runs over its own cells a; the cells b beside them stay. -/
def frA (ws : va_W) (n : Nat) (q : Nat) : Prop := (∃ e, e ∈ ws ∧ e.1 = q) ∨ n ≤ q
def frV (V : kEnv) (ws : va_W) (n : Nat) : kEnv := (eD V, eC V, eX V, frA ws n, n)
theorem frV_ok (V : kEnv) (ws : va_W) (n : Nat) : kOk (frV V ws n) := fun _ h => Or.inr h
theorem cSt.fr {V : kEnv} {U : State} {ws : va_W} {n : Nat} (h : cSt V U) (hs : ∀ q, frA ws n q → eA V q) : cSt (frV V ws n) U := by
  obtain ⟨h1, ⟨n1, n2, n3, n4⟩, ⟨e1, e2⟩, ⟨x1, x2⟩, h5, ⟨t1, t2⟩, ⟨j1, j2, j3, j4, j5, j6, j7, j8⟩, c1, c2⟩ := h
  exact ⟨h1, ⟨n1, n2, n3, n4⟩, ⟨e1.narrow hs, e2.narrow hs⟩, ⟨x1.narrow hs, x2.narrow hs⟩, h5, ⟨t1.narrow hs, t2⟩, ⟨j1.narrow hs, j2.narrow hs, j3.narrow hs, j4.narrow hs, j5.narrow hs, j6.narrow hs, j7, j8⟩, c1, c2⟩
theorem app_l {a b : va_W} {i : Nat} {q : Nat × va_E} (h : a[i]? = some q) : (a ++ b)[i]? = some q := by
  rw [List.getElem?_append_left (List.getElem?_eq_some_iff.mp h).1]; exact h
theorem app_r {a b : va_W} {i : Nat} {q : Nat × va_E} (h : b[i]? = some q) : (a ++ b)[a.length + i]? = some q := by
  rw [List.getElem?_append_right (Nat.le_add_right _ _), Nat.add_sub_cancel_left]; exact h
theorem app_x {a b : va_W} {i : Nat} {q : Nat × va_E} (h : (a ++ b)[i]? = some q) : a[i]? = some q ∨ ∃ j, i = a.length + j ∧ b[j]? = some q := by
  rcases Nat.lt_or_ge i a.length with c | c
  · rw [List.getElem?_append_left c] at h; exact Or.inl h
  · rw [List.getElem?_append_right c] at h; exact Or.inr ⟨i - a.length, by omega, h⟩
section FR
variable {V : kEnv} {s : State} {H : Heap} {locs : List Loc} {a a' b : va_W}
theorem frSub (h : cH V s H locs (a ++ b)) (hB : eB V ≤ s.heap.size) (hV : kOk V) : ∀ q, frA a H.size q → eA V q := by
  rintro q (⟨e, he, rfl⟩ | hq)
  · obtain ⟨i, hi⟩ := List.getElem?_of_mem he
    exact h.2.1.2 i e (app_l hi)
  · exact hV q (Nat.le_trans hB (Nat.le_trans h.2.2.1 hq))
theorem frPre {av : List Value} (hC : cSt V s) (hB : eB V ≤ s.heap.size) (hV : kOk V) (h : cH V s H locs (a ++ b)) : ∀ U : State, U.heap = H → s.WarmedH U.vm → va_Pc av (cPre (frV V a H.size) a) av.toArray U := by
  intro U hU hW
  have hs := frSub h hB hV
  obtain ⟨hP, hD, hS⟩ := h
  refine ⟨rfl, (hC.go hW (fun q h1 h2 => by rw [hU]; exact hS.2.1 q h1 h2)).fr hs, ?_, ?_, ?_⟩
  · show H.size ≤ U.heap.size
    rw [hU]
    exact Nat.le_refl _
  · rw [hU]
    exact fun k q hk => hP k q (app_l hk)
  · exact ⟨fun i j p q hi hj e => hD.1 i j p q (app_l hi) (app_l hj) e, fun k q hk => Or.inl ⟨q, List.mem_of_getElem? hk, rfl⟩⟩
theorem frBack {t : State} {H1 : Heap} {locs1 : List Loc} (hB : eB V ≤ s.heap.size) (hV : kOk V) (h : cH V s H locs (a ++ b)) (ht : t.heap = H1) (hb : cAt (frV V a H.size) a' t) (hq : ∀ q : Nat, q < H.size → ¬ frA a H.size q → H1[q]? = H[q]?) (hS1 : va_S (eA V) s.heap H1 locs1) : cH V s H1 locs1 (a' ++ b) := by
  have hs := frSub h hB hV
  obtain ⟨hP, hD, hS⟩ := h
  obtain ⟨hP1, hD1⟩ := hb
  rw [ht] at hP1
  have nb : ∀ (j : Nat) (q : Nat × va_E), b[j]? = some q → q.1 < H.size ∧ ¬ frA a H.size q.1 := by
    intro j q hj
    have hlt := (hP _ q (app_r hj)).lt
    refine ⟨hlt, ?_⟩
    rintro (⟨e, he, hee⟩ | hge)
    · obtain ⟨i, hi⟩ := List.getElem?_of_mem he
      have h1 := hD.1 i (a.length + j) e q (app_l hi) (app_r hj) hee
      have h2 := (List.getElem?_eq_some_iff.mp hi).1
      omega
    · omega
  refine ⟨fun k q hk => ?_, ⟨fun i j p q hi hj e => ?_, fun k q hk => ?_⟩, hS1⟩
  · rcases app_x hk with hk | ⟨j, -, hj⟩
    · exact hP1 k q hk
    · obtain ⟨h1, h2⟩ := nb j q hj
      exact (hP _ q (app_r hj)).kept (hq q.1 h1 h2)
  · rcases app_x hi with hi | ⟨i', e1, hi⟩
    · rcases app_x hj with hj | ⟨j', e2, hj⟩
      · exact hD1.1 i j p q hi hj e
      · have := (nb j' q hj).2
        rw [← e] at this
        exact absurd (hD1.2 i p hi) this
    · rcases app_x hj with hj | ⟨j', e2, hj⟩
      · have := (nb i' p hi).2
        rw [e] at this
        exact absurd (hD1.2 j q hj) this
      · have := hD.1 _ _ p q (app_r hi) (app_r hj) e
        omega
  · rcases app_x hk with hk | ⟨j, -, hj⟩
    · exact hs q.1 (hD1.2 k q hk)
    · exact hD.2 _ q (app_r hj)
theorem cH_sw {a b c : va_W} (h : cH V s H locs (a ++ (b ++ c))) : cH V s H locs (b ++ (a ++ c)) := by
  obtain ⟨hP, hD, hS⟩ := h
  have key : ∀ (i : Nat) (q : Nat × va_E), (b ++ (a ++ c))[i]? = some q → ∃ j, (a ++ (b ++ c))[j]? = some q ∧ j = (if i < b.length then a.length + i else if i < b.length + a.length then i - b.length else i) := by
    intro i q hi
    have hlt := (List.getElem?_eq_some_iff.mp hi).1
    rcases app_x hi with h1 | ⟨j, e, h1⟩
    · have h2 := (List.getElem?_eq_some_iff.mp h1).1
      exact ⟨a.length + i, app_r (app_l h1), by rw [if_pos h2]⟩
    · rcases app_x h1 with h3 | ⟨k, e2, h3⟩
      · have h2 := (List.getElem?_eq_some_iff.mp h3).1
        exact ⟨j, app_l h3, by rw [if_neg (by omega), if_pos (by omega)]; omega⟩
      · refine ⟨a.length + (b.length + k), app_r (app_r h3), ?_⟩
        rw [if_neg (by omega), if_neg (by omega)]; omega
  refine ⟨fun k q hk => ?_, ⟨fun i j p q hi hj e => ?_, fun k q hk => ?_⟩, hS⟩
  · obtain ⟨j, hj, -⟩ := key k q hk
    exact hP j q hj
  · obtain ⟨i', h1, e1⟩ := key i p hi
    obtain ⟨j', h2, e2⟩ := key j q hj
    have h3 := hD.1 i' j' p q h1 h2 e
    rw [e1, e2] at h3
    split at h3 <;> split at h3 <;> (try split at h3) <;> (try split at h3) <;> omega
  · obtain ⟨j, hj, -⟩ := key k q hk
    exact hD.2 j q hj
end FR
section FX
variable {p : Program} {l : Launch} {e : Env} {R : Room} {s : State} {m : MethodId} {args : Array Value} {below : List Frame} {meth : Method} {c : Code} {H : Heap} {locs : List Loc} {cells slots : Nat} {Q : State → Prop}
variable {cc bytes : ByteArray} {pc nL index maxL mc ms n b : Nat} {ls : Array Slot} {rest st0 As : List Value} {own : String} {V : kEnv} {y : MethodName} {ret : Option FieldType} {rm : Room} {τ : Type} {F : τ → va_W} {u0 : τ} {o9 : va_W}
theorem fk_Vi {post : Int32 → τ → Prop} (G : CallFix p m c cc nL s args LW own) (hC : cSt V s) (hB : eB V ≤ s.heap.size) (hV : kOk V) (h : cH V s H locs (F u0 ++ o9)) (hM : kI l y bytes maxL ret rm (frV V (F u0) H.size) F (.ref b :: As) u0 post mc ms)
    (w1 : Cond.methodLink own index y ∈ LW) (hv : kV y bytes maxL ret n) (hr : rm.cells = mc ∧ rm.slots = ms) (hR : rm.frames + 1 ≤ R.frames ∧ 8 + (maxL + 11) + rm.locals ≤ R.locals) (hrec : ∃ cell : Cell, H[b]? = some cell ∧ cell.vm.isStatics = false ∧ s.vm.findClass y.cls = some cell.cls)
    (hn : As.length = n) (hst : st0 = As.reverse ++ .ref b :: rest) (hsz : ls.size = nL) (hro : (rest.map fun v => v.category).sum ≤ 8) (hd : decode cc pc = .ok (.invokevirtual index, 3)) (hf : cells + mc ≤ R.cells ∧ slots + ms ≤ R.slots)
    (k : ∀ (r : Int32) (u : τ) (H : Heap) (locs : List Loc), post r u → cH V s H locs (F u ++ o9) → W p l e R s m args below meth c H locs (cells + mc) (slots + ms) Q (F0 m (pc + 3) ls (.int r :: rest))) : W p l e R s m args below meth c H locs cells slots Q (F0 m pc ls st0) :=
  va_calli (va_runV G hM (kV_cw G w1 hv hr hR) ⟨cPre.blind, hrec, frPre hC hB hV h⟩ rfl hn hsz hst (lv_room hro) hd hf) h.2.2 (fun q _ hq => frSub h hB hV q hq) (fun q hq => frSub h hB hV q hq)
    (fun r u t H1 locs1 ht _ hp hb _ hq hS => k r u H1 locs1 hp (frBack hB hV h ht hb hq hS))
theorem fk_Vf {post : UInt32 → τ → Prop} (G : CallFix p m c cc nL s args LW own) (hC : cSt V s) (hB : eB V ≤ s.heap.size) (hV : kOk V) (h : cH V s H locs (F u0 ++ o9)) (hM : kF l y bytes maxL ret rm (frV V (F u0) H.size) F (.ref b :: As) u0 post mc ms)
    (w1 : Cond.methodLink own index y ∈ LW) (hv : kV y bytes maxL ret n) (hr : rm.cells = mc ∧ rm.slots = ms) (hR : rm.frames + 1 ≤ R.frames ∧ 8 + (maxL + 11) + rm.locals ≤ R.locals) (hrec : ∃ cell : Cell, H[b]? = some cell ∧ cell.vm.isStatics = false ∧ s.vm.findClass y.cls = some cell.cls)
    (hn : As.length = n) (hst : st0 = As.reverse ++ .ref b :: rest) (hsz : ls.size = nL) (hro : (rest.map fun v => v.category).sum ≤ 8) (hd : decode cc pc = .ok (.invokevirtual index, 3)) (hf : cells + mc ≤ R.cells ∧ slots + ms ≤ R.slots)
    (k : ∀ (r : UInt32) (u : τ) (H : Heap) (locs : List Loc), post r u → cH V s H locs (F u ++ o9) → W p l e R s m args below meth c H locs (cells + mc) (slots + ms) Q (F0 m (pc + 3) ls (.float r :: rest))) : W p l e R s m args below meth c H locs cells slots Q (F0 m pc ls st0) :=
  va_callf (va_runV G hM (kV_cw G w1 hv hr hR) ⟨cPre.blind, hrec, frPre hC hB hV h⟩ rfl hn hsz hst (lv_room hro) hd hf) h.2.2 (fun q _ hq => frSub h hB hV q hq) (fun q hq => frSub h hB hV q hq)
    (fun r u t H1 locs1 ht _ hp hb _ hq hS => k r u H1 locs1 hp (frBack hB hV h ht hb hq hS))
theorem fk_Vd {post : UInt64 → τ → Prop} (G : CallFix p m c cc nL s args LW own) (hC : cSt V s) (hB : eB V ≤ s.heap.size) (hV : kOk V) (h : cH V s H locs (F u0 ++ o9)) (hM : kD l y bytes maxL ret rm (frV V (F u0) H.size) F (.ref b :: As) u0 post mc ms)
    (w1 : Cond.methodLink own index y ∈ LW) (hv : kV y bytes maxL ret n) (hr : rm.cells = mc ∧ rm.slots = ms) (hR : rm.frames + 1 ≤ R.frames ∧ 8 + (maxL + 11) + rm.locals ≤ R.locals) (hrec : ∃ cell : Cell, H[b]? = some cell ∧ cell.vm.isStatics = false ∧ s.vm.findClass y.cls = some cell.cls)
    (hn : As.length = n) (hst : st0 = As.reverse ++ .ref b :: rest) (hsz : ls.size = nL) (hro : (rest.map fun v => v.category).sum ≤ 8) (hd : decode cc pc = .ok (.invokevirtual index, 3)) (hf : cells + mc ≤ R.cells ∧ slots + ms ≤ R.slots)
    (k : ∀ (r : UInt64) (u : τ) (H : Heap) (locs : List Loc), post r u → cH V s H locs (F u ++ o9) → W p l e R s m args below meth c H locs (cells + mc) (slots + ms) Q (F0 m (pc + 3) ls (.double r :: rest))) : W p l e R s m args below meth c H locs cells slots Q (F0 m pc ls st0) :=
  va_calld (va_runV G hM (kV_cw G w1 hv hr hR) ⟨cPre.blind, hrec, frPre hC hB hV h⟩ rfl hn hsz hst (lv_room hro) hd hf) h.2.2 (fun q _ hq => frSub h hB hV q hq) (fun q hq => frSub h hB hV q hq)
    (fun r u t H1 locs1 ht _ hp hb _ hq hS => k r u H1 locs1 hp (frBack hB hV h ht hb hq hS))
theorem fx_Vi {post : Int32 → τ → Prop} {px : String → τ → Prop} (G : CallFix p m c cc nL s args LW own) (hC : cSt V s) (hB : eB V ≤ s.heap.size) (hV : kOk V) (h : cH V s H locs (F u0 ++ o9)) (hM : kX l y bytes maxL ret rm (frV V (F u0) H.size) F (.ref b :: As) u0 post px mc ms)
    (w1 : Cond.methodLink own index y ∈ LW) (hv : kV y bytes maxL ret n) (hr : rm.cells = mc ∧ rm.slots = ms) (hR : rm.frames + 1 ≤ R.frames ∧ 8 + (maxL + 11) + rm.locals ≤ R.locals) (hrec : ∃ cell : Cell, H[b]? = some cell ∧ cell.vm.isStatics = false ∧ s.vm.findClass y.cls = some cell.cls)
    (hn : As.length = n) (hst : st0 = As.reverse ++ .ref b :: rest) (hsz : ls.size = nL) (hro : (rest.map fun v => v.category).sum ≤ 8) (hd : decode cc pc = .ok (.invokevirtual index, 3)) (hf : cells + mc ≤ R.cells ∧ slots + ms ≤ R.slots)
    (kx : ∀ (E : String) (ce : Cell) (q9 : Addr) (u : τ) (H1 : Heap) (locs1 : List Loc), px E u → cH V s H1 locs1 (F u ++ o9) → H1[q9]? = some ce → ce.vm = .none → s.vm.findClass E = some ce.cls → vx_W p l e R s m args below meth c H1 locs1 (cells + mc) (slots + ms) Q (F0 m pc ls rest) q9)
    (k : ∀ (r : Int32) (u : τ) (H : Heap) (locs : List Loc), post r u → cH V s H locs (F u ++ o9) → W p l e R s m args below meth c H locs (cells + mc) (slots + ms) Q (F0 m (pc + 3) ls (.int r :: rest))) : W p l e R s m args below meth c H locs cells slots Q (F0 m pc ls st0) :=
  vx_calli (vx_runV G hM (kV_cw G w1 hv hr hR) ⟨cPre.blind, hrec, frPre hC hB hV h⟩ rfl hn hsz hst (lv_room hro) hd hf) h.2.2 (fun q _ hq => frSub h hB hV q hq) (fun q hq => frSub h hB hV q hq) (fun q _ hq => frSub h hB hV q hq)
    (fun E ce q9 u t H1 locs1 ht _ _ hb _ hq hS h1 h2 h3 => kx E ce q9 u H1 locs1 hb.1 (frBack hB hV h ht hb.2 hq hS) h1 h2 h3)
    (fun r u t H1 locs1 ht _ hp hb _ hq hS => k r u H1 locs1 hp (frBack hB hV h ht hb hq hS))
theorem fx_Vf {post : UInt32 → τ → Prop} {px : String → τ → Prop} (G : CallFix p m c cc nL s args LW own) (hC : cSt V s) (hB : eB V ≤ s.heap.size) (hV : kOk V) (h : cH V s H locs (F u0 ++ o9)) (hM : kXf l y bytes maxL rm (frV V (F u0) H.size) F (.ref b :: As) u0 post px mc ms)
    (w1 : Cond.methodLink own index y ∈ LW) (hv : kV y bytes maxL (some .float) n) (hr : rm.cells = mc ∧ rm.slots = ms) (hR : rm.frames + 1 ≤ R.frames ∧ 8 + (maxL + 11) + rm.locals ≤ R.locals) (hrec : ∃ cell : Cell, H[b]? = some cell ∧ cell.vm.isStatics = false ∧ s.vm.findClass y.cls = some cell.cls)
    (hn : As.length = n) (hst : st0 = As.reverse ++ .ref b :: rest) (hsz : ls.size = nL) (hro : (rest.map fun v => v.category).sum ≤ 8) (hd : decode cc pc = .ok (.invokevirtual index, 3)) (hf : cells + mc ≤ R.cells ∧ slots + ms ≤ R.slots)
    (kx : ∀ (E : String) (ce : Cell) (q9 : Addr) (u : τ) (H1 : Heap) (locs1 : List Loc), px E u → cH V s H1 locs1 (F u ++ o9) → H1[q9]? = some ce → ce.vm = .none → s.vm.findClass E = some ce.cls → vx_W p l e R s m args below meth c H1 locs1 (cells + mc) (slots + ms) Q (F0 m pc ls rest) q9)
    (k : ∀ (r : UInt32) (u : τ) (H : Heap) (locs : List Loc), post r u → cH V s H locs (F u ++ o9) → W p l e R s m args below meth c H locs (cells + mc) (slots + ms) Q (F0 m (pc + 3) ls (.float r :: rest))) : W p l e R s m args below meth c H locs cells slots Q (F0 m pc ls st0) :=
  vx_callf (vx_runV G hM (kV_cw G w1 hv hr hR) ⟨cPre.blind, hrec, frPre hC hB hV h⟩ rfl hn hsz hst (lv_room hro) hd hf) h.2.2 (fun q _ hq => frSub h hB hV q hq) (fun q hq => frSub h hB hV q hq) (fun q _ hq => frSub h hB hV q hq)
    (fun E ce q9 u t H1 locs1 ht _ _ hb _ hq hS h1 h2 h3 => kx E ce q9 u H1 locs1 hb.1 (frBack hB hV h ht hb.2 hq hS) h1 h2 h3)
    (fun r u t H1 locs1 ht _ hp hb _ hq hS => k r u H1 locs1 hp (frBack hB hV h ht hb hq hS))
theorem fx_Vd {post : UInt64 → τ → Prop} {px : String → τ → Prop} (G : CallFix p m c cc nL s args LW own) (hC : cSt V s) (hB : eB V ≤ s.heap.size) (hV : kOk V) (h : cH V s H locs (F u0 ++ o9)) (hM : kXd l y bytes maxL rm (frV V (F u0) H.size) F (.ref b :: As) u0 post px mc ms)
    (w1 : Cond.methodLink own index y ∈ LW) (hv : kV y bytes maxL (some .double) n) (hr : rm.cells = mc ∧ rm.slots = ms) (hR : rm.frames + 1 ≤ R.frames ∧ 8 + (maxL + 11) + rm.locals ≤ R.locals) (hrec : ∃ cell : Cell, H[b]? = some cell ∧ cell.vm.isStatics = false ∧ s.vm.findClass y.cls = some cell.cls)
    (hn : As.length = n) (hst : st0 = As.reverse ++ .ref b :: rest) (hsz : ls.size = nL) (hro : (rest.map fun v => v.category).sum ≤ 8) (hd : decode cc pc = .ok (.invokevirtual index, 3)) (hf : cells + mc ≤ R.cells ∧ slots + ms ≤ R.slots)
    (kx : ∀ (E : String) (ce : Cell) (q9 : Addr) (u : τ) (H1 : Heap) (locs1 : List Loc), px E u → cH V s H1 locs1 (F u ++ o9) → H1[q9]? = some ce → ce.vm = .none → s.vm.findClass E = some ce.cls → vx_W p l e R s m args below meth c H1 locs1 (cells + mc) (slots + ms) Q (F0 m pc ls rest) q9)
    (k : ∀ (r : UInt64) (u : τ) (H : Heap) (locs : List Loc), post r u → cH V s H locs (F u ++ o9) → W p l e R s m args below meth c H locs (cells + mc) (slots + ms) Q (F0 m (pc + 3) ls (.double r :: rest))) : W p l e R s m args below meth c H locs cells slots Q (F0 m pc ls st0) :=
  vx_calld (vx_runV G hM (kV_cw G w1 hv hr hR) ⟨cPre.blind, hrec, frPre hC hB hV h⟩ rfl hn hsz hst (lv_room hro) hd hf) h.2.2 (fun q _ hq => frSub h hB hV q hq) (fun q hq => frSub h hB hV q hq) (fun q _ hq => frSub h hB hV q hq)
    (fun E ce q9 u t H1 locs1 ht _ _ hb _ hq hS h1 h2 h3 => kx E ce q9 u H1 locs1 hb.1 (frBack hB hV h ht hb.2 hq hS) h1 h2 h3)
    (fun r u t H1 locs1 ht _ hp hb _ hq hS => k r u H1 locs1 hp (frBack hB hV h ht hb hq hS))
end FX
