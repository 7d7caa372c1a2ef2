/-! THE LAW: rows of its body. -/
def LWs (V : kEnv) (S : kCs) (M : kMs) (O : Nat → Int64) (OD : Nat → UInt64) : va_W := cWs V S ++ (mWs V M ++ (oC V O ++ dC V OD))
def kSw (y : MethodName) (bytes : ByteArray) (maxL : Nat) (hh : List (Nat × Nat × Nat × Nat)) (n : Nat) : Prop := Cond.static y ∈ LW ∧ Cond.initialized y.cls ∈ LW ∧ Cond.codeWith y bytes maxL (some .int) hh ∈ LW ∧ (y.cls ≠ "java/lang/invoke/MethodHandle" ∧ y.cls ≠ "java/lang/invoke/VarHandle" ∧ (parseMethodDescriptor y.desc).map (fun d => d.parameters.length) = some n)
abbrev lv0 (V : kEnv) (b i : Nat) : List (Nat × Value) := [(5, .int (nI i)), (4, .ref (eX V 601)), (3, .ref (eX V 600)), (2, .ref (eX V 500)), (1, .ref (eX V 96)), (0, .ref b)]
theorem rel_up {n : Nat} {S : kCs} {M : kMs} (h : rel n S M) : rel (n + 1) S M := by
  obtain ⟨B, nx, sz, L0, L, ep, fp, s0, h1, h2, h3, ⟨a1, a2, a3, a4⟩, h5⟩ := h
  exact ⟨B, nx, sz, L0, L, ep, fp, s0, h1, h2, h3, ⟨a1, a2, Nat.le_succ_of_le a3, a4⟩, h5⟩
section LA
variable {p : Program} {l : Launch} {e : Env} {R : Room} {s : State} {m : MethodId} {args : Array Value} {below : List Frame} {meth : Method} {c : Code} {H : Heap} {locs : List Loc} {cells slots : Nat} {Q : State → Prop}
variable {cc bytes : ByteArray} {pc nL index maxL mc ms n : Nat} {ls : Array Slot} {rest st0 As : List Value} {own : String} {V : kEnv} {y : MethodName} {rm : Room} {τ : Type} {F : τ → va_W} {u0 : τ} {o9 : va_W}
variable {S : kCs} {M : kMs} {O : Nat → Int64} {OD : Nat → UInt64}
theorem cH_f (h : cH V s H locs (LWs V S M O OD)) : cH V s H locs (lwF V (S, O) ++ (mWs V M ++ dC V OD)) := by
  refine cH_perm ?_ h
  show (cWs V S ++ (mWs V M ++ (oC V O ++ dC V OD))).Perm ((cWs V S ++ oC V O) ++ (mWs V M ++ dC V OD))
  rw [List.append_assoc]
  refine List.Perm.append_left _ ?_
  rw [← List.append_assoc, ← List.append_assoc]
  exact List.Perm.append_right _ List.perm_append_comm
theorem cH_d (h : cH V s H locs (LWs V S M O OD)) : cH V s H locs (ldF V (S, OD) ++ (mWs V M ++ oC V O)) := by
  refine cH_perm ?_ h
  show (cWs V S ++ (mWs V M ++ (oC V O ++ dC V OD))).Perm ((cWs V S ++ dC V OD) ++ (mWs V M ++ oC V O))
  rw [List.append_assoc]
  refine List.Perm.append_left _ ?_
  rw [← List.append_assoc]
  exact List.perm_append_comm
theorem cH_m (h : cH V s H locs (lwF V (S, O) ++ (mWs V M ++ dC V OD))) : cH V s H locs (mWs V M ++ (cWs V S ++ (oC V O ++ dC V OD))) := by
  refine cH_perm ?_ (cH_sw h)
  refine List.Perm.append_left _ ?_
  show ((cWs V S ++ oC V O) ++ dC V OD).Perm _
  rw [List.append_assoc]
theorem cH_e (h : cH V s H locs (ldF V (S, OD) ++ (mWs V M ++ oC V O))) : cH V s H locs (mWs V M ++ (cWs V S ++ (oC V O ++ dC V OD))) := by
  refine cH_perm ?_ (cH_sw h)
  refine List.Perm.append_left _ ?_
  show ((cWs V S ++ dC V OD) ++ oC V O).Perm _
  rw [List.append_assoc]
  exact List.Perm.append_left _ List.perm_append_comm
theorem cH_o (h : cH V s H locs (LWs V S M O OD)) : cH V s H locs (oC V O ++ ((cWs V S ++ mWs V M) ++ dC V OD)) := by
  refine cH_sw ?_
  rw [List.append_assoc]
  exact h
theorem cH_od (h : cH V s H locs (LWs V S M O OD)) : cH V s H locs (dC V OD ++ (cWs V S ++ (mWs V M ++ oC V O))) := by
  have h1 : cH V s H locs ((cWs V S ++ (mWs V M ++ oC V O)) ++ dC V OD) := by
    rw [List.append_assoc, List.append_assoc]
    exact h
  exact cH_2 h1
theorem cH_bk (h : cH V s H locs (mWs V M ++ (cWs V S ++ (oC V O ++ dC V OD)))) : cH V s H locs (LWs V S M O OD) := cH_sw h
/-- a wrapper called -/
theorem lw_S {hh : List (Nat × Nat × Nat × Nat)} {post : Int32 → τ → Prop} (G : CallFix p m c cc nL s args LW own) (hC : cSt V s) (hB : eB V ≤ s.heap.size) (hV : kOk V) (h : cH V s H locs (F u0 ++ o9)) (hM : kW l y bytes maxL hh rm (frV V (F u0) H.size) F As u0 post mc ms)
    (w1 : Cond.methodLink own index y ∈ LW) (hv : kSw y bytes maxL hh n) (hr : rm.cells = mc ∧ rm.slots = ms) (hR : rm.frames + 1 ≤ R.frames ∧ 8 + (maxL + 11) + rm.locals ≤ R.locals)
    (hn : As.length = n) (hst : st0 = As.reverse ++ rest) (hsz : ls.size = nL) (hro : (rest.map fun v => v.category).sum ≤ 8) (hd : decode cc pc = .ok (.invokestatic index, 3)) (hf : cells + mc ≤ R.cells ∧ slots + ms ≤ R.slots)
    (k : ∀ (r : Int32) (u : τ) (H : Heap) (locs : List Loc), post r u → cH V s H locs (F u ++ o9) → W p l e R s m args below meth c H locs (cells + mc) (slots + ms) Q (F0 m (pc + 3) ls (.int r :: rest))) : W p l e R s m args below meth c H locs cells slots Q (F0 m pc ls st0) := by
  obtain ⟨w2, w3, w4, w5⟩ := hv
  refine va_calli (vx_runSW (hh := hh) (bytes := bytes) (maxL := maxL) (ret := some .int) G hM (vx_cwSW n G.2.2.2.2 (fun w hw => ?_) rfl hr.1 hr.2 w5 hR) ⟨cPre.blind, frPre hC hB hV h⟩ rfl hn hsz hst (lv_room hro) hd hf) h.2.2 (fun q _ hq => frSub h hB hV q hq) (fun q hq => frSub h hB hV q hq)
    (fun r u t H1 locs1 ht _ hp hb _ hq hS => k r u H1 locs1 hp (frBack hB hV h ht hb hq hS))
  simp only [va_wsS, List.cons_append, List.nil_append, List.mem_cons] at hw
  rcases hw with rfl | rfl | rfl | hw
  · exact lwG _ w1
  · exact lwG _ w2
  · exact lwG _ w3
  · rcases List.mem_cons.mp hw with rfl | hw
    · exact lwG _ w4
    · exact lwG _ hw
theorem lg_cmp_same (x : Int64) : lg_cmp x x = 0 := by
  unfold lg_cmp
  simp
theorem r_M (hC : cSt V s) (h : cH V s H locs (mWs V M ++ o9)) : ∃ cell : Cell, H[eX V 500]? = some cell ∧ cell.vm.isStatics = false ∧ s.vm.findClass RX4 = some cell.cls :=
  va_recv hC.1 h.1 (ci := 8) (q0 := 0) rfl (app_l (mWs_at V M (i := 0) (by decide)))
theorem r_C (hC : cSt V s) (h : cH V s H locs (cWs V S ++ o9)) : ∃ cell : Cell, H[eX V 96]? = some cell ∧ cell.vm.isStatics = false ∧ s.vm.findClass RX3 = some cell.cls :=
  va_recv hC.1 h.1 (ci := 7) (q0 := 96 + 0) rfl (app_l (cF_at V S (i := 0) (by decide)))
theorem kv_thrown : kV yX4_thrown cX4_thrown 1 (some .int) 0 := ⟨mw_1532, mw_1533, mw_64, mw_1534, by decide, by decide, by decide +kernel⟩
end LA
/-! the end of a case with a whole number: both signs compared, then both answers -/
section LT
variable {p : Program} {l : Launch} {e : Env} {R : Room} {s : State} {m : MethodId} {args : Array Value} {below : List Frame} {meth : Method} {c : Code} {H : Heap} {locs : List Loc} {cells slots : Nat} {Q : State → Prop}
variable {cc : ByteArray} {ls : Array Slot} {own : String} {V : kEnv} {S : kCs} {M : kMs} {O : Nat → Int64} {OD : Nat → UInt64}
set_option maxRecDepth 100000 in
theorem lt_i {pc b i t1 t2 t3 : Nat} {o1 o2 o3 o4 : Int} {k r2 : Int32} (hV : kOk V) (G : CallFix p m c cc 9 s args LW own) (hC : cSt V s) (hB : eB V ≤ s.heap.size) (w1 : Cond.methodLink own 169 yX4_thrown ∈ LW)
    (h : cH V s H locs (mWs V M ++ (cWs V S ++ (oC V O ++ dC V OD)))) (hl : lv_has ls 9 ((7, .int r2) :: (6, .int k) :: lv0 V b i)) (hk : M.1 3 = k) (hz : k = nI 0 → O 0 = r2.toInt64) (hRf : 20 ≤ R.frames) (hRl : 700 ≤ R.locals) (hc : cells ≤ R.cells) (hs : slots ≤ R.slots)
    (d0 : decode cc pc = .ok (.aload_n 2, 1)) (d1 : decode cc (pc + 1) = .ok (.invokevirtual 169, 3)) (d4 : decode cc (pc + 4) = .ok (.iload 6, 2)) (d6 : decode cc (pc + 6) = .ok (.if_icmp .eq o1, 3)) (e6 : ((pc + 6 : Nat) : Int) + o1 = (t1 : Int))
    (d11 : decode cc t1 = .ok (.iload 6, 2)) (d13 : decode cc (t1 + 2) = .ok (.ifCond .ne o2, 3)) (e13 : ((t1 + 2 : Nat) : Int) + o2 = (t2 : Int)) (d16 : decode cc (t1 + 5) = .ok (.aload_n 3, 1)) (d17 : decode cc (t1 + 6) = .ok (.iconst 0, 1)) (d18 : decode cc (t1 + 7) = .ok (.laload, 1)) (d19 : decode cc (t1 + 8) = .ok (.iload 7, 2)) (d21 : decode cc (t1 + 10) = .ok (.i2l, 1)) (d22 : decode cc (t1 + 11) = .ok (.lcmp, 1)) (d23 : decode cc (t1 + 12) = .ok (.ifCond .eq o3, 3)) (e23 : ((t1 + 12 : Nat) : Int) + o3 = (t2 : Int))
    (d28 : decode cc t2 = .ok (.goto o4, 3)) (e28 : (t2 : Int) + o4 = (t3 : Int))
    (kk : ∀ (H : Heap) (locs : List Loc) (ls : Array Slot), cH V s H locs (LWs V S M O OD) → lv_has ls 9 (lv0 V b i) → W p l e R s m args below meth c H locs cells slots Q (F0 m t3 ls [])) : W p l e R s m args below meth c H locs cells slots Q (F0 m pc ls []) := by
  have hx := G.1
  have hcd := G.2.1
  refine lv_aload_n hx hcd d0 rfl (lv_at hl 5 rfl) ?_
  refine fk_Vi (As := []) (rest := []) (b := eX V 500) G hC hB hV h (met_X4_thrown l _ M) w1 kv_thrown ⟨rfl, rfl⟩ ⟨by show 0 + 1 ≤ R.frames; omega, by show 8 + (1 + 11) + 0 ≤ R.locals; omega⟩ (r_M hC h) rfl rfl hl.1 (Nat.le_of_ble_eq_true rfl) d1 ⟨hc, hs⟩ (fun r u H locs hp h => ?_)
  obtain ⟨hr1, hu1⟩ := hp
  rw [hu1] at h
  rw [hr1, hk]
  refine lv_iload hx hcd d4 (lv_at hl 1 rfl) ?_
  refine lv_icmp_eq (tgt := t1) hx hcd d6 e6 (fun _ => ?_) (fun z => absurd rfl z)
  have hb := cH_bk h
  have fin : ∀ H' locs', cH V s H' locs' (LWs V S M O OD) → W p l e R s m args below meth c H' locs' cells slots Q (F0 m t2 ls []) := fun H' locs' h' =>
    lv_goto (tgt := t3) hx hcd d28 e28 (kk H' locs' ls h' (lv_sub hl [2, 3, 4, 5, 6, 7] rfl))
  refine lv_iload hx hcd d11 (lv_at hl 1 rfl) ?_
  refine lv_if_ne (tgt := t2) hx hcd d13 e13 (fun _ => fin _ _ hb) (fun z => ?_)
  refine lv_aload_n hx hcd d16 rfl (lv_at hl 4 rfl) ?_
  refine lv_iconst (v := nI 0) hx hcd d17 (by decide) ?_
  refine va_lald (D := eD V) (cl := vwCl) (tys := eT V) hx hcd hC.1 (cH_o hb).1 0 4 rfl rfl (vp_in_nI (n := 0) (by decide) (by decide)) d18 ?_
  refine lv_iload hx hcd d19 (lv_at hl 0 rfl) ?_
  refine lv_i2l (v := r2.toInt64) hx hcd d21 rfl ?_
  refine W.lcmp hx hcd d22 ?_
  rw [show (nI 0).toNatClampNeg = 0 from nI_clamp (by decide), hz z, lg_cmp_same]
  exact lv_if_eq (tgt := t2) hx hcd d23 e23 (fun _ => fin _ _ hb) (fun z => absurd rfl z)
theorem bz_01 (b : Bool) : bz b = 0 ∨ bz b = 1 := by cases b <;> first | exact Or.inl rfl | exact Or.inr rfl
def xc (v : Int32) : Int32 := (v.toUInt32 % 65536).toInt32
set_option maxRecDepth 100000 in
theorem lt_z {pc b i t1 t2 t3 : Nat} {o1 o2 o3 o4 o5 o6 : Int} {k r2 : Int32} (hV : kOk V) (G : CallFix p m c cc 9 s args LW own) (hC : cSt V s) (hB : eB V ≤ s.heap.size) (w1 : Cond.methodLink own 169 yX4_thrown ∈ LW)
    (h : cH V s H locs (mWs V M ++ (cWs V S ++ (oC V O ++ dC V OD)))) (hl : lv_has ls 9 ((7, .int r2) :: (6, .int k) :: lv0 V b i)) (hk : M.1 3 = k) (hz : k = nI 0 → O 0 = r2.toInt64) (h01 : r2 = 0 ∨ r2 = 1) (hRf : 20 ≤ R.frames) (hRl : 700 ≤ R.locals) (hc : cells ≤ R.cells) (hs : slots ≤ R.slots)
    (d0 : decode cc pc = .ok (.aload_n 2, 1)) (d1 : decode cc (pc + 1) = .ok (.invokevirtual 169, 3)) (d4 : decode cc (pc + 4) = .ok (.iload 6, 2)) (d6 : decode cc (pc + 6) = .ok (.if_icmp .eq o1, 3)) (e6 : ((pc + 6 : Nat) : Int) + o1 = (t1 : Int))
    (d11 : decode cc t1 = .ok (.iload 6, 2)) (d13 : decode cc (t1 + 2) = .ok (.ifCond .ne o2, 3)) (e13 : ((t1 + 2 : Nat) : Int) + o2 = (t2 : Int)) (d16 : decode cc (t1 + 5) = .ok (.aload_n 3, 1)) (d17 : decode cc (t1 + 6) = .ok (.iconst 0, 1)) (d18 : decode cc (t1 + 7) = .ok (.laload, 1)) (d19 : decode cc (t1 + 8) = .ok (.iload 7, 2)) (d21 : decode cc (t1 + 10) = .ok (.ifCond .eq o5, 3)) (e21 : ((t1 + 10 : Nat) : Int) + o5 = ((t1 + 17 : Nat) : Int)) (d24 : decode cc (t1 + 13) = .ok (.lconst 1, 1)) (d25 : decode cc (t1 + 14) = .ok (.goto o6, 3)) (e25 : ((t1 + 14 : Nat) : Int) + o6 = ((t1 + 18 : Nat) : Int)) (d28a : decode cc (t1 + 17) = .ok (.lconst 0, 1)) (d22 : decode cc (t1 + 18) = .ok (.lcmp, 1)) (d23 : decode cc (t1 + 19) = .ok (.ifCond .eq o3, 3)) (e23 : ((t1 + 19 : Nat) : Int) + o3 = (t2 : Int))
    (d28 : decode cc t2 = .ok (.goto o4, 3)) (e28 : (t2 : Int) + o4 = (t3 : Int))
    (kk : ∀ (H : Heap) (locs : List Loc) (ls : Array Slot), cH V s H locs (LWs V S M O OD) → lv_has ls 9 (lv0 V b i) → W p l e R s m args below meth c H locs cells slots Q (F0 m t3 ls [])) : W p l e R s m args below meth c H locs cells slots Q (F0 m pc ls []) := by
  have hx := G.1
  have hcd := G.2.1
  refine lv_aload_n hx hcd d0 rfl (lv_at hl 5 rfl) ?_
  refine fk_Vi (As := []) (rest := []) (b := eX V 500) G hC hB hV h (met_X4_thrown l _ M) w1 kv_thrown ⟨rfl, rfl⟩ ⟨by show 0 + 1 ≤ R.frames; omega, by show 8 + (1 + 11) + 0 ≤ R.locals; omega⟩ (r_M hC h) rfl rfl hl.1 (Nat.le_of_ble_eq_true rfl) d1 ⟨hc, hs⟩ (fun r u H locs hp h => ?_)
  obtain ⟨hr1, hu1⟩ := hp
  rw [hu1] at h
  rw [hr1, hk]
  refine lv_iload hx hcd d4 (lv_at hl 1 rfl) ?_
  refine lv_icmp_eq (tgt := t1) hx hcd d6 e6 (fun _ => ?_) (fun z => absurd rfl z)
  have hb := cH_bk h
  have fin : ∀ H' locs', cH V s H' locs' (LWs V S M O OD) → W p l e R s m args below meth c H' locs' cells slots Q (F0 m t2 ls []) := fun H' locs' h' =>
    lv_goto (tgt := t3) hx hcd d28 e28 (kk H' locs' ls h' (lv_sub hl [2, 3, 4, 5, 6, 7] rfl))
  refine lv_iload hx hcd d11 (lv_at hl 1 rfl) ?_
  refine lv_if_ne (tgt := t2) hx hcd d13 e13 (fun _ => fin _ _ hb) (fun z => ?_)
  refine lv_aload_n hx hcd d16 rfl (lv_at hl 4 rfl) ?_
  refine lv_iconst (v := nI 0) hx hcd d17 (by decide) ?_
  refine va_lald (D := eD V) (cl := vwCl) (tys := eT V) hx hcd hC.1 (cH_o hb).1 0 4 rfl rfl (vp_in_nI (n := 0) (by decide) (by decide)) d18 ?_
  refine lv_iload hx hcd d19 (lv_at hl 0 rfl) ?_
  rw [show (nI 0).toNatClampNeg = 0 from nI_clamp (by decide), hz z]
  rcases h01 with q | q
  · refine lv_if_eq (tgt := t1 + 17) hx hcd d21 e21 (fun _ => ?_) (fun z => absurd q z)
    refine lv_lconst (v := r2.toInt64) hx hcd d28a (by rw [q]; rfl) ?_
    refine W.lcmp hx hcd d22 ?_
    rw [lg_cmp_same]
    exact lv_if_eq (tgt := t2) hx hcd d23 e23 (fun _ => fin _ _ hb) (fun z => absurd rfl z)
  · refine lv_if_eq (tgt := t1 + 17) hx hcd d21 e21 (fun z => absurd (q.symm.trans z) (by decide)) (fun _ => ?_)
    refine lv_lconst (v := r2.toInt64) hx hcd d24 (by rw [q]; rfl) ?_
    refine lv_goto (tgt := t1 + 18) hx hcd d25 e25 ?_
    refine W.lcmp hx hcd d22 ?_
    rw [lg_cmp_same]
    exact lv_if_eq (tgt := t2) hx hcd d23 e23 (fun _ => fin _ _ hb) (fun z => absurd rfl z)
end LT
