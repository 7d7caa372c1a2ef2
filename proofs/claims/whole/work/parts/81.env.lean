/-! THE ENVIRONMENT at the law's entry. -/
section EV
variable {s : State} {args : Array Value}
theorem sel_priv {C : String} {y : MethodName} {c cA : ClassId} {k : Class} (hy : y.cls ≠ "java/lang/invoke/MethodHandle" ∧ y.cls ≠ "java/lang/invoke/VarHandle") (hC : s.vm.findClass C = some c) (hA : s.vm.findClass y.cls = some cA) (hk : s.vm.classes[cA]? = some k) (hni : k.isInterface = false)
    (hpriv : (Cond.privateMethod y).before args s = true) (hinst : (Cond.instanceMethod y).before args s = true) : (Cond.selects C y y).before args s = true := by
  obtain ⟨mk, methM, hnamed, hmethM, -, -⟩ := Cond.instanceMethod_spec hinst
  have hfound : s.methodFound? y.cls y.name y.desc = some mk := State.methodFound?_of_named hnamed hy
  have hcls : mk.cls = cA := Option.some.inj ((findClass_of_methodNamed hnamed).symm.trans hA)
  have hsel : selectMethod {} s.vm c mk = .method mk := selectMethod_private hmethM (Cond.privateMethod_at hpriv mk methM hnamed hmethM)
  simp only [Cond.before, Cond.holds, Cond.value, hC, hfound, hnamed, hsel, hcls, hk]
  simp
  exact hni
/-- the same object: the same field, the same text -/
theorem va_OF_eq {o n d : String} {v w : Value} {t : Nat} {A : Nat → Prop} {H : Heap} (h : va_OF o n d v t A s H) (h' : va_OF o n d w t A s H) : v = w := by
  obtain ⟨cf, k, i, f, cell, h1, -, h3, -, h5, -⟩ := h
  obtain ⟨cf', k', i', f', cell', g1, -, g3, -, g5, -⟩ := h'
  have e1 := h1.symm.trans g1
  have e2 := h3.symm.trans g3
  simp only [Option.some.injEq, Prod.mk.injEq] at e1 e2
  obtain ⟨-, -, -, rfl⟩ := e1
  subst e2
  exact Option.some.inj (h5.symm.trans g5)
theorem va_T_eq {ty : FieldType} {t N M : Nat} {f g : Nat → Value} {A : Nat → Prop} {H : Heap} (hN : N < 2 ^ 31) (hM : M < 2 ^ 31) (h : va_T ty t N f A s H) (h' : va_T ty t M g A s H) : N = M ∧ ∀ j, j < N → f j = g j := by
  obtain ⟨cell, h1, -, -, -, h5, h6, -⟩ := h
  obtain ⟨cell', g1, -, -, -, g5, g6, -⟩ := h'
  have e := h1.symm.trans g1
  simp only [Option.some.injEq] at e
  subst e
  have e2 : Int32.ofNat N = Int32.ofNat M := h5.symm.trans g5
  have e3 : N = M := by
    have h7 : (nI N).toNatClampNeg = N := nI_clamp hN
    have h8 : (nI M).toNatClampNeg = M := nI_clamp hM
    have h9 : nI N = nI M := e2
    rw [← h7, ← h8, h9]
  subst e3
  exact ⟨rfl, fun j hj => Option.some.inj ((h6 j hj).symm.trans (g6 j hj))⟩
/-- an array class that the tables know -/
theorem ar_known {ty : FieldType} (h : (Cond.arrayClass ty).before args s = true) (hR : ∀ c, s.vm.findClass ("[" ++ ty.toString) = some c → va_RA s c ty) : ∃ cA : ClassId, ArrOfT s cA ty ∧ va_RA s cA ty := by
  obtain ⟨c, k, comp, h1, h2, h3⟩ := Cond.arrayClass_spec h
  exact ⟨c, fun n z => ⟨fun k h => (by cases h), k, h2, comp, h3⟩, hR c h1⟩
end EV
theorem iwJx6 : ∀ w ∈ wsJx000600, w ∈ LW := by decide +kernel
theorem iwJx7 : ∀ w ∈ wsJx7c7330, w ∈ LW := by decide +kernel
section EW
variable {s : State} {b : Nat}
/-- classes and array classes -/
theorem en_K (hts : ∀ w ∈ lw_tbl, w.before #[Value.ref b] s = true) : ∃ (D : va_G) (C : Nat → ClassId), va_K D vwCl [(C 0, .int), (C 1, .byte), (C 2, .object "SprintBoard$Board"), (C 3, .char), (C 4, .long), (C 5, .double)] s := by
  have hl : ∀ w ∈ LW, w.before #[Value.ref b] s = true := fun w hw => hts w (List.mem_filter.mp hw).1
  obtain ⟨c0, i0, k0⟩ := u_known hl iwJ0 (hl _ mw_492)
  obtain ⟨c1, i1, k1⟩ := u_known hl iwJ4 (hl _ mw_185)
  obtain ⟨c2, i2, k2⟩ := u_known hl iwJx6 (hl _ mw_648)
  obtain ⟨c3, i3, k3⟩ := u_known hl iwJx7 (hl _ mw_335)
  obtain ⟨c4, i4, k4⟩ := u_known hl iwX0 (hl _ mw_93)
  obtain ⟨c5, i5, k5⟩ := u_known hl iwX1 (hl _ mw_179)
  obtain ⟨c6, i6, k6⟩ := u_known hl iwX2 (hl _ mw_159)
  obtain ⟨c7, i7, k7⟩ := u_known hl iwX3 (hl _ mw_85)
  obtain ⟨c8, i8, k8⟩ := u_known hl iwX4 (hl _ mw_1467)
  obtain ⟨a0, p0, r0⟩ := ar_known (hl _ mw_157) (fun c h => h)
  obtain ⟨a1, p1, r1⟩ := ar_known (hl _ mw_216) (fun c h => h)
  obtain ⟨a3, p3, r3⟩ := ar_known (hl _ mw_1530) (fun c h => h)
  obtain ⟨a4, p4, r4⟩ := ar_known (hl _ mw_1927) (fun c h => h)
  obtain ⟨a5, p5, r5⟩ := ar_known (hl _ mw_1928) (fun c h => h)
  obtain ⟨cq, a2, kq, q1, -, q3, q4, q5⟩ := Cond.arrayOver_spec (hts _ el_ao)
  have p2 : ArrOfT s a2 (.object "SprintBoard$Board") := fun N z => ⟨fun k h => (by cases h), kq, q3, cq, q4⟩
  have r2 : va_RA s a2 (.object "SprintBoard$Board") := ⟨kq, cq, q3, q4, q1, q5⟩
  refine ⟨(fun c => match c with | 0 => c0 | 1 => c1 | 2 => c2 | 3 => c3 | 4 => c4 | 5 => c5 | 6 => c6 | 7 => c7 | _ => c8, fun c => match c with | 0 => i0 | 1 => i1 | 2 => i2 | 3 => i3 | 4 => i4 | 5 => i5 | 6 => i6 | 7 => i7 | _ => i8), fun c => match c with | 0 => a0 | 1 => a1 | 2 => a2 | 3 => a3 | 4 => a4 | _ => a5, fun c q hq => ?_, fun k q hq => ?_⟩
  · match c, hq with
    | 0, hq => cases hq; exact k0
    | 1, hq => cases hq; exact k1
    | 2, hq => cases hq; exact k2
    | 3, hq => cases hq; exact k3
    | 4, hq => cases hq; exact k4
    | 5, hq => cases hq; exact k5
    | 6, hq => cases hq; exact k6
    | 7, hq => cases hq; exact k7
    | 8, hq => cases hq; exact k8
    | n + 9, hq => exact absurd hq (by simp [vwCl])
  · match k, hq with
    | 0, hq => cases hq; exact ⟨p0, r0⟩
    | 1, hq => cases hq; exact ⟨p1, r1⟩
    | 2, hq => cases hq; exact ⟨p2, r2⟩
    | 3, hq => cases hq; exact ⟨p3, r3⟩
    | 4, hq => cases hq; exact ⟨p4, r4⟩
    | 5, hq => cases hq; exact ⟨p5, r5⟩
    | n + 6, hq => exact absurd hq (by simp)
/-- the texts -/
theorem en_S (hs : ∀ w ∈ nf, w.before #[Value.ref b] s = true) : ∃ adK adV : Nat → Nat, vk_S 23 kTn kTb adK adV (fun q => s.heap.size ≤ q) s s.heap ∧ ∀ i, i < 23 → (tK i).eval #[Value.ref b] s none [] s = some (.ref (adK i)) := by
  have hA : ∀ a : Nat, a < s.heap.size → ¬ s.heap.size ≤ a := fun a h => Nat.not_le.mpr h
  have h0 : ∀ i : Nat, ∃ q : Nat × Nat, i < 23 → (tK i).eval #[Value.ref b] s none [] s = some (.ref q.1) ∧ va_O "java/lang/String" q.1 (fun q => s.heap.size ≤ q) s s.heap ∧ va_OF "java/lang/String" "coder" "B" (.int 0) q.1 (fun q => s.heap.size ≤ q) s s.heap ∧ va_OF "java/lang/String" "value" "[B" (.ref q.2) q.1 (fun q => s.heap.size ≤ q) s s.heap ∧ va_T .byte q.2 (kTn.getD i 0) (fun j => .int ((kTb.getD i []).getD j 0)) (fun q => s.heap.size ≤ q) s s.heap := by
    intro i
    by_cases hi : i < 23
    · obtain ⟨aK, aV, h1, h2⟩ := vk_Sof (args := #[Value.ref b]) (s := s) (N := 1) (tm := fun _ => tK i) (len := [kTn.getD i 0]) (byt := [kTb.getD i []]) (A := fun q => s.heap.size ≤ q)
        (fun k hk => by obtain rfl : k = 0 := by omega
                        have := en_n i hi
                        show kTn.getD i 0 < 2 ^ 31
                        omega)
        (fun k _ => hs _ (List.mem_of_getElem? (en_1 i hi))) (fun k _ => hs _ (List.mem_of_getElem? (en_2 i hi))) (fun k _ => hs _ (List.mem_of_getElem? (en_3 i hi)))
        (fun k hk => by obtain rfl : k = 0 := by omega
                        exact hs _ (List.mem_of_getElem? (en_4 i hi)))
        (fun k hk j hj => by obtain rfl : k = 0 := by omega
                             exact hs _ (List.mem_of_getElem? (en_5 i hi j hj)))
        (fun k j hk hj e => absurd (show k = j by omega) e) hA
      have h3 := h1.1 0 (by decide)
      exact ⟨(aK 0, aV 0), fun _ => ⟨h2 0 (by decide), h3.1, h3.2.1, h3.2.2.1, h3.2.2.2⟩⟩
    · exact ⟨(0, 0), fun h => absurd h hi⟩
  obtain ⟨ad, had⟩ := Classical.axiomOfChoice h0
  refine ⟨fun i => (ad i).1, fun i => (ad i).2, ⟨fun i hi => (had i hi).2, fun i j hi hj e => ?_⟩, fun i hi => (had i hi).1⟩
  have a1 := (had i hi).2.2.2
  have a2 := (had j hj).2.2.2
  have e' : (ad i).1 = (ad j).1 := e
  rw [e'] at a1
  have e1 := va_OF_eq a1.1 a2.1
  simp only [Value.ref.injEq] at e1
  have b1 := a1.2
  rw [e1] at b1
  have n1 := en_n i hi
  have n2 := en_n j hj
  obtain ⟨e2, e3⟩ := va_T_eq (by omega) (by omega) b1 a2.2
  refine en_9 i hi j hj e2 (fun c hc => ?_)
  have := e3 c hc
  simp only [Value.int.injEq] at this
  exact this
end EW
