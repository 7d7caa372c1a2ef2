/-! THE ENVIRONMENT, all of it. -/
theorem mem_at {α : Type} {L : List α} {d q : α} (h : q ∈ L) : ∃ i, i < L.length ∧ L.getD i d = q := by
  obtain ⟨i, hi⟩ := List.getElem?_of_mem h
  obtain ⟨h1, h2⟩ := List.getElem?_eq_some_iff.mp hi
  exact ⟨i, h1, by rw [List.getD_eq_getElem?_getD, hi]; rfl⟩
def eX0 (adK adV : Nat → Nat) (tE tT tO i : Nat) : Nat := if i < 300 then adK (i - 200) else if i < 400 then adV (i - 300) else if i = 400 then tE else if i = 401 then tT else tO
theorem vk_S_c {N : Nat} {len : List Nat} {byt : List (List Int32)} {aK aV aK' aV' : Nat → Nat} {A : Nat → Prop} {U : State} {H : Heap} (h1 : ∀ i, i < N → aK' i = aK i) (h2 : ∀ i, i < N → aV' i = aV i) (h : vk_S N len byt aK aV A U H) : vk_S N len byt aK' aV' A U H := by
  refine ⟨fun i hi => ?_, fun i j hi hj e => h.2 i j hi hj ?_⟩
  · rw [h1 i hi, h2 i hi]
    exact h.1 i hi
  · rw [← h1 i hi, ← h1 j hj]
    exact e
set_option maxRecDepth 100000 in
theorem en_St {s : State} {b : Nat} (hts : ∀ w ∈ lw_tbl, w.before #[Value.ref b] s = true) (hs : ∀ w ∈ nf, w.before #[Value.ref b] s = true) : ∃ V : kEnv, eA V = (fun q => s.heap.size ≤ q) ∧ eB V = s.heap.size ∧ cSt V s ∧ va_AO RX0 s := by
  have hl : ∀ w ∈ LW, w.before #[Value.ref b] s = true := fun w hw => hts w (List.mem_filter.mp hw).1
  have hA : ∀ a : Nat, a < s.heap.size → ¬ (fun q => s.heap.size ≤ q) a := fun a h => Nat.not_le.mpr h
  obtain ⟨D, C, hK⟩ := en_K hts
  obtain ⟨adK, adV, hS, hE⟩ := en_S hs
  obtain ⟨tE, hE1, hE2⟩ := va_Tof (f := fun j => .int (kEst j)) (A := fun q => s.heap.size ≤ q) (by decide) (hs _ en_esa) (va_eqt (hs _ en_esl)) (fun j hj => va_eqt (hs _ (List.mem_of_getElem? (en_ese j hj)))) hA
  obtain ⟨tT, hT1, hT2⟩ := va_Tof (f := kTens) (A := fun q => s.heap.size ≤ q) (by decide) (hs _ en_dta) (va_eqt (hs _ en_dtl)) (fun j hj => va_eqt (hs _ (List.mem_of_getElem? (en_dte j hj)))) hA
  obtain ⟨tO, hO1, hO2⟩ := va_Tof (f := kOnes) (A := fun q => s.heap.size ≤ q) (by decide) (hs _ en_doa) (va_eqt (hs _ en_dol)) (fun j hj => va_eqt (hs _ (List.mem_of_getElem? (en_doe j hj)))) hA
  have x400 : eX0 adK adV tE tT tO 400 = tE := by unfold eX0; rw [if_neg (by omega), if_neg (by omega), if_pos rfl]
  have x401 : eX0 adK adV tE tT tO 401 = tT := by unfold eX0; rw [if_neg (by omega), if_neg (by omega), if_neg (by omega), if_pos rfl]
  have x402 : eX0 adK adV tE tT tO 402 = tO := by unfold eX0; rw [if_neg (by omega), if_neg (by omega), if_neg (by omega), if_neg (by omega)]
  have x200 : ∀ i, i < 23 → eX0 adK adV tE tT tO (200 + i) = adK i := fun i hi => by unfold eX0; rw [if_pos (by omega), show 200 + i - 200 = i by omega]
  have x300 : ∀ i, i < 23 → eX0 adK adV tE tT tO (300 + i) = adV i := fun i hi => by unfold eX0; rw [if_neg (by omega), if_pos (by omega), show 300 + i - 300 = i by omega]
  obtain ⟨cS, rS, mS, q1, -, q3, q4, kS, q5, q6⟩ := Cond.selects_spec (hl _ mwx_391)
  have hns : s.methodNamed? ⟨"java/lang/AbstractStringBuilder", "isLatin1", "()Z"⟩ = some mS := q3
  have hcS : s.vm.findClass RJ5 = some mS.cls := findClass_of_methodNamed hns
  refine ⟨(D, C, eX0 adK adV tE tT tO, fun q => s.heap.size ≤ q, s.heap.size), rfl, rfl, ⟨hK, ⟨va_any rfl (hts _ el_n1), va_any rfl (hts _ el_n2), va_any rfl (hts _ el_n3), va_any rfl (hts _ el_n4)⟩, ⟨?_, ?_⟩, ⟨?_, ?_⟩, ?_, ⟨?_, ?_⟩, ⟨?_, ?_, ?_, ?_, ?_, ?_, ?_, ?_⟩, ?_, ?_⟩, va_AO.of (hts _ el_ao)⟩
  · show va_Z RX3 "ESTIMATES" "[I" (.ref (eX0 adK adV tE tT tO 400)) _ s s.heap
    rw [x400]
    exact va_Zref (hts _ el_es) (hl _ mw_56) hE1 hA
  · show va_T .int (eX0 adK adV tE tT tO 400) 6 _ _ s s.heap
    rw [x400]
    exact hE2
  · exact vx_Zqof (hts _ el_us) (hl _ mw_65) (hs _ en_us) hA
  · exact vx_Zqof (hts _ el_ss) (hl _ mw_65) (hs _ en_ss) hA
  · intro q hq
    obtain ⟨i, hi, rfl⟩ := mem_at (d := (0, "")) hq
    have hi : i < 8 := hi
    obtain ⟨a, c, cA, kA, g1, -⟩ := Cond.exactly_spec (hs _ (List.mem_of_getElem? (en_8 i hi)))
    have w := hts _ (List.mem_of_getElem? (en_7 i hi))
    exact ⟨a, vk_R.of w g1⟩
  · exact vk_S_c x200 x300 hS
  · intro i q hi
    have hi2 : i < 23 := (List.getElem?_eq_some_iff.mp hi).1
    have hq : kTx.getD i ("", 0, "", []) = q := by rw [List.getD_eq_getElem?_getD, hi]; rfl
    have w := hts _ (List.mem_of_getElem? (en_6 i hi2))
    have g := hE i hi2
    unfold tK at g
    rw [hq] at w g
    show vk_R q.1 q.2.1 q.2.2.1 (eX0 adK adV tE tT tO (200 + i)) s
    rw [x200 i hi2]
    exact vk_R.of w g
  · exact va_Zof (hts _ el_cs) (hl _ mw_62) (va_eqt (hs _ en_cs)) hA
  · show va_Z "java/lang/Integer" "DigitTens" "[B" (.ref (eX0 adK adV tE tT tO 401)) _ s s.heap
    rw [x401]
    exact va_Zref (hts _ el_dt) (hl _ mw_75) hT1 hA
  · show va_Z "java/lang/Integer" "DigitOnes" "[B" (.ref (eX0 adK adV tE tT tO 402)) _ s s.heap
    rw [x402]
    exact va_Zref (hts _ el_do) (hl _ mw_75) hO1 hA
  · show va_T .byte (eX0 adK adV tE tT tO 401) 100 _ _ s s.heap
    rw [x401]
    exact hT2
  · show va_T .byte (eX0 adK adV tE tT tO 402) 100 _ _ s s.heap
    rw [x402]
    exact hO2
  · exact va_Zqof (hts _ el_sio) (hl _ mw_82) (hs _ en_sio) hA
  · intro y hy
    simp only [kSl, List.mem_cons, List.not_mem_nil, or_false] at hy
    rcases hy with rfl | rfl
    · exact va_any rfl (sel_priv (y := yJ5_ensureCapacityInternal_d00df) (args := #[Value.ref b]) ⟨by decide, by decide⟩ q1 hcS q5 q6 (hts _ el_pec) (hl _ mw_355))
    · exact va_any rfl (sel_priv (y := yJ5_newCapacity_0f7a4) (args := #[Value.ref b]) ⟨by decide, by decide⟩ q1 hcS q5 q6 (hts _ el_pnc) (hl _ mw_359))
  · intro y hy
    exact va_any rfl (hts _ (el_de y hy))
  · intro q hq
    obtain ⟨i, hi, rfl⟩ := mem_at (d := "") hq
    exact va_any rfl (hts _ (List.mem_of_getElem? (el_ca i hi)))
  · intro q hq r hr hne
    obtain ⟨i, hi, rfl⟩ := mem_at (d := "") hq
    obtain ⟨j, hj, rfl⟩ := mem_at (d := "") hr
    exact va_Nc.of (hs _ (List.mem_of_getElem? (en_nc i hi j hj (fun e => hne (by rw [e])))))
