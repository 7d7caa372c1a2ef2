/-! THE REFERENCE: stories and developers added, assigned. -/
def setR (X : kMs) (g : Nat → Int32) : kMs := (X.1, va_up X.2 0 g)
theorem setR_0 {X : kMs} {g : Nat → Int32} (hX : X.2 0 = g) (j : Nat) (v : Int32) : gPut X 0 j v = setR X (upd g j v) := by
  unfold gPut setR
  rw [hX]
theorem setR_s (X : kMs) (g : Nat → Int32) (j : Nat) (v : Int32) : gPut (setR X g) 0 j v = setR X (upd g j v) := by
  unfold gPut setR
  refine Prod.ext rfl (funext fun r => ?_)
  show va_up (va_up X.2 0 g) 0 (upd (va_up X.2 0 g 0) j v) r = va_up X.2 0 (upd g j v) r
  rw [show va_up X.2 0 g 0 = g from rfl]
  simp only [va_up]
  by_cases h : r = 0
  · rw [if_pos h, if_pos h]
  · rw [if_neg h, if_neg h, if_neg h]
theorem setR_B (X : kMs) {g : Nat → Int32} {B : kBd} (h : g = gOf B) : setR X g = setG X B := by rw [h]; rfl
theorem asgOf_n {B : kBd} (ha : ∀ d, B.1 4 d ≤ B.2 0) : asgOf B (B.2 0) = 0 := by
  unfold asgOf
  rw [if_neg (by have := ha 0; omega), if_neg (by have := ha 1; omega), if_neg (by have := ha 2; omega), if_neg (by have := ha 3; omega)]
theorem upd_add {B : kBd} {q : Nat} (hn : B.2 0 < 16) (hpl : (B.2 2).testBit (B.2 0) = false) (ha : ∀ d, B.1 4 d ≤ B.2 0) : upd (upd (upd (upd (upd (upd (gOf B) 0 (nI (B.2 0 + 1))) (7 + 5 * B.2 0 + 0) (nI q)) (7 + 5 * B.2 0 + 1) (nI q)) (7 + 5 * B.2 0 + 2) (nI 0)) (7 + 5 * B.2 0 + 3) (-1)) (7 + 5 * B.2 0 + 4) (nI 0) = gOf (addB B q) := by
  have e0 : (addB B q).2 0 = B.2 0 + 1 := rfl
  have e1 : ∀ f, f ≠ 0 → (addB B q).2 f = B.2 f := fun f hf => by
    show (if f = 0 then B.2 0 + 1 else B.2 f) = B.2 f
    rw [if_neg hf]
  have eS : ∀ k w, k ≠ B.2 0 → gS (addB B q) k w = gS B k w := by
    intro k w hk
    match w with
    | 0 => show nI ((addB B q).1 0 k) = _; simp [addB, bP1, bS1, hk]; rfl
    | 1 => show nI ((addB B q).1 1 k) = _; simp [addB, bP1, bS1, hk]; rfl
    | 2 => rfl
    | 3 => rfl
    | w + 4 => show nI ((addB B q).1 2 k) = _; simp [addB, bP1, bS1, hk]; rfl
  have z0 : gS (addB B q) (B.2 0) 0 = nI q := by show nI ((addB B q).1 0 (B.2 0)) = _; simp [addB, bP1, bS1]
  have z1 : gS (addB B q) (B.2 0) 1 = nI q := by show nI ((addB B q).1 1 (B.2 0)) = _; simp [addB, bP1, bS1]
  have z2 : gS (addB B q) (B.2 0) 2 = nI 0 := by
    show nI (if (B.2 2).testBit (B.2 0) then 1 else 0) = _
    rw [hpl]; rfl
  have z3 : gS (addB B q) (B.2 0) 3 = -1 := by
    show nI (asgOf B (B.2 0)) - 1 = _
    rw [asgOf_n ha]; exact a0
  have z4 : gS (addB B q) (B.2 0) 4 = nI 0 := by show nI ((addB B q).1 2 (B.2 0)) = _; simp [addB, bP1, bS1]
  funext j
  show (if j = 7 + 5 * B.2 0 + 4 then nI 0 else if j = 7 + 5 * B.2 0 + 3 then (-1 : Int32) else if j = 7 + 5 * B.2 0 + 2 then nI 0 else if j = 7 + 5 * B.2 0 + 1 then nI q else if j = 7 + 5 * B.2 0 + 0 then nI q else if j = 0 then nI (B.2 0 + 1) else gOf B j) = gOf (addB B q) j
  unfold gOf
  rw [e0, e1 1 (by decide)]
  by_cases c1 : j < 7
  · rw [if_neg (by omega), if_neg (by omega), if_neg (by omega), if_neg (by omega), if_neg (by omega), if_pos c1, if_pos c1]
    by_cases c2 : j = 0
    · rw [if_pos c2, c2]; rfl
    · rw [if_neg c2, e1]
      intro z
      have hj : ∀ a, a < 7 → gN a = 0 → a = 0 := by decide
      exact c2 (hj j c1 z)
  · rw [if_neg (show ¬ j = 0 by omega)]
    simp only [if_neg c1]
    by_cases c2 : j < 87
    · simp only [if_pos c2]
      by_cases c3 : (j - 7) / 5 < B.2 0
      · rw [if_pos c3, if_pos (show (j - 7) / 5 < B.2 0 + 1 by omega), eS _ _ (by omega), if_neg (by omega), if_neg (by omega), if_neg (by omega), if_neg (by omega), if_neg (by omega)]
      · rw [if_neg c3]
        by_cases c4 : (j - 7) / 5 = B.2 0
        · rw [if_pos (show (j - 7) / 5 < B.2 0 + 1 by omega), c4]
          have hw : (j - 7) % 5 < 5 := Nat.mod_lt _ (by decide)
          have hj : j = 7 + 5 * B.2 0 + (j - 7) % 5 := by omega
          generalize (j - 7) % 5 = w at hw hj ⊢
          match w, hw with
          | 0, _ => rw [z0, if_neg (by omega), if_neg (by omega), if_neg (by omega), if_neg (by omega), if_pos (by omega)]
          | 1, _ => rw [z1, if_neg (by omega), if_neg (by omega), if_neg (by omega), if_pos (by omega)]
          | 2, _ => rw [z2, if_neg (by omega), if_neg (by omega), if_pos (by omega)]
          | 3, _ => rw [z3, if_neg (by omega), if_pos (by omega)]
          | 4, _ => rw [z4, if_pos (by omega)]
        · rw [if_neg (show ¬ (j - 7) / 5 < B.2 0 + 1 by omega), if_neg (by omega), if_neg (by omega), if_neg (by omega), if_neg (by omega), if_neg (by omega)]
    · simp only [if_neg c2]
      rw [if_neg (by omega), if_neg (by omega), if_neg (by omega), if_neg (by omega), if_neg (by omega)]
      rfl
theorem upd_dev {B : kBd} {q : Nat} (hm : B.2 1 < 4) (h4 : B.1 4 (B.2 1) = 0) : upd (upd (upd (gOf B) 1 (nI (B.2 1 + 1))) (87 + 2 * B.2 1 + 0) (nI q)) (87 + 2 * B.2 1 + 1) (-1) = gOf (devB B q) := by
  have e0 : (devB B q).2 1 = B.2 1 + 1 := rfl
  have e1 : ∀ f, f ≠ 1 → (devB B q).2 f = B.2 f := fun f hf => by
    show (if f = 1 then B.2 1 + 1 else B.2 f) = B.2 f
    rw [if_neg hf]
  have e3 : ∀ c, (devB B q).1 3 c = if c = B.2 1 then q else B.1 3 c := by
    intro c
    simp [devB, bP1, bS1]
  have e4 : (devB B q).1 4 = B.1 4 := by
    funext c
    by_cases hc : c = B.2 1
    · rw [hc, h4]
      simp [devB, bP1, bS1]
    · simp [devB, bP1, bS1, hc]
  have eS : ∀ k w, gS (devB B q) k w = gS B k w := by
    intro k w
    match w with
    | 0 => rfl
    | 1 => rfl
    | 2 => rfl
    | 3 =>
      show nI (asgOf (devB B q) k) - 1 = nI (asgOf B k) - 1
      unfold asgOf
      rw [e4]
    | w + 4 => rfl
  funext j
  show (if j = 87 + 2 * B.2 1 + 1 then (-1 : Int32) else if j = 87 + 2 * B.2 1 + 0 then nI q else if j = 1 then nI (B.2 1 + 1) else gOf B j) = gOf (devB B q) j
  unfold gOf
  rw [e0, e1 0 (by decide), e4]
  simp only [eS]
  by_cases c1 : j < 7
  · rw [if_neg (by omega), if_neg (by omega), if_pos c1, if_pos c1]
    by_cases c2 : j = 1
    · rw [if_pos c2, c2]; rfl
    · rw [if_neg c2, e1]
      intro z
      have hj : ∀ a, a < 7 → gN a = 1 → a = 1 := by decide
      exact c2 (hj j c1 z)
  · rw [if_neg (show ¬ j = 1 by omega)]
    simp only [if_neg c1]
    by_cases c2 : j < 87
    · simp only [if_pos c2]
      rw [if_neg (by omega), if_neg (by omega)]
    · simp only [if_neg c2]
      by_cases c3 : j < 95
      · simp only [if_pos c3]
        by_cases c4 : (j - 87) / 2 < B.2 1
        · rw [if_pos c4, if_pos (show (j - 87) / 2 < B.2 1 + 1 by omega), e3, if_neg (show ¬ (j - 87) / 2 = B.2 1 by omega), if_neg (by omega), if_neg (by omega)]
        · rw [if_neg c4]
          by_cases c5 : (j - 87) / 2 = B.2 1
          · rw [if_pos (show (j - 87) / 2 < B.2 1 + 1 by omega), c5, e3, if_pos rfl, h4]
            by_cases c6 : (j - 87) % 2 = 0
            · rw [if_pos c6, if_neg (by omega), if_pos (by omega)]
            · rw [if_neg c6, if_pos (by omega)]; exact a0.symm
          · rw [if_neg (show ¬ (j - 87) / 2 < B.2 1 + 1 by omega), if_neg (by omega), if_neg (by omega)]
      · simp only [if_neg c3]
        rw [if_neg (by omega), if_neg (by omega)]
        rfl
theorem asgOf_on {B : kBd} {d k : Nat} (hd : d < 4) (hk : asgOf B k = 0) : asgOf (bSet B 4 d (k + 1)) k = d + 1 := by
  have e : ∀ c, (bSet B 4 d (k + 1)).1 4 c = if c = d then k + 1 else B.1 4 c := by
    intro c
    rw [bS1]
    by_cases hc : c = d
    · rw [if_pos ⟨rfl, hc⟩, if_pos hc]
    · rw [if_neg (fun z => hc z.2), if_neg hc]
  unfold asgOf at hk
  have n0 : B.1 4 0 ≠ k + 1 := by intro z; rw [if_pos z] at hk; omega
  rw [if_neg n0] at hk
  have n1 : B.1 4 1 ≠ k + 1 := by intro z; rw [if_pos z] at hk; omega
  rw [if_neg n1] at hk
  have n2 : B.1 4 2 ≠ k + 1 := by intro z; rw [if_pos z] at hk; omega
  rw [if_neg n2] at hk
  have n3 : B.1 4 3 ≠ k + 1 := by intro z; rw [if_pos z] at hk; omega
  unfold asgOf
  simp only [e]
  match d, hd with
  | 0, _ => simp
  | 1, _ => simp [n0]
  | 2, _ => simp [n0, n1]
  | 3, _ => simp [n0, n1, n2]
theorem asgOf_other {B : kBd} {d k k' : Nat} (hd : d < 4) (h0 : B.1 4 d = 0) (hne : k' ≠ k) : asgOf (bSet B 4 d (k + 1)) k' = asgOf B k' := by
  have e : ∀ c, (bSet B 4 d (k + 1)).1 4 c = if c = d then k + 1 else B.1 4 c := by
    intro c
    rw [bS1]
    by_cases hc : c = d
    · rw [if_pos ⟨rfl, hc⟩, if_pos hc]
    · rw [if_neg (fun z => hc z.2), if_neg hc]
  have hn : ¬ k = k' := fun z => hne z.symm
  unfold asgOf
  simp only [e]
  match d, hd with
  | 0, _ => simp [h0, hn]
  | 1, _ => simp [h0, hn]
  | 2, _ => simp [h0, hn]
  | 3, _ => simp [h0, hn]
theorem upd_asg {B : kBd} {d k : Nat} (hn : B.2 0 ≤ 16) (hm : B.2 1 ≤ 4) (hk : k < B.2 0) (hd : d < B.2 1) (h0 : B.1 4 d = 0) (hk0 : asgOf B k = 0) : upd (upd (gOf B) (7 + 5 * k + 3) (nI d)) (87 + 2 * d + 1) (nI k) = gOf (bSet B 4 d (k + 1)) := by
  funext j
  show (if j = 87 + 2 * d + 1 then nI k else if j = 7 + 5 * k + 3 then nI d else gOf B j) = gOf (bSet B 4 d (k + 1)) j
  unfold gOf
  rw [bS2]
  by_cases c1 : j < 7
  · rw [if_neg (by omega), if_neg (by omega), if_pos c1, if_pos c1]
  · by_cases c2 : j < 87
    · rw [if_neg (by omega)]
      simp only [if_neg c1, if_pos c2]
      by_cases c3 : (j - 7) / 5 < B.2 0
      · simp only [if_pos c3]
        by_cases c4 : j = 7 + 5 * k + 3
        · rw [if_pos c4, c4, show (7 + 5 * k + 3 - 7) / 5 = k by omega, show (7 + 5 * k + 3 - 7) % 5 = 3 by omega]
          show nI d = nI (asgOf (bSet B 4 d (k + 1)) k) - 1
          rw [asgOf_on (by omega) hk0]
          exact aOf.symm
        · rw [if_neg c4]
          have hw : (j - 7) % 5 < 5 := Nat.mod_lt _ (by decide)
          generalize hk' : (j - 7) / 5 = k' at c3 ⊢
          generalize hv : (j - 7) % 5 = w at hw ⊢
          match w, hw with
          | 0, _ => rfl
          | 1, _ => rfl
          | 2, _ => rfl
          | 3, _ =>
            show nI (asgOf B k') - 1 = nI (asgOf (bSet B 4 d (k + 1)) k') - 1
            rw [asgOf_other (by omega) h0 (fun z => c4 (by omega))]
          | 4, _ => rfl
      · simp only [if_neg c3]
        rw [if_neg (fun z => c3 (by omega))]
    · simp only [if_neg c1, if_neg c2]
      rw [if_neg (show ¬ j = 7 + 5 * k + 3 by omega)]
      by_cases c3 : j < 95
      · simp only [if_pos c3]
        by_cases c4 : (j - 87) / 2 < B.2 1
        · simp only [if_pos c4]
          by_cases c5 : j = 87 + 2 * d + 1
          · rw [if_pos c5, c5, show (87 + 2 * d + 1 - 87) / 2 = d by omega, show (87 + 2 * d + 1 - 87) % 2 = 1 by omega, if_neg (by decide), bS1, if_pos ⟨rfl, rfl⟩]
            exact aOf.symm
          · rw [if_neg c5]
            by_cases c6 : (j - 87) % 2 = 0
            · rw [if_pos c6, if_pos c6]; rfl
            · rw [if_neg c6, if_neg c6, bS1, if_neg (fun z => c5 (by omega))]
        · simp only [if_neg c4]
          rw [if_neg (fun z => c4 (by omega))]
      · simp only [if_neg c3]
        rw [if_neg (by omega)]
        rfl
theorem ks_X4_isEstimate : kSt yX4_isEstimate cX4_isEstimate 1 (some .boolean) 1 := ⟨mw_1540, mw_64, mw_1541, by decide, by decide, by decide +kernel⟩
set_option maxHeartbeats 4000000 in
set_option maxRecDepth 100000 in
/-- addStory(x) -/
theorem met_X4_addStory (l : Launch) (V : kEnv) (M : kMs) (B : kBd) (hg : M.2 0 = gOf B) (hI : bI B) (w c0 : Nat) (hw : M.1 2 = nI w) (hw2 : w < 2) (hc0 : M.1 1 = nI c0) (hc8 : c0 ≤ 8) (hpl : (B.2 2).testBit (B.2 0) = false) (x : Int32) : kI l yX4_addStory cX4_addStory 3 (some .int) { frames := 2, cells := 0, slots := 0, locals := 46 } V (mWs V) [.ref (eX V 500), .int (x)] (M) (fun r u => (∃ q, isEst (nI q : Int32).toInt = true ∧ q ≤ 13 ∧ x = nI q ∧ B.2 0 < 16 ∧ r = nI (B.2 0) ∧ u = setG (kpW (nPut M 3 (nI 0)) 0 w c0) (addB B q)) ∨ (isEst x.toInt = false ∧ r = nI 0 ∧ u = nPut M 3 (nI 1)) ∨ (∃ q, isEst (nI q : Int32).toInt = true ∧ x = nI q ∧ B.2 0 = 16 ∧ r = nI 0 ∧ u = nPut M 3 (nI 2))) 0 0 := by
  refine kI_of (by decide +kernel) (Nat.le_of_ble_eq_true rfl) ?_
  intro pg e s m args below meth c G hret hlocks hC hB h ls hl Q hQ
  have hl : lv_has ls 3 [(0, .ref (eX V 500)), (1, .int (x))] := hl
  have hx := G.1
  have hcd := G.2.1
  have hI0 := hI
  obtain ⟨hz, hbn, hn, hm, h3, h54, h4, h7, hr, he, ha, hact, h5⟩ := hI
  refine lv_aload_n hx hcd dX4_addStory_0 rfl (lv_at hl 0 rfl) ?_
  refine lv_iload_n hx hcd dX4_addStory_1 rfl (lv_at hl 1 rfl) ?_
  refine k_Si (As := [.int (x)]) (rest := [.ref (eX V 500)]) G hC hB h (met_X4_isEstimate l V M x) mw_1539 ks_X4_isEstimate ⟨rfl, rfl⟩ ⟨Nat.le_of_ble_eq_true rfl, Nat.le_of_ble_eq_true rfl⟩ rfl rfl hl.1 (Nat.le_of_ble_eq_true rfl) dX4_addStory_2 ⟨Nat.le_of_ble_eq_true rfl, Nat.le_of_ble_eq_true rfl⟩ (fun r u H locs hp h => ?_)
  obtain ⟨hr9, hu9⟩ := hp
  rw [hu9] at h
  rcases bsp (isEst (x : Int32).toInt) with c9 | c9
  · skip
    obtain rfl : r = nI 1 := (hr9.trans ((congrArg bz c9).trans (by decide)))
    obtain ⟨q, rfl, hq1, hq2⟩ := isEst_ex c9
    refine lv_if_ne (tgt := 12) hx hcd dX4_addStory_5 (by decide) (fun _ => ?_) (fun c_1 => absurd c_1 (by decide))
    refine lv_aload_n hx hcd dX4_addStory_12 rfl (lv_at hl 0 rfl) ?_
    refine r_mA G hC h 0 (by decide) mw_1472 dX4_addStory_13 ?_
    refine lv_iconst (v := nI 0) hx hcd dX4_addStory_16 (by decide) ?_
    refine r_mL G hC h 0 (0) (by decide) (by decide) rfl (show 0 < 115 by omega) (x := nI (B.2 0)) (gOf_n hg (f := 0) (by decide)) dX4_addStory_17 ?_
    have q_2 := hz.2 0
    refine lv_bipush (v := nI 16) hx hcd dX4_addStory_18 (by decide) ?_
    refine lv_icmp_ne (tgt := 27) hx hcd dX4_addStory_20 (by decide) (fun c_3 => ?_) (fun c_3 => ?_)
    · have c_3 := cNe (tN (n := B.2 0) (by omega)) (tN (n := 16) (by decide)) c_3
      refine lv_iconst (v := nI 0) hx hcd dX4_addStory_27 (by decide) ?_
      refine k_Vi (As := [.int (nI 0)]) (rest := []) (b := eX V 500) G hC hB h (met_X4_fails l V M (nI 0)) mw_1545 kv_X4_fails ⟨rfl, rfl⟩ ⟨Nat.le_of_ble_eq_true rfl, Nat.le_of_ble_eq_true rfl⟩ (r_mV hC h) rfl rfl hl.1 (Nat.le_of_ble_eq_true rfl) dX4_addStory_28 ⟨Nat.le_of_ble_eq_true rfl, Nat.le_of_ble_eq_true rfl⟩ (fun r u H locs hp h => ?_)
      obtain ⟨hr9, hu9⟩ := hp
      obtain rfl : r = nI 0 := (hr9.trans (by decide))
      rw [hu9] at h
      refine lv_if_eq (tgt := 36) hx hcd dX4_addStory_31 (by decide) (fun _ => ?_) (fun c_4 => absurd c_4 (by decide))
      refine lv_aload_n hx hcd dX4_addStory_36 rfl (lv_at hl 0 rfl) ?_
      refine lv_aload_n hx hcd dX4_addStory_37 rfl (lv_at hl 0 rfl) ?_
      refine r_mA G hC h 0 (by decide) mw_1472 dX4_addStory_38 ?_
      refine k_Vv (As := [.ref (eX V (501 + 0))]) (rest := []) (b := eX V 500) G hC hB h (met_X4_keeps l V (nPut M 3 (nI 0)) 0 (Or.inl rfl) w hw hw2 c0 hc0 hc8) mw_1549 kv_X4_keeps ⟨rfl, rfl⟩ ⟨Nat.le_of_ble_eq_true rfl, Nat.le_of_ble_eq_true rfl⟩ (r_mV hC h) rfl rfl hl.1 (Nat.le_of_ble_eq_true rfl) dX4_addStory_41 ⟨Nat.le_of_ble_eq_true rfl, Nat.le_of_ble_eq_true rfl⟩ (fun u H locs hp h => ?_)
      have hu9 := hp
      rw [hu9] at h
      have hg9 : (kpW (nPut M 3 (nI 0)) 0 w c0).2 0 = gOf B := (kpW_g _ _ _ _).trans hg
      refine lv_aload_n hx hcd dX4_addStory_44 rfl (lv_at hl 0 rfl) ?_
      refine r_mA G hC h 0 (by decide) mw_1472 dX4_addStory_45 ?_
      refine lv_iconst (v := nI 0) hx hcd dX4_addStory_48 (by decide) ?_
      refine r_mL G hC h 0 (0) (by decide) (by decide) rfl (show 0 < 115 by omega) (x := nI (B.2 0)) (gOf_n hg9 (f := 0) (by decide)) dX4_addStory_49 ?_
      have q_5 := hz.2 0
      refine lv_istore_n (lv' := [(2, .int (nI (B.2 0))), (0, .ref (eX V 500)), (1, .int (nI (q)))]) hx hcd dX4_addStory_50 rfl hl (by decide) rfl (fun ls hl => ?_)
      refine lv_aload_n hx hcd dX4_addStory_51 rfl (lv_at hl 1 rfl) ?_
      refine r_mA G hC h 0 (by decide) mw_1472 dX4_addStory_52 ?_
      refine lv_iconst (v := nI 0) hx hcd dX4_addStory_55 (by decide) ?_
      refine lv_dup2_11 hx hcd dX4_addStory_56 rfl rfl ?_
      refine r_mL G hC h 0 (0) (by decide) (by decide) rfl (show 0 < 115 by omega) (x := nI (B.2 0)) (gOf_n hg9 (f := 0) (by decide)) dX4_addStory_57 ?_
      have q_6 := hz.2 0
      refine lv_iconst (v := nI 1) hx hcd dX4_addStory_58 (by decide) ?_
      refine w_iadd (v := nI ((B.2 0) + 1)) hx hcd dX4_addStory_59 (nI_add _ _) ?_
      refine r_mT G hC h 0 (0) (by decide) (by decide) rfl (show 0 < 115 by omega) rfl dX4_addStory_60 (fun H locs h => ?_)
      refine lv_aload_n hx hcd dX4_addStory_61 rfl (lv_at hl 1 rfl) ?_
      refine lv_iload_n hx hcd dX4_addStory_62 rfl (lv_at hl 0 rfl) ?_
      refine lv_iconst (v := nI 0) hx hcd dX4_addStory_63 (by decide) ?_
      refine lv_iload_n hx hcd dX4_addStory_64 rfl (lv_at hl 2 rfl) ?_
      refine k_Vv (As := [.int (nI (B.2 0)), .int (nI 0), .int (nI (q))]) (rest := []) (b := eX V 500) G hC hB h (met_X4_lays l V (gPut (kpW (nPut M 3 (nI 0)) 0 w c0) 0 (0) (nI ((B.2 0) + 1))) (B.2 0) 0 (nI (q)) (by omega) (by decide)) mw_1556 kv_X4_lays ⟨rfl, rfl⟩ ⟨Nat.le_of_ble_eq_true rfl, Nat.le_of_ble_eq_true rfl⟩ (r_mV hC h) rfl rfl hl.1 (Nat.le_of_ble_eq_true rfl) dX4_addStory_65 ⟨Nat.le_of_ble_eq_true rfl, Nat.le_of_ble_eq_true rfl⟩ (fun u H locs hp h => ?_)
      have hu9 := hp
      rw [hu9] at h
      refine lv_aload_n hx hcd dX4_addStory_68 rfl (lv_at hl 1 rfl) ?_
      refine lv_iload_n hx hcd dX4_addStory_69 rfl (lv_at hl 0 rfl) ?_
      refine lv_iconst (v := nI 1) hx hcd dX4_addStory_70 (by decide) ?_
      refine lv_iload_n hx hcd dX4_addStory_71 rfl (lv_at hl 2 rfl) ?_
      refine k_Vv (As := [.int (nI (B.2 0)), .int (nI 1), .int (nI (q))]) (rest := []) (b := eX V 500) G hC hB h (met_X4_lays l V (gPut (gPut (kpW (nPut M 3 (nI 0)) 0 w c0) 0 (0) (nI ((B.2 0) + 1))) 0 (7 + 5 * (B.2 0) + 0) (nI (q))) (B.2 0) 1 (nI (q)) (by omega) (by decide)) mw_1556 kv_X4_lays ⟨rfl, rfl⟩ ⟨Nat.le_of_ble_eq_true rfl, Nat.le_of_ble_eq_true rfl⟩ (r_mV hC h) rfl rfl hl.1 (Nat.le_of_ble_eq_true rfl) dX4_addStory_72 ⟨Nat.le_of_ble_eq_true rfl, Nat.le_of_ble_eq_true rfl⟩ (fun u H locs hp h => ?_)
      have hu9 := hp
      rw [hu9] at h
      refine lv_aload_n hx hcd dX4_addStory_75 rfl (lv_at hl 1 rfl) ?_
      refine lv_iload_n hx hcd dX4_addStory_76 rfl (lv_at hl 0 rfl) ?_
      refine lv_iconst (v := nI 2) hx hcd dX4_addStory_77 (by decide) ?_
      refine lv_iconst (v := nI 0) hx hcd dX4_addStory_78 (by decide) ?_
      refine k_Vv (As := [.int (nI (B.2 0)), .int (nI 2), .int (nI 0)]) (rest := []) (b := eX V 500) G hC hB h (met_X4_lays l V (gPut (gPut (gPut (kpW (nPut M 3 (nI 0)) 0 w c0) 0 (0) (nI ((B.2 0) + 1))) 0 (7 + 5 * (B.2 0) + 0) (nI (q))) 0 (7 + 5 * (B.2 0) + 1) (nI (q))) (B.2 0) 2 (nI 0) (by omega) (by decide)) mw_1556 kv_X4_lays ⟨rfl, rfl⟩ ⟨Nat.le_of_ble_eq_true rfl, Nat.le_of_ble_eq_true rfl⟩ (r_mV hC h) rfl rfl hl.1 (Nat.le_of_ble_eq_true rfl) dX4_addStory_79 ⟨Nat.le_of_ble_eq_true rfl, Nat.le_of_ble_eq_true rfl⟩ (fun u H locs hp h => ?_)
      have hu9 := hp
      rw [hu9] at h
      refine lv_aload_n hx hcd dX4_addStory_82 rfl (lv_at hl 1 rfl) ?_
      refine lv_iload_n hx hcd dX4_addStory_83 rfl (lv_at hl 0 rfl) ?_
      refine lv_iconst (v := nI 3) hx hcd dX4_addStory_84 (by decide) ?_
      refine lv_iconst (v := -1) hx hcd dX4_addStory_85 (by decide) ?_
      refine k_Vv (As := [.int (nI (B.2 0)), .int (nI 3), .int (-1)]) (rest := []) (b := eX V 500) G hC hB h (met_X4_lays l V (gPut (gPut (gPut (gPut (kpW (nPut M 3 (nI 0)) 0 w c0) 0 (0) (nI ((B.2 0) + 1))) 0 (7 + 5 * (B.2 0) + 0) (nI (q))) 0 (7 + 5 * (B.2 0) + 1) (nI (q))) 0 (7 + 5 * (B.2 0) + 2) (nI 0)) (B.2 0) 3 (-1) (by omega) (by decide)) mw_1556 kv_X4_lays ⟨rfl, rfl⟩ ⟨Nat.le_of_ble_eq_true rfl, Nat.le_of_ble_eq_true rfl⟩ (r_mV hC h) rfl rfl hl.1 (Nat.le_of_ble_eq_true rfl) dX4_addStory_86 ⟨Nat.le_of_ble_eq_true rfl, Nat.le_of_ble_eq_true rfl⟩ (fun u H locs hp h => ?_)
      have hu9 := hp
      rw [hu9] at h
      refine lv_aload_n hx hcd dX4_addStory_89 rfl (lv_at hl 1 rfl) ?_
      refine lv_iload_n hx hcd dX4_addStory_90 rfl (lv_at hl 0 rfl) ?_
      refine lv_iconst (v := nI 4) hx hcd dX4_addStory_91 (by decide) ?_
      refine lv_iconst (v := nI 0) hx hcd dX4_addStory_92 (by decide) ?_
      refine k_Vv (As := [.int (nI (B.2 0)), .int (nI 4), .int (nI 0)]) (rest := []) (b := eX V 500) G hC hB h (met_X4_lays l V (gPut (gPut (gPut (gPut (gPut (kpW (nPut M 3 (nI 0)) 0 w c0) 0 (0) (nI ((B.2 0) + 1))) 0 (7 + 5 * (B.2 0) + 0) (nI (q))) 0 (7 + 5 * (B.2 0) + 1) (nI (q))) 0 (7 + 5 * (B.2 0) + 2) (nI 0)) 0 (7 + 5 * (B.2 0) + 3) (-1)) (B.2 0) 4 (nI 0) (by omega) (by decide)) mw_1556 kv_X4_lays ⟨rfl, rfl⟩ ⟨Nat.le_of_ble_eq_true rfl, Nat.le_of_ble_eq_true rfl⟩ (r_mV hC h) rfl rfl hl.1 (Nat.le_of_ble_eq_true rfl) dX4_addStory_93 ⟨Nat.le_of_ble_eq_true rfl, Nat.le_of_ble_eq_true rfl⟩ (fun u H locs hp h => ?_)
      have hu9 := hp
      rw [hu9] at h
      refine lv_iload_n hx hcd dX4_addStory_96 rfl (lv_at hl 0 rfl) ?_
      exact k_reti hQ G hret hlocks h (Or.inl ⟨q, c9, hq2, rfl, by omega, rfl, by rw [setR_0 hg9, setR_s, setR_s, setR_s, setR_s, setR_s, setR_B _ (upd_add (by omega) hpl ha)]⟩) (Nat.le_of_ble_eq_true rfl) (Nat.le_of_ble_eq_true rfl) dX4_addStory_97
    · have c_3 := cEq (tN (n := B.2 0) (by omega)) (tN (n := 16) (by decide)) c_3
      refine lv_iconst (v := nI 2) hx hcd dX4_addStory_23 (by decide) ?_
      refine lv_goto (tgt := 28) hx hcd dX4_addStory_24 (by decide) ?_
      refine k_Vi (As := [.int (nI 2)]) (rest := []) (b := eX V 500) G hC hB h (met_X4_fails l V M (nI 2)) mw_1545 kv_X4_fails ⟨rfl, rfl⟩ ⟨Nat.le_of_ble_eq_true rfl, Nat.le_of_ble_eq_true rfl⟩ (r_mV hC h) rfl rfl hl.1 (Nat.le_of_ble_eq_true rfl) dX4_addStory_28 ⟨Nat.le_of_ble_eq_true rfl, Nat.le_of_ble_eq_true rfl⟩ (fun r u H locs hp h => ?_)
      obtain ⟨hr9, hu9⟩ := hp
      obtain rfl : r = nI 1 := (hr9.trans (by decide))
      rw [hu9] at h
      refine lv_if_eq (tgt := 36) hx hcd dX4_addStory_31 (by decide) (fun c_8 => absurd c_8 (by decide)) (fun _ => ?_)
      refine lv_iconst (v := nI 0) hx hcd dX4_addStory_34 (by decide) ?_
      exact k_reti hQ G hret hlocks h (Or.inr (Or.inr ⟨q, c9, rfl, by omega, rfl, rfl⟩)) (Nat.le_of_ble_eq_true rfl) (Nat.le_of_ble_eq_true rfl) dX4_addStory_35
  · skip
    obtain rfl : r = nI 0 := (hr9.trans ((congrArg bz c9).trans (by decide)))
    refine lv_if_ne (tgt := 12) hx hcd dX4_addStory_5 (by decide) (fun c_9 => absurd c_9 (by decide)) (fun _ => ?_)
    refine lv_iconst (v := nI 1) hx hcd dX4_addStory_8 (by decide) ?_
    refine lv_goto (tgt := 28) hx hcd dX4_addStory_9 (by decide) ?_
    refine k_Vi (As := [.int (nI 1)]) (rest := []) (b := eX V 500) G hC hB h (met_X4_fails l V M (nI 1)) mw_1545 kv_X4_fails ⟨rfl, rfl⟩ ⟨Nat.le_of_ble_eq_true rfl, Nat.le_of_ble_eq_true rfl⟩ (r_mV hC h) rfl rfl hl.1 (Nat.le_of_ble_eq_true rfl) dX4_addStory_28 ⟨Nat.le_of_ble_eq_true rfl, Nat.le_of_ble_eq_true rfl⟩ (fun r u H locs hp h => ?_)
    obtain ⟨hr9, hu9⟩ := hp
    obtain rfl : r = nI 1 := (hr9.trans (by decide))
    rw [hu9] at h
    refine lv_if_eq (tgt := 36) hx hcd dX4_addStory_31 (by decide) (fun c_10 => absurd c_10 (by decide)) (fun _ => ?_)
    refine lv_iconst (v := nI 0) hx hcd dX4_addStory_34 (by decide) ?_
    exact k_reti hQ G hret hlocks h (Or.inr (Or.inl ⟨c9, rfl, rfl⟩)) (Nat.le_of_ble_eq_true rfl) (Nat.le_of_ble_eq_true rfl) dX4_addStory_35
set_option maxHeartbeats 4000000 in
set_option maxRecDepth 100000 in
/-- addDeveloper(x) -/
theorem met_X4_addDeveloper (l : Launch) (V : kEnv) (M : kMs) (B : kBd) (hg : M.2 0 = gOf B) (hI : bI B) (w c0 : Nat) (hw : M.1 2 = nI w) (hw2 : w < 2) (hc0 : M.1 1 = nI c0) (hc8 : c0 ≤ 8) (h40 : B.1 4 (B.2 1) = 0) (x : Int32) : kI l yX4_addDeveloper cX4_addDeveloper 3 (some .int) { frames := 2, cells := 0, slots := 0, locals := 46 } V (mWs V) [.ref (eX V 500), .int (x)] (M) (fun r u => (∃ q, 1 ≤ q ∧ q ≤ 4 ∧ x = nI q ∧ B.2 1 < 4 ∧ r = nI (B.2 1) ∧ u = setG (kpW (nPut M 3 (nI 0)) 0 w c0) (devB B q)) ∨ (¬ (1 ≤ x.toInt ∧ x.toInt ≤ 4) ∧ r = nI 0 ∧ u = nPut M 3 (nI 1)) ∨ (∃ q, 1 ≤ q ∧ q ≤ 4 ∧ x = nI q ∧ B.2 1 = 4 ∧ r = nI 0 ∧ u = nPut M 3 (nI 2))) 0 0 := by
  refine kI_of (by decide +kernel) (Nat.le_of_ble_eq_true rfl) ?_
  intro pg e s m args below meth c G hret hlocks hC hB h ls hl Q hQ
  have hl : lv_has ls 3 [(0, .ref (eX V 500)), (1, .int (x))] := hl
  have hx := G.1
  have hcd := G.2.1
  have hI0 := hI
  obtain ⟨hz, hbn, hn, hm, h3, h54, h4, h7, hr, he, ha, hact, h5⟩ := hI
  refine lv_aload_n hx hcd dX4_addDeveloper_0 rfl (lv_at hl 0 rfl) ?_
  refine lv_iload_n hx hcd dX4_addDeveloper_1 rfl (lv_at hl 1 rfl) ?_
  refine lv_iconst (v := nI 1) hx hcd dX4_addDeveloper_2 (by decide) ?_
  refine lv_iconst (v := nI 4) hx hcd dX4_addDeveloper_3 (by decide) ?_
  refine k_Si (As := [.int (x), .int (nI 1), .int (nI 4)]) (rest := [.ref (eX V 500)]) G hC hB h (met_X4_in l V M x (nI 1) (nI 4) (1) (4) (tN (n := 1) (by decide)) (tN (n := 4) (by decide))) mw_1542 ks_X4_in ⟨rfl, rfl⟩ ⟨Nat.le_of_ble_eq_true rfl, Nat.le_of_ble_eq_true rfl⟩ rfl rfl hl.1 (Nat.le_of_ble_eq_true rfl) dX4_addDeveloper_4 ⟨Nat.le_of_ble_eq_true rfl, Nat.le_of_ble_eq_true rfl⟩ (fun r u H locs hp h => ?_)
  obtain ⟨hr9, hu9⟩ := hp
  rw [hu9] at h
  rcases bsp (decide (1 ≤ (x : Int32).toInt ∧ (x : Int32).toInt ≤ 4)) with c9 | c9
  · skip
    obtain rfl : r = nI 1 := (hr9.trans ((congrArg bz c9).trans (by decide)))
    obtain ⟨q, rfl, hq1, hq2⟩ := rng_ex (a := 1) (b := 4) (by decide) (of_decide_eq_true c9)
    refine lv_if_ne (tgt := 14) hx hcd dX4_addDeveloper_7 (by decide) (fun _ => ?_) (fun c_1 => absurd c_1 (by decide))
    refine lv_aload_n hx hcd dX4_addDeveloper_14 rfl (lv_at hl 0 rfl) ?_
    refine r_mA G hC h 0 (by decide) mw_1472 dX4_addDeveloper_15 ?_
    refine lv_iconst (v := nI 1) hx hcd dX4_addDeveloper_18 (by decide) ?_
    refine r_mL G hC h 0 (1) (by decide) (by decide) rfl (show 1 < 115 by omega) (x := nI (B.2 1)) (gOf_n hg (f := 1) (by decide)) dX4_addDeveloper_19 ?_
    have q_2 := hz.2 1
    refine lv_iconst (v := nI 4) hx hcd dX4_addDeveloper_20 (by decide) ?_
    refine lv_icmp_ne (tgt := 28) hx hcd dX4_addDeveloper_21 (by decide) (fun c_3 => ?_) (fun c_3 => ?_)
    · have c_3 := cNe (tN (n := B.2 1) (by omega)) (tN (n := 4) (by decide)) c_3
      refine lv_iconst (v := nI 0) hx hcd dX4_addDeveloper_28 (by decide) ?_
      refine k_Vi (As := [.int (nI 0)]) (rest := []) (b := eX V 500) G hC hB h (met_X4_fails l V M (nI 0)) mw_1545 kv_X4_fails ⟨rfl, rfl⟩ ⟨Nat.le_of_ble_eq_true rfl, Nat.le_of_ble_eq_true rfl⟩ (r_mV hC h) rfl rfl hl.1 (Nat.le_of_ble_eq_true rfl) dX4_addDeveloper_29 ⟨Nat.le_of_ble_eq_true rfl, Nat.le_of_ble_eq_true rfl⟩ (fun r u H locs hp h => ?_)
      obtain ⟨hr9, hu9⟩ := hp
      obtain rfl : r = nI 0 := (hr9.trans (by decide))
      rw [hu9] at h
      refine lv_if_eq (tgt := 37) hx hcd dX4_addDeveloper_32 (by decide) (fun _ => ?_) (fun c_4 => absurd c_4 (by decide))
      refine lv_aload_n hx hcd dX4_addDeveloper_37 rfl (lv_at hl 0 rfl) ?_
      refine lv_aload_n hx hcd dX4_addDeveloper_38 rfl (lv_at hl 0 rfl) ?_
      refine r_mA G hC h 0 (by decide) mw_1472 dX4_addDeveloper_39 ?_
      refine k_Vv (As := [.ref (eX V (501 + 0))]) (rest := []) (b := eX V 500) G hC hB h (met_X4_keeps l V (nPut M 3 (nI 0)) 0 (Or.inl rfl) w hw hw2 c0 hc0 hc8) mw_1549 kv_X4_keeps ⟨rfl, rfl⟩ ⟨Nat.le_of_ble_eq_true rfl, Nat.le_of_ble_eq_true rfl⟩ (r_mV hC h) rfl rfl hl.1 (Nat.le_of_ble_eq_true rfl) dX4_addDeveloper_42 ⟨Nat.le_of_ble_eq_true rfl, Nat.le_of_ble_eq_true rfl⟩ (fun u H locs hp h => ?_)
      have hu9 := hp
      rw [hu9] at h
      have hg9 : (kpW (nPut M 3 (nI 0)) 0 w c0).2 0 = gOf B := (kpW_g _ _ _ _).trans hg
      refine lv_aload_n hx hcd dX4_addDeveloper_45 rfl (lv_at hl 0 rfl) ?_
      refine r_mA G hC h 0 (by decide) mw_1472 dX4_addDeveloper_46 ?_
      refine lv_iconst (v := nI 1) hx hcd dX4_addDeveloper_49 (by decide) ?_
      refine r_mL G hC h 0 (1) (by decide) (by decide) rfl (show 1 < 115 by omega) (x := nI (B.2 1)) (gOf_n hg9 (f := 1) (by decide)) dX4_addDeveloper_50 ?_
      have q_5 := hz.2 1
      refine lv_istore_n (lv' := [(2, .int (nI (B.2 1))), (0, .ref (eX V 500)), (1, .int (nI (q)))]) hx hcd dX4_addDeveloper_51 rfl hl (by decide) rfl (fun ls hl => ?_)
      refine lv_aload_n hx hcd dX4_addDeveloper_52 rfl (lv_at hl 1 rfl) ?_
      refine r_mA G hC h 0 (by decide) mw_1472 dX4_addDeveloper_53 ?_
      refine lv_iconst (v := nI 1) hx hcd dX4_addDeveloper_56 (by decide) ?_
      refine lv_dup2_11 hx hcd dX4_addDeveloper_57 rfl rfl ?_
      refine r_mL G hC h 0 (1) (by decide) (by decide) rfl (show 1 < 115 by omega) (x := nI (B.2 1)) (gOf_n hg9 (f := 1) (by decide)) dX4_addDeveloper_58 ?_
      have q_6 := hz.2 1
      refine lv_iconst (v := nI 1) hx hcd dX4_addDeveloper_59 (by decide) ?_
      refine w_iadd (v := nI ((B.2 1) + 1)) hx hcd dX4_addDeveloper_60 (nI_add _ _) ?_
      refine r_mT G hC h 0 (1) (by decide) (by decide) rfl (show 1 < 115 by omega) rfl dX4_addDeveloper_61 (fun H locs h => ?_)
      refine lv_aload_n hx hcd dX4_addDeveloper_62 rfl (lv_at hl 1 rfl) ?_
      refine r_mA G hC h 0 (by decide) mw_1472 dX4_addDeveloper_63 ?_
      refine lv_bipush (v := nI 87) hx hcd dX4_addDeveloper_66 (by decide) ?_
      refine lv_iconst (v := nI 2) hx hcd dX4_addDeveloper_68 (by decide) ?_
      refine lv_iload_n hx hcd dX4_addDeveloper_69 rfl (lv_at hl 0 rfl) ?_
      refine w_imul (v := nI (2 * (B.2 1))) hx hcd dX4_addDeveloper_70 (pk_mul _ _) ?_
      refine w_iadd (v := nI (87 + (2 * (B.2 1)))) hx hcd dX4_addDeveloper_71 (nI_add _ _) ?_
      refine lv_iconst (v := nI 0) hx hcd dX4_addDeveloper_72 (by decide) ?_
      refine w_iadd (v := nI ((87 + (2 * (B.2 1))) + 0)) hx hcd dX4_addDeveloper_73 (nI_add _ _) ?_
      refine lv_iload_n hx hcd dX4_addDeveloper_74 rfl (lv_at hl 2 rfl) ?_
      refine r_mT G hC h 0 ((87 + (2 * (B.2 1))) + 0) (by decide) (by decide) rfl (show (87 + (2 * (B.2 1))) + 0 < 115 by omega) rfl dX4_addDeveloper_75 (fun H locs h => ?_)
      refine lv_aload_n hx hcd dX4_addDeveloper_76 rfl (lv_at hl 1 rfl) ?_
      refine r_mA G hC h 0 (by decide) mw_1472 dX4_addDeveloper_77 ?_
      refine lv_bipush (v := nI 87) hx hcd dX4_addDeveloper_80 (by decide) ?_
      refine lv_iconst (v := nI 2) hx hcd dX4_addDeveloper_82 (by decide) ?_
      refine lv_iload_n hx hcd dX4_addDeveloper_83 rfl (lv_at hl 0 rfl) ?_
      refine w_imul (v := nI (2 * (B.2 1))) hx hcd dX4_addDeveloper_84 (pk_mul _ _) ?_
      refine w_iadd (v := nI (87 + (2 * (B.2 1)))) hx hcd dX4_addDeveloper_85 (nI_add _ _) ?_
      refine lv_iconst (v := nI 1) hx hcd dX4_addDeveloper_86 (by decide) ?_
      refine w_iadd (v := nI ((87 + (2 * (B.2 1))) + 1)) hx hcd dX4_addDeveloper_87 (nI_add _ _) ?_
      refine lv_iconst (v := -1) hx hcd dX4_addDeveloper_88 (by decide) ?_
      refine r_mT G hC h 0 ((87 + (2 * (B.2 1))) + 1) (by decide) (by decide) rfl (show (87 + (2 * (B.2 1))) + 1 < 115 by omega) rfl dX4_addDeveloper_89 (fun H locs h => ?_)
      refine lv_iload_n hx hcd dX4_addDeveloper_90 rfl (lv_at hl 0 rfl) ?_
      exact k_reti hQ G hret hlocks h (Or.inl ⟨q, hq1, hq2, rfl, by omega, rfl, by rw [setR_0 hg9, setR_s, setR_s, setR_B _ (upd_dev (by omega) h40)]⟩) (Nat.le_of_ble_eq_true rfl) (Nat.le_of_ble_eq_true rfl) dX4_addDeveloper_91
    · have c_3 := cEq (tN (n := B.2 1) (by omega)) (tN (n := 4) (by decide)) c_3
      refine lv_iconst (v := nI 2) hx hcd dX4_addDeveloper_24 (by decide) ?_
      refine lv_goto (tgt := 29) hx hcd dX4_addDeveloper_25 (by decide) ?_
      refine k_Vi (As := [.int (nI 2)]) (rest := []) (b := eX V 500) G hC hB h (met_X4_fails l V M (nI 2)) mw_1545 kv_X4_fails ⟨rfl, rfl⟩ ⟨Nat.le_of_ble_eq_true rfl, Nat.le_of_ble_eq_true rfl⟩ (r_mV hC h) rfl rfl hl.1 (Nat.le_of_ble_eq_true rfl) dX4_addDeveloper_29 ⟨Nat.le_of_ble_eq_true rfl, Nat.le_of_ble_eq_true rfl⟩ (fun r u H locs hp h => ?_)
      obtain ⟨hr9, hu9⟩ := hp
      obtain rfl : r = nI 1 := (hr9.trans (by decide))
      rw [hu9] at h
      refine lv_if_eq (tgt := 37) hx hcd dX4_addDeveloper_32 (by decide) (fun c_14 => absurd c_14 (by decide)) (fun _ => ?_)
      refine lv_iconst (v := nI 0) hx hcd dX4_addDeveloper_35 (by decide) ?_
      exact k_reti hQ G hret hlocks h (Or.inr (Or.inr ⟨q, hq1, hq2, rfl, by omega, rfl, rfl⟩)) (Nat.le_of_ble_eq_true rfl) (Nat.le_of_ble_eq_true rfl) dX4_addDeveloper_36
  · skip
    obtain rfl : r = nI 0 := (hr9.trans ((congrArg bz c9).trans (by decide)))
    have c8 := of_decide_eq_false c9
    refine lv_if_ne (tgt := 14) hx hcd dX4_addDeveloper_7 (by decide) (fun c_15 => absurd c_15 (by decide)) (fun _ => ?_)
    refine lv_iconst (v := nI 1) hx hcd dX4_addDeveloper_10 (by decide) ?_
    refine lv_goto (tgt := 29) hx hcd dX4_addDeveloper_11 (by decide) ?_
    refine k_Vi (As := [.int (nI 1)]) (rest := []) (b := eX V 500) G hC hB h (met_X4_fails l V M (nI 1)) mw_1545 kv_X4_fails ⟨rfl, rfl⟩ ⟨Nat.le_of_ble_eq_true rfl, Nat.le_of_ble_eq_true rfl⟩ (r_mV hC h) rfl rfl hl.1 (Nat.le_of_ble_eq_true rfl) dX4_addDeveloper_29 ⟨Nat.le_of_ble_eq_true rfl, Nat.le_of_ble_eq_true rfl⟩ (fun r u H locs hp h => ?_)
    obtain ⟨hr9, hu9⟩ := hp
    obtain rfl : r = nI 1 := (hr9.trans (by decide))
    rw [hu9] at h
    refine lv_if_eq (tgt := 37) hx hcd dX4_addDeveloper_32 (by decide) (fun c_16 => absurd c_16 (by decide)) (fun _ => ?_)
    refine lv_iconst (v := nI 0) hx hcd dX4_addDeveloper_35 (by decide) ?_
    exact k_reti hQ G hret hlocks h (Or.inr (Or.inl ⟨c8, rfl, rfl⟩)) (Nat.le_of_ble_eq_true rfl) (Nat.le_of_ble_eq_true rfl) dX4_addDeveloper_36
