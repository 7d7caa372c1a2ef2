/-! THE COMMAND TEXT: its world, and what its methods answer. -/
theorem cH_b {V : kEnv} {s : State} {H : Heap} {locs : List Loc} {T : kCs} (b : Nat) (h : cH V s H locs (cWs V T)) : cH V s H locs (cWs V (setB T b (T.1 b))) := by rw [setB_self]; exact h
theorem cH_u {V : kEnv} {s : State} {H : Heap} {locs : List Loc} {T : kCs} (k : Nat) (h : cH V s H locs (cWs V T)) : cH V s H locs (cWs V (uPut T k (T.2.2.2 k))) := by rw [uPut_self]; exact h
/-- the command text's own: position, commands, kinds, firsts, seconds -/
def xW (S : kCs) (p cm : Nat) (K F Z : Nat → Int32) : kCs := (S.1, va_up (va_up S.2.1 5 (nI cm)) 6 (nI p), va_up (va_up (va_up S.2.2.1 1 K) 2 F) 3 Z, S.2.2.2)
theorem xW_p (S : kCs) (p cm : Nat) (K F Z : Nat → Int32) (q : Nat) : sPut (xW S p cm K F Z) 6 (nI q) = xW S q cm K F Z := by
  unfold sPut xW
  refine congrArg (fun z : Nat → Int32 => (S.1, z, _)) (funext fun j => ?_)
  show (if j = 6 then nI q else if j = 6 then nI p else _) = (if j = 6 then nI q else _)
  split <;> rfl
theorem xW_c (S : kCs) (p cm : Nat) (K F Z : Nat → Int32) (q : Nat) : sPut (xW S p cm K F Z) 5 (nI q) = xW S p q K F Z := by
  unfold sPut xW
  refine congrArg (fun z : Nat → Int32 => (S.1, z, _)) (funext fun j => ?_)
  show (if j = 5 then nI q else if j = 6 then nI p else if j = 5 then nI cm else _) = (if j = 6 then nI p else if j = 5 then nI q else _)
  by_cases h : j = 5
  · subst h; rfl
  · rw [if_neg h, if_neg h, if_neg h]
theorem xW_k (S : kCs) (p cm : Nat) (K F Z : Nat → Int32) (j : Nat) (v : Int32) : aPut (xW S p cm K F Z) 1 j v = xW S p cm (upd K j v) F Z := by
  unfold aPut xW
  refine congrArg (fun z : Nat → Nat → Int32 => (S.1, _, z, S.2.2.2)) (funext fun i => ?_)
  by_cases h : i = 1
  · subst h; rfl
  · show (if i = 1 then _ else _) = _
    rw [if_neg h]
    show va_up (va_up (va_up S.2.2.1 1 K) 2 F) 3 Z i = va_up (va_up (va_up S.2.2.1 1 (upd K j v)) 2 F) 3 Z i
    simp only [va_up]
    rw [if_neg h, if_neg h]
theorem xW_f (S : kCs) (p cm : Nat) (K F Z : Nat → Int32) (j : Nat) (v : Int32) : aPut (xW S p cm K F Z) 2 j v = xW S p cm K (upd F j v) Z := by
  unfold aPut xW
  refine congrArg (fun z : Nat → Nat → Int32 => (S.1, _, z, S.2.2.2)) (funext fun i => ?_)
  by_cases h : i = 2
  · subst h; rfl
  · show (if i = 2 then _ else _) = _
    rw [if_neg h]
    show va_up (va_up (va_up S.2.2.1 1 K) 2 F) 3 Z i = va_up (va_up (va_up S.2.2.1 1 K) 2 (upd F j v)) 3 Z i
    simp only [va_up]
    rw [if_neg h, if_neg h]
theorem xW_z (S : kCs) (p cm : Nat) (K F Z : Nat → Int32) (j : Nat) (v : Int32) : aPut (xW S p cm K F Z) 3 j v = xW S p cm K F (upd Z j v) := by
  unfold aPut xW
  refine congrArg (fun z : Nat → Nat → Int32 => (S.1, _, z, S.2.2.2)) (funext fun i => ?_)
  by_cases h : i = 3
  · subst h; rfl
  · show (if i = 3 then _ else _) = _
    rw [if_neg h]
    show va_up (va_up (va_up S.2.2.1 1 K) 2 F) 3 Z i = va_up (va_up (va_up S.2.2.1 1 K) 2 F) 3 (upd Z j v) i
    simp only [va_up]
    rw [if_neg h, if_neg h]
/-- the digit at a place, one up (0: none) -/
def tDg (L : List Nat) (p : Nat) : Nat := if p < L.length ∧ 48 ≤ L.getD p 0 ∧ L.getD p 0 ≤ 57 then L.getD p 0 - 48 + 1 else 0
theorem tDg_le (L : List Nat) (p : Nat) : tDg L p ≤ 10 := by unfold tDg; split <;> omega
theorem tDg_lt {L : List Nat} {p : Nat} (h : tDg L p ≠ 0) : p < L.length := by
  unfold tDg at h
  split at h
  · rename_i h2; exact h2.1
  · exact absurd rfl h
def tDp (L : List Nat) (p : Nat) : Nat := if tDg L p = 0 then p else p + 1
/-- a number of one or two digits, one up (0: none); where it ends -/
def tNm (L : List Nat) (b : Bool) (p : Nat) : Nat := if tDg L p = 0 then 0 else if b = false ∨ tDg L (p + 1) = 0 then tDg L p else (tDg L p - 1) * 10 + (tDg L (p + 1) - 1) + 1
def tNp (L : List Nat) (b : Bool) (p : Nat) : Nat := if tDg L p = 0 then p else if b = false ∨ tDg L (p + 1) = 0 then p + 1 else p + 2
theorem tNm_le (L : List Nat) (b : Bool) (p : Nat) : tNm L b p ≤ 100 := by
  have h1 := tDg_le L p
  have h2 := tDg_le L (p + 1)
  unfold tNm
  split
  · omega
  · split <;> omega
theorem tNp_le {L : List Nat} (b : Bool) {p : Nat} (h : p ≤ L.length) : tNp L b p ≤ L.length := by
  unfold tNp
  split
  · exact h
  · rename_i h1
    have := tDg_lt h1
    split
    · omega
    · rename_i h2
      have := tDg_lt (fun z => h2 (Or.inr z))
      omega
theorem tNp_0 {L : List Nat} {b : Bool} {p : Nat} (h : tNm L b p = 0) : tNp L b p = p := by
  unfold tNm at h
  unfold tNp
  by_cases h1 : tDg L p = 0
  · rw [if_pos h1]
  · rw [if_neg h1] at h
    split at h
    · exact absurd h h1
    · omega
/-- a form read: whether it is there, where the reading stopped, first and second numbers of the command idx -/
def rdF (L : List Nat) (idx : Nat) : List Nat → Nat → Nat → (Nat → Int32) → (Nat → Int32) → Bool × Nat × (Nat → Int32) × (Nat → Int32)
  | [], p, _, F, Z => (true, p, F, Z)
  | c :: cs, p, k, F, Z =>
    if c = 78 ∨ c = 68 then
      (if tNm L (decide (c = 78)) p = 0 then (false, p, F, Z)
      else rdF L idx cs (tNp L (decide (c = 78)) p) (k + 1) (if k = 0 then upd F idx (nI (tNm L (decide (c = 78)) p - 1)) else F) (if k = 0 then Z else upd Z idx (nI (tNm L (decide (c = 78)) p - 1))))
    else if p < L.length ∧ L.getD p 0 = c then rdF L idx cs (p + 1) k F Z else (false, p, F, Z)
theorem rdF_le (L : List Nat) (idx : Nat) : ∀ (cs : List Nat) (p k : Nat) (F Z : Nat → Int32), p ≤ L.length → (rdF L idx cs p k F Z).2.1 ≤ L.length
  | [], p, k, F, Z, h => h
  | c :: cs, p, k, F, Z, h => by
    unfold rdF
    split
    · split
      · exact h
      · exact rdF_le L idx cs _ _ _ _ (tNp_le _ h)
    · split
      · rename_i h2; exact rdF_le L idx cs _ _ _ _ (by omega)
      · exact h
theorem drop_at {l : List Nat} {j : Nat} (h : j < l.length) : l.drop j = l.getD j 0 :: l.drop (j + 1) := by
  rw [List.drop_eq_getElem_cons h, List.getD_eq_getElem?_getD, List.getElem?_eq_getElem h]
  rfl
/-- the forms tried from the k-th on: which one is there, one up (0: none), the place, first and second numbers -/
def rdC (L : List Nat) (idx st : Nat) : Nat → Nat → Nat → (Nat → Int32) → (Nat → Int32) → Nat × Nat × (Nat → Int32) × (Nat → Int32)
  | 0, _, fur, F, Z => (0, fur, F, Z)
  | f + 1, k, fur, F, Z =>
    if (rdF L idx (kLs k) st 0 F Z).1 = true then (k + 1, (rdF L idx (kLs k) st 0 F Z).2.1, (rdF L idx (kLs k) st 0 F Z).2.2.1, (rdF L idx (kLs k) st 0 F Z).2.2.2)
    else rdC L idx st f (k + 1) (max fur (rdF L idx (kLs k) st 0 F Z).2.1) (rdF L idx (kLs k) st 0 F Z).2.2.1 (rdF L idx (kLs k) st 0 F Z).2.2.2
theorem rdC_le (L : List Nat) (idx : Nat) {st : Nat} (hs : st ≤ L.length) : ∀ (f k fur : Nat) (F Z : Nat → Int32), fur ≤ L.length → (rdC L idx st f k fur F Z).2.1 ≤ L.length
  | 0, _, fur, F, Z, h => h
  | f + 1, k, fur, F, Z, h => by
    unfold rdC
    split
    · exact rdF_le L idx _ _ _ _ _ hs
    · exact rdC_le L idx hs f _ _ _ _ (Nat.max_le.mpr ⟨h, rdF_le L idx _ _ _ _ _ hs⟩)
theorem rdC_k (L : List Nat) (idx st : Nat) : ∀ (f k fur : Nat) (F Z : Nat → Int32), (rdC L idx st f k fur F Z).1 ≤ k + f
  | 0, _, fur, F, Z => Nat.zero_le _
  | f + 1, k, fur, F, Z => by
    unfold rdC
    split
    · show k + 1 ≤ k + (f + 1); omega
    · have := rdC_k L idx st f (k + 1) (max fur (rdF L idx (kLs k) st 0 F Z).2.1) (rdF L idx (kLs k) st 0 F Z).2.2.1 (rdF L idx (kLs k) st 0 F Z).2.2.2
      omega
/-- the whole text from the command idx on: the error's place, one up (0: none); position, commands, kinds, firsts, seconds -/
def rdT (L : List Nat) : Nat → Nat → Nat → Nat → (Nat → Int32) → (Nat → Int32) → (Nat → Int32) → Nat × Nat × Nat × (Nat → Int32) × (Nat → Int32) × (Nat → Int32)
  | 0, _, p, cm, K, F, Z => (p + 1, p, cm, K, F, Z)
  | f + 1, idx, p, cm, K, F, Z =>
    if 0 < idx ∧ ¬ (p < L.length ∧ L.getD p 0 = 59) then (p + 1, p, cm, K, F, Z)
    else
      let q := if 0 < idx then p + 1 else p
      let r := rdC L idx q 12 0 q F Z
      if r.1 = 0 then (r.2.1 + 1, r.2.1, cm, K, r.2.2.1, r.2.2.2)
      else if r.2.1 = L.length then (0, r.2.1, cm + 1, upd K idx (nI (r.1 - 1)), r.2.2.1, r.2.2.2)
      else rdT L f (idx + 1) r.2.1 (cm + 1) (upd K idx (nI (r.1 - 1))) r.2.2.1 r.2.2.2
theorem kv_J4_charAt_5068e : kV yJ4_charAt_5068e cJ4_charAt_5068e 2 (some .char) 1 := ⟨mw_1317, mw_1318, mw_61, mw_1319, by decide, by decide, by decide +kernel⟩
theorem kv_J4_length_8abf5 : kV yJ4_length_8abf5 cJ4_length_8abf5 1 (some .int) 0 := ⟨mw_509, mw_1940, mw_61, mw_510, by decide, by decide, by decide +kernel⟩
theorem kv_X1_readDigit : kV yX1_readDigit cX1_readDigit 2 (some .int) 0 := ⟨mw_1408, mw_15, mw_59, mw_1409, by decide, by decide, by decide +kernel⟩
set_option maxHeartbeats 4000000 in
set_option maxRecDepth 100000 in
/-- skip(c) -/
theorem met_X1_skip (l : Launch) (V : kEnv) (S : kCs) (p cm : Nat) (K F Z : Nat → Int32) (L : List Nat) (hR : sbR (S.2.2.2 1) L) (hp : p ≤ L.length) (hL : L.length ≤ 60) (c0 : Nat) (hc0 : c0 < 65536) : kI l yX1_skip cX1_skip 2 (some .boolean) { frames := 4, cells := 0, slots := 0, locals := 88 } V (cWs V) [.ref (eX V 99), .int (nI (c0))] (xW S p cm K F Z) (fun r u => (p < L.length ∧ L.getD p 0 = c0 ∧ r = nI 1 ∧ u = xW S (p + 1) cm K F Z) ∨ (¬ (p < L.length ∧ L.getD p 0 = c0) ∧ r = nI 0 ∧ u = xW S p cm K F Z)) 0 0 := by
  refine kI_of (by decide +kernel) (Nat.le_of_ble_eq_true rfl) ?_
  intro pg e s m args below meth c G hret hlocks hC hB h ls hl Q hQ
  have hl : lv_has ls 2 [(0, .ref (eX V 99)), (1, .int (nI (c0)))] := hl
  have hx := G.1
  have hcd := G.2.1
  have hc1 : p < L.length → L.getD p 0 < 128 := fun z => (hR.2.2.2.1 p z).1
  refine lv_aload_n hx hcd dX1_skip_0 rfl (lv_at hl 0 rfl) ?_
  refine va_get (D := eD V) (ci := 5) (v := .int (nI (p))) (C := RX1) (T := TX1) (N := 6) hx hcd G.2.2.2.2 iwX1 G.2.2.2.1 hC.1 h.1 (96 + 3) (cF_at V _ (i := 3) (by decide)) rfl 5 (by decide) (G.2.2.2.2 _ mw_226) (fun y h9 => h9) rfl dX1_skip_1 ?_
  refine lv_if_lt (tgt := 36) hx hcd dX1_skip_4 (by decide) (fun c_1 => ?_) (fun c_1 => ?_)
  · have c_1 := cLt (tN (n := p) (by omega)) t0 c_1
    exact absurd c_1 (by omega)
  · have c_1 := cNlt (tN (n := p) (by omega)) t0 c_1
    refine lv_aload_n hx hcd dX1_skip_7 rfl (lv_at hl 0 rfl) ?_
    refine va_get (D := eD V) (ci := 5) (v := .int (nI (p))) (C := RX1) (T := TX1) (N := 6) hx hcd G.2.2.2.2 iwX1 G.2.2.2.1 hC.1 h.1 (96 + 3) (cF_at V _ (i := 3) (by decide)) rfl 5 (by decide) (G.2.2.2.2 _ mw_226) (fun y h9 => h9) rfl dX1_skip_8 ?_
    refine lv_aload_n hx hcd dX1_skip_11 rfl (lv_at hl 0 rfl) ?_
    refine va_get (D := eD V) (ci := 5) (v := .ref (eX V (104 + 1))) (C := RX1) (T := TX1) (N := 6) hx hcd G.2.2.2.2 iwX1 G.2.2.2.1 hC.1 h.1 (96 + 3) (cF_at V _ (i := 3) (by decide)) rfl 4 (by decide) (G.2.2.2.2 _ mw_225) (fun y h9 => h9) rfl dX1_skip_12 ?_
    refine k_Vi (As := []) (rest := [.int (nI (p))]) (b := eX V (104 + 1)) G hC hB h (met_J4_length_8abf5 l V (xW S p cm K F Z) 1 (by decide)) mw_1337 kv_J4_length_8abf5 ⟨rfl, rfl⟩ ⟨Nat.le_of_ble_eq_true rfl, Nat.le_of_ble_eq_true rfl⟩ (r_uV hC h 1 (by decide)) rfl rfl hl.1 (Nat.le_of_ble_eq_true rfl) dX1_skip_15 ⟨Nat.le_of_ble_eq_true rfl, Nat.le_of_ble_eq_true rfl⟩ (fun r u H locs hp h => ?_)
    obtain ⟨hr, hu⟩ := hp; obtain rfl : r = nI L.length := hr.trans (congrArg nI hR.1)
    rw [hu] at h
    refine lv_icmp_ge (tgt := 36) hx hcd dX1_skip_18 (by decide) (fun c_2 => ?_) (fun c_2 => ?_)
    · have c_2 := cLe (tN (n := L.length) (by omega)) (tN (n := p) (by omega)) c_2
      refine lv_iconst (v := nI 0) hx hcd dX1_skip_36 (by decide) ?_
      exact k_retz hQ G hret hlocks h (Or.inl rfl) (Or.inr ⟨by omega, rfl, rfl⟩) (Nat.le_of_ble_eq_true rfl) (Nat.le_of_ble_eq_true rfl) dX1_skip_37
    · have c_2 := cNle (tN (n := L.length) (by omega)) (tN (n := p) (by omega)) c_2
      have hc2 := hc1 (by omega)
      refine lv_aload_n hx hcd dX1_skip_21 rfl (lv_at hl 0 rfl) ?_
      refine va_get (D := eD V) (ci := 5) (v := .ref (eX V (104 + 1))) (C := RX1) (T := TX1) (N := 6) hx hcd G.2.2.2.2 iwX1 G.2.2.2.1 hC.1 h.1 (96 + 3) (cF_at V _ (i := 3) (by decide)) rfl 4 (by decide) (G.2.2.2.2 _ mw_225) (fun y h9 => h9) rfl dX1_skip_22 ?_
      refine lv_aload_n hx hcd dX1_skip_25 rfl (lv_at hl 0 rfl) ?_
      refine va_get (D := eD V) (ci := 5) (v := .int (nI (p))) (C := RX1) (T := TX1) (N := 6) hx hcd G.2.2.2.2 iwX1 G.2.2.2.1 hC.1 h.1 (96 + 3) (cF_at V _ (i := 3) (by decide)) rfl 5 (by decide) (G.2.2.2.2 _ mw_226) (fun y h9 => h9) rfl dX1_skip_26 ?_
      have h := cH_u 1 h
      refine k_Vi (As := [.int (nI (p))]) (rest := []) (b := eX V (104 + 1)) G hC hB h (met_J4_charAt_5068e l V (xW S p cm K F Z) 1 (by decide) ((xW S p cm K F Z).2.2.2 1) L hR p (by omega)) mw_1362 kv_J4_charAt_5068e ⟨rfl, rfl⟩ ⟨Nat.le_of_ble_eq_true rfl, Nat.le_of_ble_eq_true rfl⟩ (r_uV hC h 1 (by decide)) rfl rfl hl.1 (Nat.le_of_ble_eq_true rfl) dX1_skip_29 ⟨Nat.le_of_ble_eq_true rfl, Nat.le_of_ble_eq_true rfl⟩ (fun r u H locs hp h => ?_)
      obtain ⟨rfl, hu⟩ := hp; rw [hu, uPut_self] at h
      refine lv_iload_n hx hcd dX1_skip_32 rfl (lv_at hl 1 rfl) ?_
      refine lv_icmp_eq (tgt := 38) hx hcd dX1_skip_33 (by decide) (fun c_3 => ?_) (fun c_3 => ?_)
      · have c_3 := cEq (tN (n := L.getD p 0) (by omega)) (tN (n := c0) (by omega)) c_3
        refine lv_aload_n hx hcd dX1_skip_38 rfl (lv_at hl 0 rfl) ?_
        refine lv_dup hx hcd dX1_skip_39 rfl ?_
        refine va_get (D := eD V) (ci := 5) (v := .int (nI (p))) (C := RX1) (T := TX1) (N := 6) hx hcd G.2.2.2.2 iwX1 G.2.2.2.1 hC.1 h.1 (96 + 3) (cF_at V _ (i := 3) (by decide)) rfl 5 (by decide) (G.2.2.2.2 _ mw_226) (fun y h9 => h9) rfl dX1_skip_40 ?_
        refine lv_iconst (v := nI 1) hx hcd dX1_skip_43 (by decide) ?_
        refine w_iadd (v := nI (p + 1)) hx hcd dX1_skip_44 (nI_add _ _) ?_
        refine r_tP G hC h 6 (by decide) mw_226 (xW_p _ _ _ _ _ _ _) dX1_skip_45 (fun H locs h => ?_)
        refine lv_iconst (v := nI 1) hx hcd dX1_skip_48 (by decide) ?_
        exact k_retz hQ G hret hlocks h (Or.inr rfl) (Or.inl ⟨by omega, by omega, rfl, rfl⟩) (Nat.le_of_ble_eq_true rfl) (Nat.le_of_ble_eq_true rfl) dX1_skip_49
      · have c_3 := cNe (tN (n := L.getD p 0) (by omega)) (tN (n := c0) (by omega)) c_3
        refine lv_iconst (v := nI 0) hx hcd dX1_skip_36 (by decide) ?_
        exact k_retz hQ G hret hlocks h (Or.inl rfl) (Or.inr ⟨by omega, rfl, rfl⟩) (Nat.le_of_ble_eq_true rfl) (Nat.le_of_ble_eq_true rfl) dX1_skip_37
set_option maxHeartbeats 4000000 in
set_option maxRecDepth 100000 in
/-- readDigit() -/
theorem met_X1_readDigit (l : Launch) (V : kEnv) (S : kCs) (p cm : Nat) (K F Z : Nat → Int32) (L : List Nat) (hR : sbR (S.2.2.2 1) L) (hp : p ≤ L.length) (hL : L.length ≤ 60) : kI l yX1_readDigit cX1_readDigit 2 (some .int) { frames := 4, cells := 0, slots := 0, locals := 88 } V (cWs V) [.ref (eX V 99)] (xW S p cm K F Z) (fun r u => r = nI (tDg L p) - 1 ∧ u = xW S (tDp L p) cm K F Z) 0 0 := by
  refine kI_of (by decide +kernel) (Nat.le_of_ble_eq_true rfl) ?_
  intro pg e s m args below meth c G hret hlocks hC hB h ls hl Q hQ
  have hl : lv_has ls 2 [(0, .ref (eX V 99))] := hl
  have hx := G.1
  have hcd := G.2.1
  have hc1 : p < L.length → L.getD p 0 < 128 := fun z => (hR.2.2.2.1 p z).1
  refine lv_aload_n hx hcd dX1_readDigit_0 rfl (lv_at hl 0 rfl) ?_
  refine va_get (D := eD V) (ci := 5) (v := .int (nI (p))) (C := RX1) (T := TX1) (N := 6) hx hcd G.2.2.2.2 iwX1 G.2.2.2.1 hC.1 h.1 (96 + 3) (cF_at V _ (i := 3) (by decide)) rfl 5 (by decide) (G.2.2.2.2 _ mw_226) (fun y h9 => h9) rfl dX1_readDigit_1 ?_
  refine lv_if_lt (tgt := 21) hx hcd dX1_readDigit_4 (by decide) (fun c_1 => ?_) (fun c_1 => ?_)
  · have c_1 := cLt (tN (n := p) (by omega)) t0 c_1
    exact absurd c_1 (by omega)
  · have c_1 := cNlt (tN (n := p) (by omega)) t0 c_1
    refine lv_aload_n hx hcd dX1_readDigit_7 rfl (lv_at hl 0 rfl) ?_
    refine va_get (D := eD V) (ci := 5) (v := .int (nI (p))) (C := RX1) (T := TX1) (N := 6) hx hcd G.2.2.2.2 iwX1 G.2.2.2.1 hC.1 h.1 (96 + 3) (cF_at V _ (i := 3) (by decide)) rfl 5 (by decide) (G.2.2.2.2 _ mw_226) (fun y h9 => h9) rfl dX1_readDigit_8 ?_
    refine lv_aload_n hx hcd dX1_readDigit_11 rfl (lv_at hl 0 rfl) ?_
    refine va_get (D := eD V) (ci := 5) (v := .ref (eX V (104 + 1))) (C := RX1) (T := TX1) (N := 6) hx hcd G.2.2.2.2 iwX1 G.2.2.2.1 hC.1 h.1 (96 + 3) (cF_at V _ (i := 3) (by decide)) rfl 4 (by decide) (G.2.2.2.2 _ mw_225) (fun y h9 => h9) rfl dX1_readDigit_12 ?_
    refine k_Vi (As := []) (rest := [.int (nI (p))]) (b := eX V (104 + 1)) G hC hB h (met_J4_length_8abf5 l V (xW S p cm K F Z) 1 (by decide)) mw_1337 kv_J4_length_8abf5 ⟨rfl, rfl⟩ ⟨Nat.le_of_ble_eq_true rfl, Nat.le_of_ble_eq_true rfl⟩ (r_uV hC h 1 (by decide)) rfl rfl hl.1 (Nat.le_of_ble_eq_true rfl) dX1_readDigit_15 ⟨Nat.le_of_ble_eq_true rfl, Nat.le_of_ble_eq_true rfl⟩ (fun r u H locs hp h => ?_)
    obtain ⟨hr, hu⟩ := hp; obtain rfl : r = nI L.length := hr.trans (congrArg nI hR.1)
    rw [hu] at h
    refine lv_icmp_lt (tgt := 23) hx hcd dX1_readDigit_18 (by decide) (fun c_2 => ?_) (fun c_2 => ?_)
    · have c_2 := cLt (tN (n := p) (by omega)) (tN (n := L.length) (by omega)) c_2
      have hc2 := hc1 (by omega)
      refine lv_aload_n hx hcd dX1_readDigit_23 rfl (lv_at hl 0 rfl) ?_
      refine va_get (D := eD V) (ci := 5) (v := .ref (eX V (104 + 1))) (C := RX1) (T := TX1) (N := 6) hx hcd G.2.2.2.2 iwX1 G.2.2.2.1 hC.1 h.1 (96 + 3) (cF_at V _ (i := 3) (by decide)) rfl 4 (by decide) (G.2.2.2.2 _ mw_225) (fun y h9 => h9) rfl dX1_readDigit_24 ?_
      refine lv_aload_n hx hcd dX1_readDigit_27 rfl (lv_at hl 0 rfl) ?_
      refine va_get (D := eD V) (ci := 5) (v := .int (nI (p))) (C := RX1) (T := TX1) (N := 6) hx hcd G.2.2.2.2 iwX1 G.2.2.2.1 hC.1 h.1 (96 + 3) (cF_at V _ (i := 3) (by decide)) rfl 5 (by decide) (G.2.2.2.2 _ mw_226) (fun y h9 => h9) rfl dX1_readDigit_28 ?_
      have h := cH_u 1 h
      refine k_Vi (As := [.int (nI (p))]) (rest := []) (b := eX V (104 + 1)) G hC hB h (met_J4_charAt_5068e l V (xW S p cm K F Z) 1 (by decide) ((xW S p cm K F Z).2.2.2 1) L hR p (by omega)) mw_1362 kv_J4_charAt_5068e ⟨rfl, rfl⟩ ⟨Nat.le_of_ble_eq_true rfl, Nat.le_of_ble_eq_true rfl⟩ (r_uV hC h 1 (by decide)) rfl rfl hl.1 (Nat.le_of_ble_eq_true rfl) dX1_readDigit_31 ⟨Nat.le_of_ble_eq_true rfl, Nat.le_of_ble_eq_true rfl⟩ (fun r u H locs hp h => ?_)
      obtain ⟨rfl, hu⟩ := hp; rw [hu, uPut_self] at h
      refine lv_istore_n (lv' := [(1, .int (nI (L.getD p 0))), (0, .ref (eX V 99))]) hx hcd dX1_readDigit_34 rfl hl (by decide) rfl (fun ls hl => ?_)
      refine lv_iload_n hx hcd dX1_readDigit_35 rfl (lv_at hl 0 rfl) ?_
      refine lv_bipush (v := nI 48) hx hcd dX1_readDigit_36 (by decide) ?_
      refine lv_icmp_lt (tgt := 47) hx hcd dX1_readDigit_38 (by decide) (fun c_3 => ?_) (fun c_3 => ?_)
      · have c_3 := cLt (tN (n := L.getD p 0) (by omega)) (tN (n := 48) (by decide)) c_3
        refine lv_iconst (v := -1) hx hcd dX1_readDigit_47 (by decide) ?_
        exact k_reti hQ G hret hlocks h (⟨by rw [show tDg L p = 0 from if_neg (by omega)]; decide, by rw [show tDp L p = p from if_pos (if_neg (by omega))]⟩) (Nat.le_of_ble_eq_true rfl) (Nat.le_of_ble_eq_true rfl) dX1_readDigit_48
      · have c_3 := cNlt (tN (n := L.getD p 0) (by omega)) (tN (n := 48) (by decide)) c_3
        refine lv_iload_n hx hcd dX1_readDigit_41 rfl (lv_at hl 0 rfl) ?_
        refine lv_bipush (v := nI 57) hx hcd dX1_readDigit_42 (by decide) ?_
        refine lv_icmp_le (tgt := 49) hx hcd dX1_readDigit_44 (by decide) (fun c_4 => ?_) (fun c_4 => ?_)
        · have c_4 := cLe (tN (n := L.getD p 0) (by omega)) (tN (n := 57) (by decide)) c_4
          refine lv_aload_n hx hcd dX1_readDigit_49 rfl (lv_at hl 1 rfl) ?_
          refine lv_dup hx hcd dX1_readDigit_50 rfl ?_
          refine va_get (D := eD V) (ci := 5) (v := .int (nI (p))) (C := RX1) (T := TX1) (N := 6) hx hcd G.2.2.2.2 iwX1 G.2.2.2.1 hC.1 h.1 (96 + 3) (cF_at V _ (i := 3) (by decide)) rfl 5 (by decide) (G.2.2.2.2 _ mw_226) (fun y h9 => h9) rfl dX1_readDigit_51 ?_
          refine lv_iconst (v := nI 1) hx hcd dX1_readDigit_54 (by decide) ?_
          refine w_iadd (v := nI (p + 1)) hx hcd dX1_readDigit_55 (nI_add _ _) ?_
          refine r_tP G hC h 6 (by decide) mw_226 (xW_p _ _ _ _ _ _ _) dX1_readDigit_56 (fun H locs h => ?_)
          refine lv_iload_n hx hcd dX1_readDigit_59 rfl (lv_at hl 0 rfl) ?_
          refine lv_bipush (v := nI 48) hx hcd dX1_readDigit_60 (by decide) ?_
          refine w_isub (v := nI ((L.getD p 0) - 48)) hx hcd dX1_readDigit_62 (pk_sub (by omega)) ?_
          exact k_reti hQ G hret hlocks h (⟨by rw [show tDg L p = L.getD p 0 - 48 + 1 from if_pos ⟨by omega, by omega, by omega⟩]; exact aOf.symm, by rw [show tDp L p = p + 1 from if_neg (by rw [show tDg L p = L.getD p 0 - 48 + 1 from if_pos ⟨by omega, by omega, by omega⟩]; exact Nat.succ_ne_zero _)]⟩) (Nat.le_of_ble_eq_true rfl) (Nat.le_of_ble_eq_true rfl) dX1_readDigit_63
        · have c_4 := cNle (tN (n := L.getD p 0) (by omega)) (tN (n := 57) (by decide)) c_4
          refine lv_iconst (v := -1) hx hcd dX1_readDigit_47 (by decide) ?_
          exact k_reti hQ G hret hlocks h (⟨by rw [show tDg L p = 0 from if_neg (by omega)]; decide, by rw [show tDp L p = p from if_pos (if_neg (by omega))]⟩) (Nat.le_of_ble_eq_true rfl) (Nat.le_of_ble_eq_true rfl) dX1_readDigit_48
    · have c_2 := cNlt (tN (n := p) (by omega)) (tN (n := L.length) (by omega)) c_2
      refine lv_iconst (v := -1) hx hcd dX1_readDigit_21 (by decide) ?_
      exact k_reti hQ G hret hlocks h (⟨by rw [show tDg L p = 0 from if_neg (by omega)]; decide, by rw [show tDp L p = p from if_pos (if_neg (by omega))]⟩) (Nat.le_of_ble_eq_true rfl) (Nat.le_of_ble_eq_true rfl) dX1_readDigit_22
set_option maxHeartbeats 4000000 in
set_option maxRecDepth 100000 in
/-- readNumber(b) -/
theorem met_X1_readNumber (l : Launch) (V : kEnv) (S : kCs) (p cm : Nat) (K F Z : Nat → Int32) (L : List Nat) (hR : sbR (S.2.2.2 1) L) (hp : p ≤ L.length) (hL : L.length ≤ 60) (b0 : Bool) : kI l yX1_readNumber cX1_readNumber 4 (some .int) { frames := 5, cells := 0, slots := 0, locals := 109 } V (cWs V) [.ref (eX V 99), .int (bz (b0))] (xW S p cm K F Z) (fun r u => r = nI (tNm L b0 p) - 1 ∧ u = xW S (tNp L b0 p) cm K F Z) 0 0 := by
  refine kI_of (by decide +kernel) (Nat.le_of_ble_eq_true rfl) ?_
  intro pg e s m args below meth c G hret hlocks hC hB h ls hl Q hQ
  have hl : lv_has ls 4 [(0, .ref (eX V 99)), (1, .int (bz (b0)))] := hl
  have hx := G.1
  have hcd := G.2.1
  refine lv_aload_n hx hcd dX1_readNumber_0 rfl (lv_at hl 0 rfl) ?_
  refine k_Vi (As := []) (rest := []) (b := eX V 99) G hC hB h (met_X1_readDigit l V S p cm K F Z L hR (by omega) hL) mw_1406 kv_X1_readDigit ⟨rfl, rfl⟩ ⟨Nat.le_of_ble_eq_true rfl, Nat.le_of_ble_eq_true rfl⟩ (r_tV hC h) rfl rfl hl.1 (Nat.le_of_ble_eq_true rfl) dX1_readNumber_1 ⟨Nat.le_of_ble_eq_true rfl, Nat.le_of_ble_eq_true rfl⟩ (fun r u H locs hp h => ?_)
  obtain ⟨rfl, rfl⟩ := hp
  have q_1 := tDg_le L p
  refine lv_istore_n (lv' := [(2, .int (nI (tDg L p) - 1)), (0, .ref (eX V 99)), (1, .int (bz (b0)))]) hx hcd dX1_readNumber_4 rfl hl (by decide) rfl (fun ls hl => ?_)
  refine lv_iload_n hx hcd dX1_readNumber_5 rfl (lv_at hl 0 rfl) ?_
  refine lv_iconst (v := -1) hx hcd dX1_readNumber_6 (by decide) ?_
  refine lv_icmp_eq (tgt := 14) hx hcd dX1_readNumber_7 (by decide) (fun c_2 => ?_) (fun c_2 => ?_)
  · have c_2 := cEq (tA (n := tDg L p) (by omega)) tm1 c_2
    refine lv_iload_n hx hcd dX1_readNumber_14 rfl (lv_at hl 0 rfl) ?_
    exact k_reti hQ G hret hlocks h (⟨by unfold tNm; first | (rw [if_pos (by omega)]; rw [show tDg L p = 0 by omega]; done) | (rw [if_neg (by omega), if_pos (Or.inl (by assumption))]; done) | (rw [if_neg (by omega), if_pos (Or.inr (by omega))]; done), by unfold tNp tDp; first | (rw [if_pos (by omega), if_pos (by omega)]; done) | (rw [if_neg (by omega), if_neg (by omega), if_pos (Or.inl (by assumption))]; done) | (rw [if_pos (show tDg L (p + 1) = 0 by omega), if_neg (show ¬ tDg L p = 0 by omega), if_pos (Or.inr (by omega))]; done)⟩) (Nat.le_of_ble_eq_true rfl) (Nat.le_of_ble_eq_true rfl) dX1_readNumber_15
  · have c_2 := cNe (tA (n := tDg L p) (by omega)) tm1 c_2
    refine lv_iload_n hx hcd dX1_readNumber_10 rfl (lv_at hl 2 rfl) ?_
    refine lv_if_ne (tgt := 16) hx hcd dX1_readNumber_11 (by decide) (fun c_3 => ?_) (fun c_3 => ?_)
    · have c_3 := bz1 c_3
      have e1 : tDp L p = p + 1 := if_neg (by omega)
      have h1p := tDg_lt (L := L) (p := p) (by omega)
      rw [e1] at h
      refine lv_aload_n hx hcd dX1_readNumber_16 rfl (lv_at hl 1 rfl) ?_
      refine k_Vi (As := []) (rest := []) (b := eX V 99) G hC hB h (met_X1_readDigit l V S (p + 1) cm K F Z L hR (by omega) hL) mw_1406 kv_X1_readDigit ⟨rfl, rfl⟩ ⟨Nat.le_of_ble_eq_true rfl, Nat.le_of_ble_eq_true rfl⟩ (r_tV hC h) rfl rfl hl.1 (Nat.le_of_ble_eq_true rfl) dX1_readNumber_17 ⟨Nat.le_of_ble_eq_true rfl, Nat.le_of_ble_eq_true rfl⟩ (fun r u H locs hp h => ?_)
      obtain ⟨rfl, rfl⟩ := hp
      have q_4 := tDg_le L (p + 1)
      refine lv_istore_n (lv' := [(3, .int (nI (tDg L (p + 1)) - 1)), (2, .int (nI (tDg L p) - 1)), (0, .ref (eX V 99)), (1, .int (bz (b0)))]) hx hcd dX1_readNumber_20 rfl hl (by decide) rfl (fun ls hl => ?_)
      refine lv_iload_n hx hcd dX1_readNumber_21 rfl (lv_at hl 0 rfl) ?_
      refine lv_iconst (v := -1) hx hcd dX1_readNumber_22 (by decide) ?_
      refine lv_icmp_ne (tgt := 30) hx hcd dX1_readNumber_23 (by decide) (fun c_5 => ?_) (fun c_5 => ?_)
      · have c_5 := cNe (tA (n := tDg L (p + 1)) (by omega)) tm1 c_5
        refine lv_iload_n hx hcd dX1_readNumber_30 rfl (lv_at hl 1 rfl) ?_
        refine lv_bipush (v := nI 10) hx hcd dX1_readNumber_31 (by decide) ?_
        refine w_imul (v := nI ((tDg L p - 1) * 10)) hx hcd dX1_readNumber_33 (by rw [show nI (tDg L p) - 1 = nI (tDg L p - 1) from pk_sub (b := 1) (by omega)]; exact pk_mul _ _) ?_
        refine lv_iload_n hx hcd dX1_readNumber_34 rfl (lv_at hl 0 rfl) ?_
        refine w_iadd (v := nI ((tDg L p - 1) * 10 + (tDg L (p + 1) - 1))) hx hcd dX1_readNumber_35 (by rw [show nI (tDg L (p + 1)) - 1 = nI (tDg L (p + 1) - 1) from pk_sub (b := 1) (by omega)]; exact nI_add _ _) ?_
        exact k_reti hQ G hret hlocks h (⟨by unfold tNm; rw [if_neg (by omega), if_neg (fun z => z.elim (fun z => by simp_all) (fun z => by omega))]; exact aOf.symm, by unfold tNp tDp; rw [if_neg (show ¬ tDg L (p + 1) = 0 by omega), if_neg (show ¬ tDg L p = 0 by omega), if_neg (fun z => z.elim (fun z => by simp_all) (fun z => by omega))]⟩) (Nat.le_of_ble_eq_true rfl) (Nat.le_of_ble_eq_true rfl) dX1_readNumber_36
      · have c_5 := cEq (tA (n := tDg L (p + 1)) (by omega)) tm1 c_5
        refine lv_iload_n hx hcd dX1_readNumber_26 rfl (lv_at hl 1 rfl) ?_
        refine lv_goto (tgt := 36) hx hcd dX1_readNumber_27 (by decide) ?_
        exact k_reti hQ G hret hlocks h (⟨by unfold tNm; first | (rw [if_pos (by omega)]; rw [show tDg L p = 0 by omega]; done) | (rw [if_neg (by omega), if_pos (Or.inl (by assumption))]; done) | (rw [if_neg (by omega), if_pos (Or.inr (by omega))]; done), by unfold tNp tDp; first | (rw [if_pos (by omega), if_pos (by omega)]; done) | (rw [if_neg (by omega), if_neg (by omega), if_pos (Or.inl (by assumption))]; done) | (rw [if_pos (show tDg L (p + 1) = 0 by omega), if_neg (show ¬ tDg L p = 0 by omega), if_pos (Or.inr (by omega))]; done)⟩) (Nat.le_of_ble_eq_true rfl) (Nat.le_of_ble_eq_true rfl) dX1_readNumber_36
    · have c_3 := bz0 c_3
      refine lv_iload_n hx hcd dX1_readNumber_14 rfl (lv_at hl 0 rfl) ?_
      exact k_reti hQ G hret hlocks h (⟨by unfold tNm; first | (rw [if_pos (by omega)]; rw [show tDg L p = 0 by omega]; done) | (rw [if_neg (by omega), if_pos (Or.inl (by assumption))]; done) | (rw [if_neg (by omega), if_pos (Or.inr (by omega))]; done), by unfold tNp tDp; first | (rw [if_pos (by omega), if_pos (by omega)]; done) | (rw [if_neg (by omega), if_neg (by omega), if_pos (Or.inl (by assumption))]; done) | (rw [if_pos (show tDg L (p + 1) = 0 by omega), if_neg (show ¬ tDg L p = 0 by omega), if_pos (Or.inr (by omega))]; done)⟩) (Nat.le_of_ble_eq_true rfl) (Nat.le_of_ble_eq_true rfl) dX1_readNumber_15
