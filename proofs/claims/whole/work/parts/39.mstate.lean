/-! THE STATE OF THE REFERENCE. Numbers: 0 isSaved, 1 changes, 2 isWithin, 3 code, 4 length, 5 error, 6 failed, 7 signMany, 8 at, 9 toldMany. Arrays: 0 g, 1 kept, 2 saved, 3 before, 4 input, 5 signs (chars), 6 chains, 7 needed, 8 told. Cells 500 (itself), 501 .. 509 (arrays). -/
abbrev kMs : Type := (Nat → Int32) × (Nat → Nat → Int32)
def mLen : Nat → Nat
  | 0 => 115
  | 1 => 920
  | 2 => 115
  | 3 => 115
  | 4 => 60
  | 5 => 60
  | 6 => 16
  | 7 => 16
  | _ => 124
/-- the field of a number, of an array -/
def mNf : Nat → Nat
  | 0 => 4
  | 1 => 5
  | 2 => 6
  | 3 => 7
  | 4 => 9
  | 5 => 10
  | 6 => 11
  | 7 => 13
  | 8 => 16
  | _ => 18
def mAf : Nat → Nat
  | 0 => 0
  | 1 => 1
  | 2 => 2
  | 3 => 3
  | 4 => 8
  | 5 => 12
  | 6 => 14
  | 7 => 15
  | _ => 17
def mFl (V : kEnv) (n : Nat → Int32) : List Value := [.ref (eX V (501 + 0)), .ref (eX V (501 + 1)), .ref (eX V (501 + 2)), .ref (eX V (501 + 3)), .int (n 0), .int (n 1), .int (n 2), .int (n 3), .ref (eX V (501 + 4)), .int (n 4), .int (n 5), .int (n 6), .ref (eX V (501 + 5)), .int (n 7), .ref (eX V (501 + 6)), .ref (eX V (501 + 7)), .int (n 8), .ref (eX V (501 + 8)), .int (n 9)]
def mTy (q : Nat) : Nat := if q = 5 then 3 else 0
def mCel (V : kEnv) (M : kMs) : Nat → va_E
  | 0 => .inr (8, mFl V M.1)
  | q + 1 => .inl (eC V (mTy q), mLen q, .inl (M.2 q))
def mWs (V : kEnv) (M : kMs) : va_W := (List.range 10).map (fun i => (eX V (500 + i), mCel V M i))
theorem mWs_at (V : kEnv) (M : kMs) {i : Nat} (h : i < 10) : (mWs V M)[i]? = some (eX V (500 + i), mCel V M i) := by
  simp [mWs, List.getElem?_map, List.getElem?_range h]
theorem mWs_set {V : kEnv} {M M' : kMs} {i : Nat} (h : i < 10) {e : va_E} (h2 : mCel V M' i = e) (h3 : ∀ j, j < 10 → j ≠ i → mCel V M' j = mCel V M j) : (mWs V M).set i (eX V (500 + i), e) = mWs V M' := by
  apply List.ext_getElem?
  intro j
  rw [List.getElem?_set]
  have hl : (mWs V M).length = 10 := by simp [mWs]
  have hl' : (mWs V M').length = 10 := by simp [mWs]
  by_cases hj : j < 10
  · rw [mWs_at V M' hj]
    by_cases hi : i = j
    · subst hi
      rw [if_pos rfl, if_pos (by rw [hl]; exact h), h2]
    · rw [if_neg hi, mWs_at V M hj, h3 j hj (fun e => hi e.symm)]
  · have e1 : (mWs V M')[j]? = none := List.getElem?_eq_none (by omega)
    have e2 : (mWs V M)[j]? = none := List.getElem?_eq_none (by omega)
    rw [e1, if_neg (by omega), e2]
def nPut (M : kMs) (f : Nat) (x : Int32) : kMs := (va_up M.1 f x, M.2)
def gPut (M : kMs) (q j : Nat) (x : Int32) : kMs := (M.1, va_up M.2 q (upd (M.2 q) j x))
theorem nPut_n (M : kMs) (f g : Nat) (x : Int32) : (nPut M f x).1 g = if g = f then x else M.1 g := rfl
theorem nPut_a (M : kMs) (f : Nat) (x : Int32) : (nPut M f x).2 = M.2 := rfl
theorem gPut_n (M : kMs) (q j : Nat) (x : Int32) : (gPut M q j x).1 = M.1 := rfl
theorem gPut_a (M : kMs) (q j r : Nat) (x : Int32) : (gPut M q j x).2 r = if r = q then upd (M.2 q) j x else M.2 r := rfl
section MR
variable {p : Program} {l : Launch} {e : Env} {R : Room} {s : State} {m : MethodId} {args : Array Value} {below : List Frame} {meth : Method} {c : Code} {H : Heap} {locs : List Loc} {cells slots : Nat} {Q : State → Prop}
variable {cc : ByteArray} {pc nL : Nat} {ls : Array Slot} {rest : List Value} {own : String} {V : kEnv} {M M' : kMs}
theorem f10 {P : Nat → Prop} (h0 : P 0) (h1 : P 1) (h2 : P 2) (h3 : P 3) (h4 : P 4) (h5 : P 5) (h6 : P 6) (h7 : P 7) (h8 : P 8) (h9 : P 9) : ∀ j, j < 10 → P j := by
  intro j hj
  match j, hj with
  | 0, _ => exact h0
  | 1, _ => exact h1
  | 2, _ => exact h2
  | 3, _ => exact h3
  | 4, _ => exact h4
  | 5, _ => exact h5
  | 6, _ => exact h6
  | 7, _ => exact h7
  | 8, _ => exact h8
  | 9, _ => exact h9
theorem f9 {P : Nat → Prop} (h0 : P 0) (h1 : P 1) (h2 : P 2) (h3 : P 3) (h4 : P 4) (h5 : P 5) (h6 : P 6) (h7 : P 7) (h8 : P 8) : ∀ j, j < 9 → P j := by
  intro j hj
  match j, hj with
  | 0, _ => exact h0
  | 1, _ => exact h1
  | 2, _ => exact h2
  | 3, _ => exact h3
  | 4, _ => exact h4
  | 5, _ => exact h5
  | 6, _ => exact h6
  | 7, _ => exact h7
  | 8, _ => exact h8
theorem mNf_c : ∀ f, f < 10 → (TX4 (mNf f)).1 = "SprintBoardModel" := f10 rfl rfl rfl rfl rfl rfl rfl rfl rfl rfl
theorem mAf_c : ∀ f, f < 9 → (TX4 (mAf f)).1 = "SprintBoardModel" := f9 rfl rfl rfl rfl rfl rfl rfl rfl rfl
theorem mNf_v (V : kEnv) (n : Nat → Int32) : ∀ f, f < 10 → (mFl V n)[mNf f]? = some (.int (n f)) := f10 rfl rfl rfl rfl rfl rfl rfl rfl rfl rfl
theorem mAf_v (V : kEnv) (n : Nat → Int32) : ∀ f, f < 9 → (mFl V n)[mAf f]? = some (.ref (eX V (501 + f))) := f9 rfl rfl rfl rfl rfl rfl rfl rfl rfl
theorem mNf_s (V : kEnv) (n : Nat → Int32) (x : Int32) : ∀ f, f < 10 → (mFl V n).set (mNf f) (.int x) = mFl V (va_up n f x) := f10 rfl rfl rfl rfl rfl rfl rfl rfl rfl rfl
theorem mNf_f : ∀ f, f < 10 → (TX4 (mNf f)).2.2.2 = false ∧ mNf f < 19 ∧ parseFieldDescriptor (TX4 (mNf f)).2.2.1 = some (if f = 0 ∨ f = 2 then .boolean else .int) := by decide +kernel
theorem mAf_lt : ∀ f, f < 9 → mAf f < 19 := by decide
/-- a number of the reference -/
theorem r_mN (G : CallFix p m c cc nL s args LW own) (hC : cSt V s) (h : cH V s H locs (mWs V M)) (f : Nat) (hf : f < 10) {index : Nat} (hl : Cond.fieldLink own index "SprintBoardModel" (TX4 (mNf f)).2.1 (TX4 (mNf f)).2.2.1 ∈ LW) {x : Int32} (hx : M.1 f = x) (hd : decode cc pc = .ok (.getfield index, 3))
    (k : W p l e R s m args below meth c H locs cells slots Q (F0 m (pc + 3) ls (.int x :: rest))) : W p l e R s m args below meth c H locs cells slots Q (F0 m pc ls (.ref (eX V 500) :: rest)) := by
  subst hx
  exact va_get (D := eD V) (ci := 8) (v := .int (M.1 f)) (C := RX4) (T := TX4) (N := 19) G.1 G.2.1 G.2.2.2.2 iwX4 G.2.2.2.1 hC.1 h.1 0 (mWs_at V M (i := 0) (by decide)) rfl (mNf f) (mNf_f f hf).2.1 (G.2.2.2.2 _ hl) (fun y h9 => by rw [mNf_c f hf] at h9; exact h9) (mNf_v V M.1 f hf) hd k
/-- an array of the reference -/
theorem r_mA (G : CallFix p m c cc nL s args LW own) (hC : cSt V s) (h : cH V s H locs (mWs V M)) (f : Nat) (hf : f < 9) {index : Nat} (hl : Cond.fieldLink own index "SprintBoardModel" (TX4 (mAf f)).2.1 (TX4 (mAf f)).2.2.1 ∈ LW) (hd : decode cc pc = .ok (.getfield index, 3))
    (k : W p l e R s m args below meth c H locs cells slots Q (F0 m (pc + 3) ls (.ref (eX V (501 + f)) :: rest))) : W p l e R s m args below meth c H locs cells slots Q (F0 m pc ls (.ref (eX V 500) :: rest)) :=
  va_get (D := eD V) (ci := 8) (v := .ref (eX V (501 + f))) (C := RX4) (T := TX4) (N := 19) G.1 G.2.1 G.2.2.2.2 iwX4 G.2.2.2.1 hC.1 h.1 0 (mWs_at V M (i := 0) (by decide)) rfl (mAf f) (mAf_lt f hf) (G.2.2.2.2 _ hl) (fun y h9 => by rw [mAf_c f hf] at h9; exact h9) (mAf_v V M.1 f hf) hd k
/-- a number written -/
theorem r_mP (G : CallFix p m c cc nL s args LW own) (hC : cSt V s) (h : cH V s H locs (mWs V M)) (f : Nat) (hf : f < 10) {index : Nat} (hl : Cond.fieldLink own index "SprintBoardModel" (TX4 (mNf f)).2.1 (TX4 (mNf f)).2.2.1 ∈ LW) {x : Int32} (hz : f = 0 ∨ f = 2 → x = 0 ∨ x = 1) (hM : nPut M f x = M') (hd : decode cc pc = .ok (.putfield index, 3))
    (k : ∀ (H : Heap) (locs : List Loc), cH V s H locs (mWs V M') → W p l e R s m args below meth c H locs cells slots Q (F0 m (pc + 3) ls rest)) : W p l e R s m args below meth c H locs cells slots Q (F0 m pc ls (.int x :: .ref (eX V 500) :: rest)) := by
  subst hM
  obtain ⟨hP, hD, hS⟩ := h
  obtain ⟨h1, h2, h3⟩ := mNf_f f hf
  have h4 : narrow (if f = 0 ∨ f = 2 then .boolean else .int) (.int x) = .int x ∧ fits (if f = 0 ∨ f = 2 then FieldType.boolean else .int) (.int x) = true := by
    by_cases h9 : f = 0 ∨ f = 2
    · rw [if_pos h9]
      rcases hz h9 with rfl | rfl
      · exact ⟨by decide +kernel, by decide +kernel⟩
      · exact ⟨by decide +kernel, by decide +kernel⟩
    · rw [if_neg h9]; exact ⟨rfl, rfl⟩
  refine va_put (D := eD V) (ci := 8) (v := .int x) (C := RX4) (T := TX4) (N := 19) G.1 G.2.1 G.2.2.2.2 iwX4 tyX4 tyX4_ok nmX4 G.2.2.2.1 hC.1 hP hD hS 0 (mWs_at V M (i := 0) (by decide)) rfl (mNf f) h2 (G.2.2.2.2 _ hl) (fun y h9 => by rw [mNf_c f hf] at h9; exact h9) h1 h3 h4.1 h4.2 h2 hd (fun H1 locs1 hP1 hD1 hS1 => k H1 locs1 ?_)
  have e : (mWs V M).set 0 (eX V (500 + 0), .inr (8, (mFl V M.1).set (mNf f) (.int x))) = mWs V (nPut M f x) :=
    mWs_set (V := V) (M := M) (M' := nPut M f x) (i := 0) (by decide) (by rw [mNf_s V M.1 x f hf]; rfl) (fun j hj hne => by
      match j, hne with
      | 0, h => exact absurd rfl h
      | j + 1, _ => rfl)
  rw [e] at hP1 hD1
  exact ⟨hP1, hD1, hS1⟩
theorem mTy_i {q : Nat} (h : q ≠ 5) : mTy q = 0 := if_neg h
theorem mArr_at (V : kEnv) (M : kMs) {q : Nat} (h : q < 9) : (mWs V M)[q + 1]? = some (eX V (501 + q), .inl (eC V (mTy q), mLen q, .inl (M.2 q))) := by
  rw [mWs_at V M (i := q + 1) (by omega), show 500 + (q + 1) = 501 + q by omega]
  rfl
theorem mArr_set (V : kEnv) (M : kMs) {q : Nat} (h : q < 9) (j : Nat) (x : Int32) : (mWs V M).set (q + 1) (eX V (501 + q), .inl (eC V (mTy q), mLen q, .inl (upd (M.2 q) j x))) = mWs V (gPut M q j x) := by
  have h9 := mWs_set (V := V) (M := M) (M' := gPut M q j x) (i := q + 1) (e := .inl (eC V (mTy q), mLen q, .inl (upd (M.2 q) j x))) (by omega)
    (by
      show Sum.inl (eC V (mTy q), mLen q, Sum.inl ((gPut M q j x).2 q)) = _
      rw [gPut_a, if_pos rfl])
    (fun d hd hne => by
      match d, hne with
      | 0, _ => rfl
      | d + 1, h8 =>
        show Sum.inl (eC V (mTy d), mLen d, Sum.inl ((gPut M q j x).2 d)) = Sum.inl (eC V (mTy d), mLen d, Sum.inl (M.2 d))
        rw [gPut_a, if_neg (fun e => h8 (by rw [e]))])
  rw [show 500 + (q + 1) = 501 + q by omega] at h9
  exact h9
theorem mLen_le (q : Nat) : mLen q ≤ 920 := by unfold mLen; split <;> decide
/-- an int array at place j -/
theorem r_mL (G : CallFix p m c cc nL s args LW own) (hC : cSt V s) (h : cH V s H locs (mWs V M)) (q j : Nat) (hq : q < 9) (h5 : q ≠ 5) {i : Int32} (hi : i = nI j) (hj : j < mLen q) {x : Int32} (hx : M.2 q j = x) (hd : decode cc pc = .ok (.iaload, 1))
    (k : W p l e R s m args below meth c H locs cells slots Q (F0 m (pc + 1) ls (.int x :: rest))) : W p l e R s m args below meth c H locs cells slots Q (F0 m pc ls (.int i :: .ref (eX V (501 + q)) :: rest)) := by
  subst hx
  have hn := mLen_le q
  have hat := mArr_at V M hq
  rw [mTy_i h5] at hat
  refine va_iald (D := eD V) (cl := vwCl) (tys := eT V) G.1 G.2.1 hC.1 h.1 (q + 1) 0 hat rfl (vp_in_ofNat hi hj (by omega)) hd ?_
  rw [cl_ofNat hi (by omega)]
  exact k
theorem r_mT (G : CallFix p m c cc nL s args LW own) (hC : cSt V s) (h : cH V s H locs (mWs V M)) (q j : Nat) (hq : q < 9) (h5 : q ≠ 5) {i : Int32} (hi : i = nI j) (hj : j < mLen q) {x : Int32} (hM : gPut M q j x = M') (hd : decode cc pc = .ok (.iastore, 1))
    (k : ∀ (H : Heap) (locs : List Loc), cH V s H locs (mWs V M') → W p l e R s m args below meth c H locs cells slots Q (F0 m (pc + 1) ls rest)) : W p l e R s m args below meth c H locs cells slots Q (F0 m pc ls (.int x :: .int i :: .ref (eX V (501 + q)) :: rest)) := by
  subst hM
  have hn := mLen_le q
  have hat := mArr_at V M hq
  rw [mTy_i h5] at hat
  obtain ⟨hP, hD, hS⟩ := h
  refine va_iast (D := eD V) (cl := vwCl) (tys := eT V) G.1 G.2.1 hC.1 hP hD hS (q + 1) 0 hat rfl (vp_in_ofNat hi hj (by omega)) hd (fun H1 locs1 hP1 hD1 hS1 => k H1 locs1 ?_)
  rw [cl_ofNat hi (by omega)] at hP1 hD1
  have e := mArr_set V M hq j x
  rw [mTy_i h5] at e
  rw [e] at hP1 hD1
  exact ⟨hP1, hD1, hS1⟩
theorem r_mLn (G : CallFix p m c cc nL s args LW own) (hC : cSt V s) (h : cH V s H locs (mWs V M)) (q : Nat) (hq : q < 9) (h5 : q ≠ 5) {x : Int32} (hx : nI (mLen q) = x) (hd : decode cc pc = .ok (.arraylength, 1))
    (k : W p l e R s m args below meth c H locs cells slots Q (F0 m (pc + 1) ls (.int x :: rest))) : W p l e R s m args below meth c H locs cells slots Q (F0 m pc ls (.ref (eX V (501 + q)) :: rest)) := by
  have hat := mArr_at V M hq
  rw [mTy_i h5] at hat
  exact va_alen (D := eD V) (cl := vwCl) (tys := eT V) G.1 G.2.1 hC.1 h.1 (q + 1) 0 hat rfl hx hd k
/-- the chars -/
theorem r_mCL (G : CallFix p m c cc nL s args LW own) (hC : cSt V s) (h : cH V s H locs (mWs V M)) (j : Nat) {i : Int32} (hi : i = nI j) (hj : j < 60) {x : Int32} (hx : M.2 5 j = x) (hd : decode cc pc = .ok (.caload, 1))
    (k : W p l e R s m args below meth c H locs cells slots Q (F0 m (pc + 1) ls (.int x :: rest))) : W p l e R s m args below meth c H locs cells slots Q (F0 m pc ls (.int i :: .ref (eX V (501 + 5)) :: rest)) := by
  subst hx
  refine va_cald (D := eD V) (cl := vwCl) (tys := eT V) G.1 G.2.1 hC.1 h.1 (5 + 1) 3 (mArr_at V M (q := 5) (by decide)) rfl (vp_in_ofNat (n := 60) hi hj (by decide)) hd ?_
  rw [cl_ofNat hi (by omega)]
  exact k
theorem r_mCT (G : CallFix p m c cc nL s args LW own) (hC : cSt V s) (h : cH V s H locs (mWs V M)) (j : Nat) {i : Int32} (hi : i = nI j) (hj : j < 60) {x : Int32} (v : Int32) (hv : vp_nar .char x = v) (hM : gPut M 5 j v = M') (hd : decode cc pc = .ok (.castore, 1))
    (k : ∀ (H : Heap) (locs : List Loc), cH V s H locs (mWs V M') → W p l e R s m args below meth c H locs cells slots Q (F0 m (pc + 1) ls rest)) : W p l e R s m args below meth c H locs cells slots Q (F0 m pc ls (.int x :: .int i :: .ref (eX V (501 + 5)) :: rest)) := by
  subst hM; subst hv
  obtain ⟨hP, hD, hS⟩ := h
  refine va_cast (D := eD V) (cl := vwCl) (tys := eT V) G.1 G.2.1 hC.1 hP hD hS (5 + 1) 3 (mArr_at V M (q := 5) (by decide)) rfl (vp_in_ofNat (n := 60) hi hj (by decide)) hd (fun H1 locs1 hP1 hD1 hS1 => k H1 locs1 ?_)
  rw [cl_ofNat hi (by omega)] at hP1 hD1
  have e := mArr_set V M (q := 5) (by decide) j (vp_nar .char x)
  rw [e] at hP1 hD1
  exact ⟨hP1, hD1, hS1⟩
theorem r_mV (hC : cSt V s) (h : cH V s H locs (mWs V M)) : ∃ cell : Cell, H[eX V 500]? = some cell ∧ cell.vm.isStatics = false ∧ s.vm.findClass RX4 = some cell.cls :=
  va_recv hC.1 h.1 (ci := 8) (q0 := 0) rfl (mWs_at V M (i := 0) (by decide))
end MR
