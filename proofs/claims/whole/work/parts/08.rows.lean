/-! ROWS over the class's world: an instruction that reads or writes one of its cells. -/
theorem iwX0 : ∀ w ∈ wsX00, w ∈ LW := by decide +kernel
theorem iwX1 : ∀ w ∈ wsX10, w ∈ LW := by decide +kernel
theorem iwX2 : ∀ w ∈ wsX20, w ∈ LW := by decide +kernel
theorem iwX3 : ∀ w ∈ wsX30, w ∈ LW := by decide +kernel
theorem iwX4 : ∀ w ∈ wsX40, w ∈ LW := by decide +kernel
theorem vp_in_ofNat {i : Int32} {j n : Nat} (e : i = nI j) (h : j < n) (hn : n < 2 ^ 31) : vp_in i n := by rw [e]; exact vp_in_nI h hn
theorem cl_ofNat {i : Int32} {j : Nat} (e : i = nI j) (h : j < 2 ^ 31) : i.toNatClampNeg = j := by rw [e]; exact nI_clamp h
/-- a board's number set; a place of one of its arrays set -/
def bPut (B : kBd) (f v : Nat) : kBd := (B.1, va_up B.2 f v)
def bSet (B : kBd) (f j v : Nat) : kBd := (va_up B.1 f (va_up (B.1 f) j v), B.2)
section CR
variable {p : Program} {l : Launch} {e : Env} {R : Room} {s : State} {m : MethodId} {args : Array Value} {below : List Frame} {meth : Method} {c : Code} {H : Heap} {locs : List Loc} {cells slots : Nat} {Q : State → Prop}
variable {cc : ByteArray} {pc nL : Nat} {ls : Array Slot} {rest : List Value} {own : String} {V : kEnv} {S : kCs}
/-- a number of board b -/
theorem r_bS (G : CallFix p m c cc nL s args LW own) (hC : cSt V s) (h : cH V s H locs (cWs V S)) (b f : Nat) (hb : b < 12) (hf : f < 8) {B : kBd} (hB : S.1 b = B) {index : Nat} (hl : Cond.fieldLink own index "SprintBoard$Board" (TX0 (7 + f)).2.1 (TX0 (7 + f)).2.2.1 ∈ LW) {x : Int32} (hx : nI (B.2 f) = x) (hd : decode cc pc = .ok (.getfield index, 3))
    (k : W p l e R s m args below meth c H locs cells slots Q (F0 m (pc + 3) ls (.int x :: rest))) : W p l e R s m args below meth c H locs cells slots Q (F0 m pc ls (.ref (eX V (8 * b)) :: rest)) := by
  refine va_get (D := eD V) (ci := 4) (v := .int x) (C := RX0) (T := TX0) (N := 15) G.1 G.2.1 G.2.2.2.2 iwX0 G.2.2.2.1 hC.1 h.1 (8 * b + 0) (cB_at V S hb (c := 0) (by omega)) rfl (7 + f) (by omega) (G.2.2.2.2 _ hl) (fun y h9 => ?_) ?_ hd k
  · have : (TX0 (7 + f)).1 = "SprintBoard$Board" := by
      match f, hf with
      | 0, _ => rfl
      | 1, _ => rfl
      | 2, _ => rfl
      | 3, _ => rfl
      | 4, _ => rfl
      | 5, _ => rfl
      | 6, _ => rfl
      | 7, _ => rfl
    rw [this] at h9
    exact h9
  · subst hB; subst hx
    match f, hf with
    | 0, _ => rfl
    | 1, _ => rfl
    | 2, _ => rfl
    | 3, _ => rfl
    | 4, _ => rfl
    | 5, _ => rfl
    | 6, _ => rfl
    | 7, _ => rfl
/-- an array of board b -/
theorem r_bA (G : CallFix p m c cc nL s args LW own) (hC : cSt V s) (h : cH V s H locs (cWs V S)) (b f : Nat) (hb : b < 12) (hf : f < 7) {index : Nat} (hl : Cond.fieldLink own index "SprintBoard$Board" (TX0 f).2.1 (TX0 f).2.2.1 ∈ LW) (hd : decode cc pc = .ok (.getfield index, 3))
    (k : W p l e R s m args below meth c H locs cells slots Q (F0 m (pc + 3) ls (.ref (eX V (8 * b + (f + 1))) :: rest))) : W p l e R s m args below meth c H locs cells slots Q (F0 m pc ls (.ref (eX V (8 * b)) :: rest)) := by
  refine va_get (D := eD V) (ci := 4) (v := .ref (eX V (8 * b + (f + 1)))) (C := RX0) (T := TX0) (N := 15) G.1 G.2.1 G.2.2.2.2 iwX0 G.2.2.2.1 hC.1 h.1 (8 * b + 0) (cB_at V S hb (c := 0) (by omega)) rfl f (by omega) (G.2.2.2.2 _ hl) (fun y h9 => ?_) ?_ hd k
  · have : (TX0 f).1 = "SprintBoard$Board" := by
      match f, hf with
      | 0, _ => rfl
      | 1, _ => rfl
      | 2, _ => rfl
      | 3, _ => rfl
      | 4, _ => rfl
      | 5, _ => rfl
      | 6, _ => rfl
    rw [this] at h9
    exact h9
  · match f, hf with
    | 0, _ => rfl
    | 1, _ => rfl
    | 2, _ => rfl
    | 3, _ => rfl
    | 4, _ => rfl
    | 5, _ => rfl
    | 6, _ => rfl
/-- a number of board b written -/
theorem r_bP (G : CallFix p m c cc nL s args LW own) (hC : cSt V s) (h : cH V s H locs (cWs V S)) (b f : Nat) (hb : b < 12) (hf : f < 8) {B : kBd} (hB : S.1 b = B) {index : Nat} (hl : Cond.fieldLink own index "SprintBoard$Board" (TX0 (7 + f)).2.1 (TX0 (7 + f)).2.2.1 ∈ LW) {x : Int32} {v : Nat} (hx : x = nI v) (hz : f = 3 → v < 2) {S' : kCs} (hS' : setB S b (bPut B f v) = S') (hd : decode cc pc = .ok (.putfield index, 3))
    (k : ∀ (H : Heap) (locs : List Loc), cH V s H locs (cWs V S') → W p l e R s m args below meth c H locs cells slots Q (F0 m (pc + 3) ls rest)) : W p l e R s m args below meth c H locs cells slots Q (F0 m pc ls (.int x :: .ref (eX V (8 * b)) :: rest)) := by
  subst hB; subst hx; subst hS'
  obtain ⟨hP, hD, hS⟩ := h
  have h1 : (TX0 (7 + f)).1 = "SprintBoard$Board" ∧ (TX0 (7 + f)).2.2.2 = false ∧ (bFl V b (S.1 b)).set (7 + f) (.int (nI v)) = bFl V b ((S.1 b).1, va_up (S.1 b).2 f v) ∧ parseFieldDescriptor (TX0 (7 + f)).2.2.1 = some (if f = 3 then .boolean else .int) := by
    match f, hf with
    | 0, _ => exact ⟨rfl, rfl, rfl, by decide +kernel⟩
    | 1, _ => exact ⟨rfl, rfl, rfl, by decide +kernel⟩
    | 2, _ => exact ⟨rfl, rfl, rfl, by decide +kernel⟩
    | 3, _ => exact ⟨rfl, rfl, rfl, by decide +kernel⟩
    | 4, _ => exact ⟨rfl, rfl, rfl, by decide +kernel⟩
    | 5, _ => exact ⟨rfl, rfl, rfl, by decide +kernel⟩
    | 6, _ => exact ⟨rfl, rfl, rfl, by decide +kernel⟩
    | 7, _ => exact ⟨rfl, rfl, rfl, by decide +kernel⟩
  have h2 : narrow (if f = 3 then .boolean else .int) (.int (nI v)) = .int (nI v) ∧ fits (if f = 3 then FieldType.boolean else .int) (.int (nI v)) = true := by
    by_cases h3 : f = 3
    · rw [if_pos h3]
      have := hz h3
      match v, this with
      | 0, _ => exact ⟨by decide +kernel, by decide +kernel⟩
      | 1, _ => exact ⟨by decide +kernel, by decide +kernel⟩
    · rw [if_neg h3]; exact ⟨rfl, rfl⟩
  refine va_put (D := eD V) (ci := 4) (v := .int (nI v)) (C := RX0) (T := TX0) (N := 15) G.1 G.2.1 G.2.2.2.2 iwX0 tyX0 tyX0_ok nmX0 G.2.2.2.1 hC.1 hP hD hS (8 * b + 0) (cB_at V S hb (c := 0) (by omega)) rfl (7 + f) (by omega) (G.2.2.2.2 _ hl) (fun y h9 => by rw [h1.1] at h9; exact h9) h1.2.1 h1.2.2.2 h2.1 h2.2 (by show 7 + f < 15; omega) hd (fun H1 locs1 hP1 hD1 hS1 => k H1 locs1 ?_)
  have e : (cWs V S).set (8 * b + 0) (eX V (8 * b + 0), .inr (4, (bFl V b (S.1 b)).set (7 + f) (.int (nI v)))) = cWs V (setB S b ((S.1 b).1, va_up (S.1 b).2 f v)) :=
    cB_set V S hb (c := 0) (by omega) ((S.1 b).1, va_up (S.1 b).2 f v) (by rw [h1.2.2.1]; rfl) (fun d hd hne => by
      match d, hne with
      | 0, h => exact absurd rfl h
      | d + 1, _ => rfl)
  rw [e] at hP1 hD1
  exact ⟨hP1, hD1, hS1⟩
/-- board b's array c, at place j -/
theorem r_bL (G : CallFix p m c cc nL s args LW own) (hC : cSt V s) (h : cH V s H locs (cWs V S)) (b f j : Nat) (hb : b < 12) (hf : f < 7) {B : kBd} (hB : S.1 b = B) {i : Int32} (hi : i = nI j) (hj : j < kLen f) {x : Int32} (hx : kE f (B.1 f j) = x) (hd : decode cc pc = .ok (.iaload, 1))
    (k : W p l e R s m args below meth c H locs cells slots Q (F0 m (pc + 1) ls (.int x :: rest))) : W p l e R s m args below meth c H locs cells slots Q (F0 m pc ls (.int i :: .ref (eX V (8 * b + (f + 1))) :: rest)) := by
  subst hB; subst hx
  have hn : kLen f ≤ 16 := by unfold kLen; split <;> decide
  refine va_iald (D := eD V) (cl := vwCl) (tys := eT V) G.1 G.2.1 hC.1 h.1 (8 * b + (f + 1)) 0 (cB_at V S hb (c := f + 1) (by omega)) rfl (vp_in_ofNat hi hj (by omega)) hd ?_
  show W p l e R s m args below meth c H locs cells slots Q (F0 m (pc + 1) ls (.int (kE f ((S.1 b).1 f i.toNatClampNeg)) :: rest))
  rw [cl_ofNat hi (by omega)]
  exact k
theorem r_bT (G : CallFix p m c cc nL s args LW own) (hC : cSt V s) (h : cH V s H locs (cWs V S)) (b f j : Nat) (hb : b < 12) (hf : f < 7) {B : kBd} (hB : S.1 b = B) {i : Int32} (hi : i = nI j) (hj : j < kLen f) {x : Int32} (v : Nat) (hx : x = kE f v) {S' : kCs} (hS' : setB S b (bSet B f j v) = S') (hd : decode cc pc = .ok (.iastore, 1))
    (k : ∀ (H : Heap) (locs : List Loc), cH V s H locs (cWs V S') → W p l e R s m args below meth c H locs cells slots Q (F0 m (pc + 1) ls rest)) : W p l e R s m args below meth c H locs cells slots Q (F0 m pc ls (.int x :: .int i :: .ref (eX V (8 * b + (f + 1))) :: rest)) := by
  subst hB; subst hx; subst hS'
  have hn : kLen f ≤ 16 := by unfold kLen; split <;> decide
  obtain ⟨hP, hD, hS⟩ := h
  refine va_iast (D := eD V) (cl := vwCl) (tys := eT V) G.1 G.2.1 hC.1 hP hD hS (8 * b + (f + 1)) 0 (cB_at V S hb (c := f + 1) (by omega)) rfl (vp_in_ofNat hi hj (by omega)) hd (fun H1 locs1 hP1 hD1 hS1 => k H1 locs1 ?_)
  rw [cl_ofNat hi (by omega)] at hP1 hD1
  have e : (cWs V S).set (8 * b + (f + 1)) (eX V (8 * b + (f + 1)), .inl (eC V 0, kLen f, .inl (upd (fun q => kE f ((S.1 b).1 f q)) j (kE f v)))) = cWs V (setB S b (va_up (S.1 b).1 f (va_up ((S.1 b).1 f) j v), (S.1 b).2)) := by
    refine cB_set V S hb (c := f + 1) (by omega) _ ?_ (fun d hd hne => ?_)
    · show bArr V _ f = _
      unfold bArr
      have : (fun q => kE f ((va_up (S.1 b).1 f (va_up ((S.1 b).1 f) j v)) f q)) = upd (fun q => kE f ((S.1 b).1 f q)) j (kE f v) := by
        funext q
        simp only [va_up, upd, if_true]
        split <;> rfl
      rw [← this]
    · match d, hne with
      | 0, _ => rfl
      | d + 1, h =>
        show bArr V _ d = bArr V _ d
        unfold bArr
        have : va_up (S.1 b).1 f (va_up ((S.1 b).1 f) j v) d = (S.1 b).1 d := by
          simp only [va_up]
          rw [if_neg (fun e => h (by rw [e]))]
        exact congrArg (fun z : Nat → Nat => (Sum.inl (eC V 0, kLen d, Sum.inl (fun k => kE d (z k))) : va_E)) this
  rw [e] at hP1 hD1
  exact ⟨hP1, hD1, hS1⟩
theorem r_bN (G : CallFix p m c cc nL s args LW own) (hC : cSt V s) (h : cH V s H locs (cWs V S)) (b f : Nat) (hb : b < 12) (hf : f < 7) {x : Int32} (hx : nI (kLen f) = x) (hd : decode cc pc = .ok (.arraylength, 1))
    (k : W p l e R s m args below meth c H locs cells slots Q (F0 m (pc + 1) ls (.int x :: rest))) : W p l e R s m args below meth c H locs cells slots Q (F0 m pc ls (.ref (eX V (8 * b + (f + 1))) :: rest)) :=
  va_alen (D := eD V) (cl := vwCl) (tys := eT V) G.1 G.2.1 hC.1 h.1 (8 * b + (f + 1)) 0 (cB_at V S hb (c := f + 1) (by omega)) rfl hx hd k
theorem r_bV (hC : cSt V s) (h : cH V s H locs (cWs V S)) (b : Nat) (hb : b < 12) : ∃ cell : Cell, H[eX V (8 * b)]? = some cell ∧ cell.vm.isStatics = false ∧ s.vm.findClass RX0 = some cell.cls :=
  va_recv hC.1 h.1 (ci := 4) (q0 := 8 * b + 0) rfl (cB_at V S hb (c := 0) (by omega))
end CR
