/-! STRING BUILDERS, TEXTS, CALLS of inherited methods. -/
theorem wP_map {D : va_G} {cl : List vw_C} {ws ws' : va_W} {H : Heap} (g : Nat → Nat) (h : ∀ i q, ws'[i]? = some q → ws[g i]? = some q) (hP : va_P D cl ws H) : va_P D cl ws' H := fun k q hk => hP (g k) q (h k q hk)
theorem wD_map {A : Nat → Prop} {ws ws' : va_W} (g : Nat → Nat) (hg : ∀ i j, i < ws'.length → j < ws'.length → g i = g j → i = j) (h : ∀ i q, ws'[i]? = some q → ws[g i]? = some q) (hD : va_D A ws) : va_D A ws' :=
  ⟨fun i j p q hi hj e => hg i j (List.getElem?_eq_some_iff.mp hi).1 (List.getElem?_eq_some_iff.mp hj).1 (hD.1 _ _ p q (h i p hi) (h j q hj) e), fun k q hk => hD.2 (g k) q (h k q hk)⟩
def uPut (S : kCs) (k : Nat) (x : kSb) : kCs := (S.1, S.2.1, S.2.2.1, va_up S.2.2.2 k x)
theorem uPut_at (S : kCs) (k : Nat) (x : kSb) : (uPut S k x).2.2.2 k = x := by simp [uPut, va_up]
theorem uPut_set (S : kCs) (k : Nat) (x y : kSb) : uPut (uPut S k x) k y = uPut S k y := by
  unfold uPut
  congr 3
  funext j
  simp only [va_up]
  split <;> rfl
theorem uPut_self (S : kCs) (k : Nat) : uPut S k (S.2.2.2 k) = S := by
  unfold uPut
  have : va_up S.2.2.2 k (S.2.2.2 k) = S.2.2.2 := by
    funext j
    simp only [va_up]
    split
    · rename_i h; rw [h]
    · rfl
  rw [this]
theorem cU_at (V : kEnv) (S : kCs) {k : Nat} (hk : k < 2) : (cWs V S)[104 + k]? = some (eX V (104 + k), .inr (1, uFl (S.2.2.2 k))) := by
  have h1 := cF_at V S (i := 8 + k) (by omega)
  rw [show 96 + (8 + k) = 104 + k by omega] at h1
  rw [h1]
  match k, hk with
  | 0, _ => rfl
  | 1, _ => rfl
theorem cY_at (V : kEnv) (S : kCs) {k : Nat} (hk : k < 2) : (cWs V S)[106 + k]? = some ((S.2.2.2 k).2.2.1, .inl (eC V 1, (S.2.2.2 k).2.1, .inl (S.2.2.2 k).1)) := by
  rw [cWs_at V S (by omega)]
  match k, hk with
  | 0, _ => rfl
  | 1, _ => rfl
theorem cU_adr (V : kEnv) (S : kCs) {k : Nat} (hk : k < 2) {x : kSb} (h3 : x.2.2.1 = (S.2.2.2 k).2.2.1) (j : Nat) : cAdr V (uPut S k x) j = cAdr V S j := by
  unfold cAdr uPut va_up
  match k, hk with
  | 0, _ =>
    by_cases a : j = 106
    · rw [if_pos a, if_pos a]; exact h3
    · rw [if_neg a, if_neg a]
      by_cases b : j = 107
      · rw [if_pos b, if_pos b]; rfl
      · rw [if_neg b, if_neg b]
  | 1, _ =>
    by_cases a : j = 106
    · rw [if_pos a, if_pos a]; rfl
    · rw [if_neg a, if_neg a]
      by_cases b : j = 107
      · rw [if_pos b, if_pos b]; exact h3
      · rw [if_neg b, if_neg b]
theorem cU_cel (V : kEnv) (S : kCs) {k : Nat} (hk : k < 2) (x : kSb) : ∀ i, i < 12 → i ≠ 8 + k → i ≠ 10 + k → fCel V (uPut S k x) i = fCel V S i := by
  match k, hk with
  | 0, _ => exact f12 (fun _ _ => rfl) (fun _ _ => rfl) (fun _ _ => rfl) (fun _ _ => rfl) (fun _ _ => rfl) (fun _ _ => rfl) (fun _ _ => rfl) (fun _ _ => rfl) (fun h => absurd rfl h) (fun _ _ => rfl) (fun _ h => absurd rfl h) (fun _ _ => rfl)
  | 1, _ => exact f12 (fun _ _ => rfl) (fun _ _ => rfl) (fun _ _ => rfl) (fun _ _ => rfl) (fun _ _ => rfl) (fun _ _ => rfl) (fun _ _ => rfl) (fun _ _ => rfl) (fun _ _ => rfl) (fun h => absurd rfl h) (fun _ _ => rfl) (fun _ h => absurd rfl h)
theorem cU_o (V : kEnv) (S : kCs) {k : Nat} (hk : k < 2) (x : kSb) : fCel V (uPut S k x) (8 + k) = .inr (1, uFl x) ∧ fCel V (uPut S k x) (10 + k) = .inl (eC V 1, x.2.1, .inl x.1) ∧ fCel V S (8 + k) = .inr (1, uFl (S.2.2.2 k)) ∧ fCel V S (10 + k) = .inl (eC V 1, (S.2.2.2 k).2.1, .inl (S.2.2.2 k).1) := by
  match k, hk with
  | 0, _ => exact ⟨rfl, rfl, rfl, rfl⟩
  | 1, _ => exact ⟨rfl, rfl, rfl, rfl⟩
theorem cU_cells (V : kEnv) (S : kCs) {k : Nat} (hk : k < 2) (x : kSb) (j : Nat) (hj : j < 108) (h8 : j ≠ 104 + k) (h9 : j ≠ 106 + k) : cCel V (uPut S k x) j = cCel V S j := by
  unfold cCel
  by_cases a : j < 96
  · rw [if_pos a, if_pos a]; rfl
  · rw [if_neg a, if_neg a]
    exact cU_cel V S hk x _ (by omega) (by omega) (by omega)
theorem cU_set (V : kEnv) (S : kCs) {k : Nat} (hk : k < 2) {x : kSb} (h1 : x.1 = (S.2.2.2 k).1) (h2 : x.2.1 = (S.2.2.2 k).2.1) (h3 : x.2.2.1 = (S.2.2.2 k).2.2.1) : (cWs V S).set (104 + k) (eX V (104 + k), .inr (1, uFl x)) = cWs V (uPut S k x) := by
  obtain ⟨o1, o2, o3, o4⟩ := cU_o V S hk x
  rw [← cAdr_b V S (i := 104 + k) (by omega)]
  refine cWs_set (V := V) (S := S) (S' := uPut S k x) (i := 104 + k) (by omega) (fun j _ => cU_adr V S hk h3 j) ?_ (fun j hj hne => ?_)
  · unfold cCel
    rw [if_neg (by omega), show 104 + k - 96 = 8 + k by omega]
    exact o1
  · by_cases h : j = 106 + k
    · subst h
      unfold cCel
      rw [if_neg (by omega), if_neg (by omega), show 106 + k - 96 = 10 + k by omega, o2, o4, h1, h2]
    · exact cU_cells V S hk x j hj hne h
theorem cY_set (V : kEnv) (S : kCs) {k : Nat} (hk : k < 2) {x : kSb} (h2 : x.2.1 = (S.2.2.2 k).2.1) (h3 : x.2.2 = (S.2.2.2 k).2.2) : (cWs V S).set (106 + k) ((S.2.2.2 k).2.2.1, .inl (eC V 1, (S.2.2.2 k).2.1, .inl x.1)) = cWs V (uPut S k x) := by
  obtain ⟨o1, o2, o3, o4⟩ := cU_o V S hk x
  have ha : (S.2.2.2 k).2.2.1 = cAdr V S (106 + k) := by
    match k, hk with
    | 0, _ => rfl
    | 1, _ => rfl
  rw [ha]
  refine cWs_set (V := V) (S := S) (S' := uPut S k x) (i := 106 + k) (by omega) (fun j _ => cU_adr V S hk (by rw [h3]) j) ?_ (fun j hj hne => ?_)
  · unfold cCel
    rw [if_neg (by omega), show 106 + k - 96 = 10 + k by omega, o2, h2]
  · by_cases h : j = 104 + k
    · subst h
      unfold cCel
      rw [if_neg (by omega), if_neg (by omega), show 104 + k - 96 = 8 + k by omega, o1, o3]
      unfold uFl
      rw [h3]
    · exact cU_cells V S hk x j hj h hne
theorem cWs_len (V : kEnv) (S : kCs) : (cWs V S).length = 108 := by simp [cWs]
/-- a longer array put in the place of the builder's own -/
theorem cU_grow (V : kEnv) (S : kCs) {k : Nat} (hk : k < 2) {f' : Nat → Int32} {mm q : Nat} {i : Nat} {w : Nat × va_E} (hw : (cWs V (uPut S k (f', mm, q, (S.2.2.2 k).2.2.2.1, (S.2.2.2 k).2.2.2.2)))[i]? = some w) :
    (((cWs V S) ++ [(q, (.inl (eC V 1, mm, .inl f') : va_E))]).set (104 + k) (eX V (104 + k), .inr (1, (uFl (S.2.2.2 k)).set 0 (.ref q))))[if i = 106 + k then 108 else i]? = some w := by
  have hi : i < 108 := by
    have := (List.getElem?_eq_some_iff.mp hw).1
    rwa [cWs_len] at this
  rw [cWs_at V _ hi] at hw
  obtain ⟨o1, o2, o3, o4⟩ := cU_o V S hk (f', mm, q, (S.2.2.2 k).2.2.2.1, (S.2.2.2 k).2.2.2.2)
  have hl : ((cWs V S) ++ [(q, (.inl (eC V 1, mm, .inl f') : va_E))]).length = 109 := by simp [cWs]
  by_cases h : i = 106 + k
  · subst h
    rw [if_pos rfl, List.getElem?_set_ne (by omega), List.getElem?_append_right (by rw [cWs_len]; decide), cWs_len]
    rw [← hw]
    have e1 : cAdr V (uPut S k (f', mm, q, (S.2.2.2 k).2.2.2.1, (S.2.2.2 k).2.2.2.2)) (106 + k) = q := by
      match k, hk with
      | 0, _ => rfl
      | 1, _ => rfl
    have e2 : cCel V (uPut S k (f', mm, q, (S.2.2.2 k).2.2.2.1, (S.2.2.2 k).2.2.2.2)) (106 + k) = .inl (eC V 1, mm, .inl f') := by
      unfold cCel
      rw [if_neg (by omega), show 106 + k - 96 = 10 + k by omega, o2]
    rw [e1, e2, Nat.sub_self]
    rfl
  · rw [if_neg h]
    by_cases h2 : i = 104 + k
    · subst h2
      rw [List.getElem?_set_self (by rw [hl]; omega), ← hw]
      have e2 : cCel V (uPut S k (f', mm, q, (S.2.2.2 k).2.2.2.1, (S.2.2.2 k).2.2.2.2)) (104 + k) = .inr (1, (uFl (S.2.2.2 k)).set 0 (.ref q)) := by
        unfold cCel
        rw [if_neg (by omega), show 104 + k - 96 = 8 + k by omega, o1]
        rfl
      rw [cAdr_b V _ (by omega), e2]
    · rw [List.getElem?_set_ne (fun e => h2 e.symm), List.getElem?_append_left (by rw [cWs_len]; exact hi), cWs_at V S hi, ← hw]
      congr 2
      · unfold cAdr uPut va_up
        match k, hk with
        | 0, _ =>
          rw [if_neg h, if_neg h]
          by_cases b : i = 107
          · rw [if_pos b, if_pos b]; rfl
          · rw [if_neg b, if_neg b]
        | 1, _ =>
          by_cases a : i = 106
          · rw [if_pos a, if_pos a]; rfl
          · rw [if_neg a, if_neg a, if_neg h, if_neg h]
      · exact (cU_cells V S hk _ i hi h2 h).symm
section CR3
variable {p : Program} {l : Launch} {e : Env} {R : Room} {s : State} {m : MethodId} {args : Array Value} {below : List Frame} {meth : Method} {c : Code} {H : Heap} {locs : List Loc} {cells slots : Nat} {Q : State → Prop}
variable {cc : ByteArray} {pc nL : Nat} {ls : Array Slot} {rest : List Value} {own : String} {V : kEnv} {S S' : kCs}
theorem iwJ4 : ∀ w ∈ wsJ40, w ∈ LW := by decide +kernel
theorem iwJ0 : ∀ w ∈ wsJ00, w ∈ LW := by decide +kernel
theorem r_uF (G : CallFix p m c cc nL s args LW own) (hC : cSt V s) (h : cH V s H locs (cWs V S)) (k f : Nat) (hk : k < 2) (hf : f < 4) {index : Nat} (hl : Cond.fieldLink own index "java/lang/AbstractStringBuilder" (TJ4 f).2.1 (TJ4 f).2.2.1 ∈ LW) {v : Value} (hv : (uFl (S.2.2.2 k))[f]? = some v) (hd : decode cc pc = .ok (.getfield index, 3))
    (kk : W p l e R s m args below meth c H locs cells slots Q (F0 m (pc + 3) ls (v :: rest))) : W p l e R s m args below meth c H locs cells slots Q (F0 m pc ls (.ref (eX V (104 + k)) :: rest)) := by
  refine va_get (D := eD V) (ci := 1) (v := v) (C := RJ4) (T := TJ4) (N := 4) G.1 G.2.1 G.2.2.2.2 iwJ4 G.2.2.2.1 hC.1 h.1 (104 + k) (cU_at V S hk) rfl f hf (G.2.2.2.2 _ hl) (fun y h9 => ?_) hv hd kk
  have : (TJ4 f).1 = "java/lang/AbstractStringBuilder" := by
    match f, hf with
    | 0, _ => rfl
    | 1, _ => rfl
    | 2, _ => rfl
    | 3, _ => rfl
  rw [this] at h9
  exact h9
/-- count (f = 3) or maybeLatin1 (f = 2) written -/
theorem r_uP (G : CallFix p m c cc nL s args LW own) (hC : cSt V s) (h : cH V s H locs (cWs V S)) (k f : Nat) (hk : k < 2) (hf : f = 3 ∨ f = 2) {index : Nat} (hl : Cond.fieldLink own index "java/lang/AbstractStringBuilder" (TJ4 f).2.1 (TJ4 f).2.2.1 ∈ LW) {x : Int32} {y : kSb} (hz : f = 2 → x = 0 ∨ x = 1) (h1 : y.1 = (S.2.2.2 k).1) (h2 : y.2.1 = (S.2.2.2 k).2.1) (h3 : y.2.2.1 = (S.2.2.2 k).2.2.1) (h4 : (uFl (S.2.2.2 k)).set f (.int x) = uFl y) (hS' : uPut S k y = S') (hd : decode cc pc = .ok (.putfield index, 3))
    (kk : ∀ (H : Heap) (locs : List Loc), cH V s H locs (cWs V S') → W p l e R s m args below meth c H locs cells slots Q (F0 m (pc + 3) ls rest)) : W p l e R s m args below meth c H locs cells slots Q (F0 m pc ls (.int x :: .ref (eX V (104 + k)) :: rest)) := by
  subst hS'
  obtain ⟨hP, hD, hS⟩ := h
  have e1 : (TJ4 f).1 = "java/lang/AbstractStringBuilder" ∧ (TJ4 f).2.2.2 = false ∧ f < 4 ∧ parseFieldDescriptor (TJ4 f).2.2.1 = some (if f = 2 then .boolean else .int) := by
    rcases hf with rfl | rfl
    · exact ⟨rfl, rfl, by decide, by decide +kernel⟩
    · exact ⟨rfl, rfl, by decide, by decide +kernel⟩
  have e2 : narrow (if f = 2 then .boolean else .int) (.int x) = .int x ∧ fits (if f = 2 then FieldType.boolean else .int) (.int x) = true := by
    by_cases h3 : f = 2
    · rw [if_pos h3]
      rcases hz h3 with rfl | rfl
      · exact ⟨by decide +kernel, by decide +kernel⟩
      · exact ⟨by decide +kernel, by decide +kernel⟩
    · rw [if_neg h3]; exact ⟨rfl, rfl⟩
  refine va_put (D := eD V) (ci := 1) (v := .int x) (C := RJ4) (T := TJ4) (N := 4) G.1 G.2.1 G.2.2.2.2 iwJ4 tyJ4 tyJ4_ok nmJ4 G.2.2.2.1 hC.1 hP hD hS (104 + k) (cU_at V S hk) rfl f e1.2.2.1 (G.2.2.2.2 _ hl) (fun y h9 => by rw [e1.1] at h9; exact h9) e1.2.1 e1.2.2.2 e2.1 e2.2 (by show f < 4; omega) hd (fun H1 locs1 hP1 hD1 hS1 => kk H1 locs1 ?_)
  rw [h4, cU_set V S hk h1 h2 h3] at hP1 hD1
  exact ⟨hP1, hD1, hS1⟩
theorem r_uL (G : CallFix p m c cc nL s args LW own) (hC : cSt V s) (h : cH V s H locs (cWs V S)) (k j : Nat) (hk : k < 2) {i : Int32} (hi : i = nI j) (hj : j < (S.2.2.2 k).2.1) (hm : (S.2.2.2 k).2.1 < 2 ^ 31) {x : Int32} (hx : (S.2.2.2 k).1 j = x) (hd : decode cc pc = .ok (.baload, 1))
    (kk : W p l e R s m args below meth c H locs cells slots Q (F0 m (pc + 1) ls (.int x :: rest))) : W p l e R s m args below meth c H locs cells slots Q (F0 m pc ls (.int i :: .ref (S.2.2.2 k).2.2.1 :: rest)) := by
  subst hx
  refine va_bald (D := eD V) (cl := vwCl) (tys := eT V) G.1 G.2.1 hC.1 h.1 (106 + k) 1 (cY_at V S hk) rfl (vp_in_ofNat hi hj hm) hd ?_
  rw [cl_ofNat hi (by omega)]
  exact kk
theorem r_uT (G : CallFix p m c cc nL s args LW own) (hC : cSt V s) (h : cH V s H locs (cWs V S)) (k j : Nat) (hk : k < 2) {i : Int32} (hi : i = nI j) (hj : j < (S.2.2.2 k).2.1) (hm : (S.2.2.2 k).2.1 < 2 ^ 31) {x y : Int32} (hx : vp_nar .byte x = y) (hS' : uPut S k (upd (S.2.2.2 k).1 j y, (S.2.2.2 k).2) = S') (hd : decode cc pc = .ok (.bastore, 1))
    (kk : ∀ (H : Heap) (locs : List Loc), cH V s H locs (cWs V S') → W p l e R s m args below meth c H locs cells slots Q (F0 m (pc + 1) ls rest)) : W p l e R s m args below meth c H locs cells slots Q (F0 m pc ls (.int x :: .int i :: .ref (S.2.2.2 k).2.2.1 :: rest)) := by
  subst hx; subst hS'
  obtain ⟨hP, hD, hS⟩ := h
  refine va_bast (D := eD V) (cl := vwCl) (tys := eT V) G.1 G.2.1 hC.1 hP hD hS (106 + k) 1 (cY_at V S hk) rfl (vp_in_ofNat hi hj hm) hd (fun H1 locs1 hP1 hD1 hS1 => kk H1 locs1 ?_)
  rw [cl_ofNat hi (by omega)] at hP1 hD1
  have e := cY_set V S hk (x := (upd (S.2.2.2 k).1 j (vp_nar .byte x), (S.2.2.2 k).2)) rfl rfl
  rw [e] at hP1 hD1
  exact ⟨hP1, hD1, hS1⟩
theorem r_uN (G : CallFix p m c cc nL s args LW own) (hC : cSt V s) (h : cH V s H locs (cWs V S)) (k : Nat) (hk : k < 2) {x : Int32} (hx : nI (S.2.2.2 k).2.1 = x) (hd : decode cc pc = .ok (.arraylength, 1))
    (kk : W p l e R s m args below meth c H locs cells slots Q (F0 m (pc + 1) ls (.int x :: rest))) : W p l e R s m args below meth c H locs cells slots Q (F0 m pc ls (.ref (S.2.2.2 k).2.2.1 :: rest)) :=
  va_alen (D := eD V) (cl := vwCl) (tys := eT V) G.1 G.2.1 hC.1 h.1 (106 + k) 1 (cY_at V S hk) rfl hx hd kk
/-- COMPACT_STRINGS -/
theorem r_cs (G : CallFix p m c cc nL s args LW own) (hC : cSt V s) (h : cH V s H locs (cWs V S)) {index : Nat} (hl : Cond.fieldLink own index "java/lang/String" "COMPACT_STRINGS" "Z" ∈ LW) (hd : decode cc pc = .ok (.getstatic index, 3))
    (kk : W p l e R s m args below meth c H locs cells slots Q (F0 m (pc + 3) ls (.int 1 :: rest))) : W p l e R s m args below meth c H locs cells slots Q (F0 m pc ls rest) :=
  va_gets G.1 G.2.1 hC.2.2.2.2.2.2.1.1 h.2.2 G.2.2.2.1 (G.2.2.2.2 _ hl) (fun _ h => h) hd kk
/-- the formatter of bounds' errors: some reference, or null -/
theorem r_sio (G : CallFix p m c cc nL s args LW own) (hC : cSt V s) (h : cH V s H locs (cWs V S)) {index : Nat} (hl : Cond.fieldLink own index "jdk/internal/util/Preconditions" "SIOOBE_FORMATTER" "Ljava/util/function/BiFunction;" ∈ LW) (hd : decode cc pc = .ok (.getstatic index, 3))
    (kk : ∀ r : Option Nat, W p l e R s m args below meth c H locs cells slots Q (F0 m (pc + 3) ls (va_rf r :: rest))) : W p l e R s m args below meth c H locs cells slots Q (F0 m pc ls rest) := by
  rcases hC.2.2.2.2.2.2.1.2.2.2.2.2.1 with hz | ⟨t, hz⟩
  · exact va_gets G.1 G.2.1 hz h.2.2 G.2.2.2.1 (G.2.2.2.2 _ hl) (fun _ h => h) hd (kk none)
  · exact va_gets G.1 G.2.1 hz h.2.2 G.2.2.2.1 (G.2.2.2.2 _ hl) (fun _ h => h) hd (kk (some t))
/-- a constant text: its fields, its bytes -/
theorem r_xV (hC : cSt V s) (h : cH V s H locs (cWs V S)) (i : Nat) (hi : i < 23) : ∃ cell : Cell, H[eX V (200 + i)]? = some cell ∧ cell.vm.isStatics = false ∧ s.vm.findClass RJ0 = some cell.cls := vk_recv (adK := fun i => eX V (200 + i)) (i := i) hC.2.2.2.2.2.1.1 hi h.2.2
theorem r_tF0 (G : CallFix p m c cc nL s args LW own) (hC : cSt V s) (h : cH V s H locs (cWs V S)) (i : Nat) (hi : i < 23) {index : Nat} (hl : Cond.fieldLink own index "java/lang/String" "value" "[B" ∈ LW) (hd : decode cc pc = .ok (.getfield index, 3))
    (kk : W p l e R s m args below meth c H locs cells slots Q (F0 m (pc + 3) ls (.ref (eX V (300 + i)) :: rest))) : W p l e R s m args below meth c H locs cells slots Q (F0 m pc ls (.ref (eX V (200 + i)) :: rest)) :=
  vk_getf G.1 G.2.1 (hC.2.2.2.2.2.1.1.1 i hi).2.2.1 h.2.2 G.2.2.2.1 (G.2.2.2.2 _ hl) (fun _ h => h) hd kk
theorem r_tF1 (G : CallFix p m c cc nL s args LW own) (hC : cSt V s) (h : cH V s H locs (cWs V S)) (i : Nat) (hi : i < 23) {index : Nat} (hl : Cond.fieldLink own index "java/lang/String" "coder" "B" ∈ LW) (hd : decode cc pc = .ok (.getfield index, 3))
    (kk : W p l e R s m args below meth c H locs cells slots Q (F0 m (pc + 3) ls (.int 0 :: rest))) : W p l e R s m args below meth c H locs cells slots Q (F0 m pc ls (.ref (eX V (200 + i)) :: rest)) :=
  vk_getf G.1 G.2.1 (hC.2.2.2.2.2.1.1.1 i hi).2.1 h.2.2 G.2.2.2.1 (G.2.2.2.2 _ hl) (fun _ h => h) hd kk
theorem r_tN (G : CallFix p m c cc nL s args LW own) (hC : cSt V s) (h : cH V s H locs (cWs V S)) (i : Nat) (hi : i < 23) {x : Int32} (hx : nI (kTn.getD i 0) = x) (hd : decode cc pc = .ok (.arraylength, 1))
    (kk : W p l e R s m args below meth c H locs cells slots Q (F0 m (pc + 1) ls (.int x :: rest))) : W p l e R s m args below meth c H locs cells slots Q (F0 m pc ls (.ref (eX V (300 + i)) :: rest)) :=
  va_tlen G.1 G.2.1 (hC.2.2.2.2.2.1.1.1 i hi).2.2.2 h.2.2 hx hd kk
theorem kTx_ok : ∀ i : Fin 23, kTn.getD i.val 0 = (kLs i.val).length ∧ (kLs i.val).length ≤ 11 ∧ (∀ j : Fin 11, (kTb.getD i.val []).getD j.val 0 = nI ((kLs i.val).getD j.val 0)) ∧ (∀ j : Fin 11, (kLs i.val).getD j.val 0 < 128) := by decide +kernel
theorem r_tL (G : CallFix p m c cc nL s args LW own) (hC : cSt V s) (h : cH V s H locs (cWs V S)) (i j : Nat) (hi : i < 23) {q : Int32} (hq : q = nI j) (hj : j < (kLs i).length) {x : Int32} (hx : nI ((kLs i).getD j 0) = x) (hd : decode cc pc = .ok (.baload, 1))
    (kk : W p l e R s m args below meth c H locs cells slots Q (F0 m (pc + 1) ls (.int x :: rest))) : W p l e R s m args below meth c H locs cells slots Q (F0 m pc ls (.int q :: .ref (eX V (300 + i)) :: rest)) := by
  obtain ⟨k1, k2, k3, k4⟩ := kTx_ok ⟨i, hi⟩
  simp only at k1 k2 k3 k4
  refine va_tb G.1 G.2.1 (hC.2.2.2.2.2.1.1.1 i hi).2.2.2 h.2.2 (vp_in_ofNat hq (show j < kTn.getD i 0 by rw [k1]; exact hj) (by rw [k1]; omega)) (v := .int x) ?_ hd kk
  rw [cl_ofNat hq (by omega), ← hx]
  exact congrArg Value.int (k3 ⟨j, by omega⟩)
/-- a text of the class's own pool -/
theorem r_ldcS (G : CallFix p m c cc nL s args LW own) (hC : cSt V s) (i : Nat) {tx : String} {index : Nat} {lt : List Nat} (hi : kTx[i]? = some (own, index, tx, lt)) (hd : decode cc pc = .ok (.ldc index, 2))
    (kk : W p l e R s m args below meth c H locs cells slots Q (F0 m (pc + 2) ls (.ref (eX V (200 + i)) :: rest))) : W p l e R s m args below meth c H locs cells slots Q (F0 m pc ls rest) :=
  va_ldcS G.1 G.2.1 G.2.2.2.1 (hC.2.2.2.2.2.1.2 i _ hi) hd kk
/-- digits' tables -/
theorem r_dT (G : CallFix p m c cc nL s args LW own) (hC : cSt V s) (h : cH V s H locs (cWs V S)) {index : Nat} (hl : Cond.fieldLink own index "java/lang/Integer" "DigitTens" "[B" ∈ LW) (hd : decode cc pc = .ok (.getstatic index, 3))
    (kk : W p l e R s m args below meth c H locs cells slots Q (F0 m (pc + 3) ls (.ref (eX V 401) :: rest))) : W p l e R s m args below meth c H locs cells slots Q (F0 m pc ls rest) :=
  va_gets G.1 G.2.1 hC.2.2.2.2.2.2.1.2.1 h.2.2 G.2.2.2.1 (G.2.2.2.2 _ hl) (fun _ h => h) hd kk
theorem r_dO (G : CallFix p m c cc nL s args LW own) (hC : cSt V s) (h : cH V s H locs (cWs V S)) {index : Nat} (hl : Cond.fieldLink own index "java/lang/Integer" "DigitOnes" "[B" ∈ LW) (hd : decode cc pc = .ok (.getstatic index, 3))
    (kk : W p l e R s m args below meth c H locs cells slots Q (F0 m (pc + 3) ls (.ref (eX V 402) :: rest))) : W p l e R s m args below meth c H locs cells slots Q (F0 m pc ls rest) :=
  va_gets G.1 G.2.1 hC.2.2.2.2.2.2.1.2.2.1 h.2.2 G.2.2.2.1 (G.2.2.2.2 _ hl) (fun _ h => h) hd kk
theorem r_dTL (G : CallFix p m c cc nL s args LW own) (hC : cSt V s) (h : cH V s H locs (cWs V S)) (j : Nat) {q : Int32} (hq : q = nI j) (hj : j < 100) {x : Int32} (hx : nI (48 + j / 10) = x) (hd : decode cc pc = .ok (.baload, 1))
    (kk : W p l e R s m args below meth c H locs cells slots Q (F0 m (pc + 1) ls (.int x :: rest))) : W p l e R s m args below meth c H locs cells slots Q (F0 m pc ls (.int q :: .ref (eX V 401) :: rest)) :=
  va_tb G.1 G.2.1 hC.2.2.2.2.2.2.1.2.2.2.1 h.2.2 (vp_in_ofNat hq hj (by decide)) (v := .int x) (by rw [cl_ofNat hq (by omega), ← hx]; rfl) hd kk
theorem r_dOL (G : CallFix p m c cc nL s args LW own) (hC : cSt V s) (h : cH V s H locs (cWs V S)) (j : Nat) {q : Int32} (hq : q = nI j) (hj : j < 100) {x : Int32} (hx : nI (48 + j % 10) = x) (hd : decode cc pc = .ok (.baload, 1))
    (kk : W p l e R s m args below meth c H locs cells slots Q (F0 m (pc + 1) ls (.int x :: rest))) : W p l e R s m args below meth c H locs cells slots Q (F0 m pc ls (.int q :: .ref (eX V 402) :: rest)) :=
  va_tb G.1 G.2.1 hC.2.2.2.2.2.2.1.2.2.2.2.1 h.2.2 (vp_in_ofNat hq hj (by decide)) (v := .int x) (by rw [cl_ofNat hq (by omega), ← hx]; rfl) hd kk
end CR3
/-! calls of inherited and of super methods on a builder; contracts that answer a reference -/
def kR {τ : Type} (l : Launch) (y : MethodName) (cc : ByteArray) (mL : Nat) (ret : Option FieldType) (rm : Room) (V : kEnv) (F : τ → va_W) (av : List Value) (u0 : τ) (post : τ → Prop) (ra : Nat) (mc ms : Nat) : Prop :=
  Met l y (kWs y cc mL ret) rm (va_Pc av (cPre V (F u0))) (va_Qr post (fun u q t => q = ra ∧ cAt V (F u) t) (eA V)) mc ms (eA V)
/-- a callee's words: inherited by invokevirtual (kVu), super by invokespecial (kVp) -/
def kVu (C : String) (y : MethodName) (bytes : ByteArray) (maxL : Nat) (ret : Option FieldType) (n : Nat) : Prop := Cond.sameMethod y.cls y.cls y.name y.desc ∈ LW ∧ Cond.selects C y y ∈ LW ∧ Cond.instanceMethod y ∈ LW ∧ Cond.initialized y.cls ∈ LW ∧ Cond.code y bytes maxL ret ∈ LW ∧ (y.cls ≠ "java/lang/invoke/MethodHandle" ∧ y.cls ≠ "java/lang/invoke/VarHandle" ∧ (parseMethodDescriptor y.desc).map (fun d => d.parameters.length) = some n)
def kVp (own : String) (y : MethodName) (bytes : ByteArray) (maxL : Nat) (ret : Option FieldType) (n : Nat) : Prop := Cond.sameMethod y.cls y.cls y.name y.desc ∈ LW ∧ Cond.superclass own y.cls ∈ LW ∧ Cond.instanceMethod y ∈ LW ∧ Cond.initialized y.cls ∈ LW ∧ Cond.code y bytes maxL ret ∈ LW ∧ (y.name ≠ "<init>" ∧ (parseMethodDescriptor y.desc).map (fun d => d.parameters.length) = some n)
section KC3
variable {p : Program} {l : Launch} {e : Env} {R : Room} {s : State} {m : MethodId} {args : Array Value} {below : List Frame} {meth : Method} {c : Code} {H : Heap} {locs : List Loc} {cells slots : Nat} {Q : State → Prop}
variable {cc bytes : ByteArray} {pc nL index maxL mc ms n b : Nat} {ls : Array Slot} {rest st0 As : List Value} {own : String} {V : kEnv} {y : MethodName} {ret : Option FieldType} {rm : Room} {τ : Type} {F : τ → va_W} {u0 : τ}
theorem kU_cw {C : String} (G : CallFix p m c cc nL s args LW own) (w1 : Cond.methodLink own index y ∈ LW) (hv : kVu C y bytes maxL ret n) (hr : rm.cells = mc ∧ rm.slots = ms) (hR : rm.frames + 1 ≤ R.frames ∧ 8 + (maxL + 11) + rm.locals ≤ R.locals) : va_CU R s args own C y.cls index y y bytes maxL ret (kWs y bytes maxL ret) rm mc ms n := by
  obtain ⟨w2, w3, w4, w5, w6, hd⟩ := hv
  refine va_cwU n G.2.2.2.2 ?_ rfl hr.1 hr.2 rfl hd hR
  intro w hw
  simp only [va_wsU, List.cons_append, List.nil_append, List.mem_cons] at hw
  rcases hw with rfl | rfl | rfl | rfl | rfl | rfl | hw
  · exact lwG _ w1
  · exact lwG _ w2
  · exact lwG _ w3
  · exact lwG _ w4
  · exact lwG _ w5
  · exact lwG _ w6
  · exact lwG _ hw
theorem kP_cw (G : CallFix p m c cc nL s args LW own) (w1 : Cond.methodLink own index y ∈ LW) (hv : kVp own y bytes maxL ret n) (hr : rm.cells = mc ∧ rm.slots = ms) (hR : rm.frames + 1 ≤ R.frames ∧ 8 + (maxL + 11) + rm.locals ≤ R.locals) : va_CS R s args own index y bytes maxL ret (kWs y bytes maxL ret) rm mc ms n := by
  obtain ⟨w2, w3, w4, w5, w6, hd⟩ := hv
  refine va_cwSU n G.2.2.2.2 ?_ rfl hr.1 hr.2 hd hR
  intro w hw
  simp only [va_wsSU, List.cons_append, List.nil_append, List.mem_cons] at hw
  rcases hw with rfl | rfl | rfl | rfl | rfl | rfl | hw
  · exact lwG _ w1
  · exact lwG _ w2
  · exact lwG _ w3
  · exact lwG _ w4
  · exact lwG _ w5
  · exact lwG _ w6
  · exact lwG _ hw
theorem k_Ui {C : String} {post : Int32 → τ → Prop} (G : CallFix p m c cc nL s args LW own) (hC : cSt V s) (hB : eB V ≤ s.heap.size) (h : cH V s H locs (F u0)) (hM : kI l y bytes maxL ret rm V F (.ref b :: As) u0 post mc ms)
    (w1 : Cond.methodLink own index y ∈ LW) (hv : kVu C y bytes maxL ret n) (hr : rm.cells = mc ∧ rm.slots = ms) (hR : rm.frames + 1 ≤ R.frames ∧ 8 + (maxL + 11) + rm.locals ≤ R.locals) (hrec : ∃ cell : Cell, H[b]? = some cell ∧ cell.vm.isStatics = false ∧ s.vm.findClass C = some cell.cls)
    (hn : As.length = n) (hst : st0 = As.reverse ++ .ref b :: rest) (hsz : ls.size = nL) (hro : (rest.map fun v => v.category).sum ≤ 8) (hd : decode cc pc = .ok (.invokevirtual index, 3)) (hf : cells + mc ≤ R.cells ∧ slots + ms ≤ R.slots)
    (k : ∀ (r : Int32) (u : τ) (H : Heap) (locs : List Loc), post r u → cH V s H locs (F u) → W p l e R s m args below meth c H locs (cells + mc) (slots + ms) Q (F0 m (pc + 3) ls (.int r :: rest))) : W p l e R s m args below meth c H locs cells slots Q (F0 m pc ls st0) :=
  va_calli (va_runU G hM (kU_cw G w1 hv hr hR) ⟨cPre.blind, hrec, cPre.of hC hB h⟩ rfl hn hsz hst (lv_room hro) hd hf) h.2.2 (fun _ _ h => h) (fun _ h => h)
    (fun r u t H1 locs1 ht _ hp hb _ _ hS => k r u H1 locs1 hp (kBack ht hb hS))
theorem k_Uv {C : String} {post : τ → Prop} (G : CallFix p m c cc nL s args LW own) (hC : cSt V s) (hB : eB V ≤ s.heap.size) (h : cH V s H locs (F u0)) (hM : kU l y bytes maxL rm V F (.ref b :: As) u0 post mc ms)
    (w1 : Cond.methodLink own index y ∈ LW) (hv : kVu C y bytes maxL none n) (hr : rm.cells = mc ∧ rm.slots = ms) (hR : rm.frames + 1 ≤ R.frames ∧ 8 + (maxL + 11) + rm.locals ≤ R.locals) (hrec : ∃ cell : Cell, H[b]? = some cell ∧ cell.vm.isStatics = false ∧ s.vm.findClass C = some cell.cls)
    (hn : As.length = n) (hst : st0 = As.reverse ++ .ref b :: rest) (hsz : ls.size = nL) (hro : (rest.map fun v => v.category).sum ≤ 8) (hd : decode cc pc = .ok (.invokevirtual index, 3)) (hf : cells + mc ≤ R.cells ∧ slots + ms ≤ R.slots)
    (k : ∀ (u : τ) (H : Heap) (locs : List Loc), post u → cH V s H locs (F u) → W p l e R s m args below meth c H locs (cells + mc) (slots + ms) Q (F0 m (pc + 3) ls rest)) : W p l e R s m args below meth c H locs cells slots Q (F0 m pc ls st0) :=
  va_callv (va_runU G hM (kU_cw G w1 hv hr hR) ⟨cPre.blind, hrec, cPre.of hC hB h⟩ rfl hn hsz hst (lv_room hro) hd hf) h.2.2 (fun _ _ h => h) (fun _ h => h)
    (fun u t H1 locs1 ht _ hp hb _ _ hS => k u H1 locs1 hp (kBack ht hb hS))
theorem k_Pi {cC : ClassId} {C : String} {post : Int32 → τ → Prop} (hat : ClassAt s C cC) (G : CallFix p m c cc nL s args LW own) (hC : cSt V s) (hB : eB V ≤ s.heap.size) (h : cH V s H locs (F u0)) (hM : kI l y bytes maxL ret rm V F (.ref b :: As) u0 post mc ms)
    (w1 : Cond.methodLink own index y ∈ LW) (hv : kVp own y bytes maxL ret n) (hr : rm.cells = mc ∧ rm.slots = ms) (hR : rm.frames + 1 ≤ R.frames ∧ 8 + (maxL + 11) + rm.locals ≤ R.locals) (hrec : ∃ cell : Cell, H[b]? = some cell ∧ cell.vm.isStatics = false ∧ s.vm.findClass C = some cell.cls)
    (hn : As.length = n) (hst : st0 = As.reverse ++ .ref b :: rest) (hsz : ls.size = nL) (hro : (rest.map fun v => v.category).sum ≤ 8) (hd : decode cc pc = .ok (.invokespecial index, 3)) (hf : cells + mc ≤ R.cells ∧ slots + ms ≤ R.slots)
    (k : ∀ (r : Int32) (u : τ) (H : Heap) (locs : List Loc), post r u → cH V s H locs (F u) → W p l e R s m args below meth c H locs (cells + mc) (slots + ms) Q (F0 m (pc + 3) ls (.int r :: rest))) : W p l e R s m args below meth c H locs cells slots Q (F0 m pc ls st0) :=
  va_calli (va_runSU hat G hM (kP_cw G w1 hv hr hR) ⟨cPre.blind, hrec, cPre.of hC hB h⟩ rfl hn hsz hst (lv_room hro) hd hf) h.2.2 (fun _ _ h => h) (fun _ h => h)
    (fun r u t H1 locs1 ht _ hp hb _ _ hS => k r u H1 locs1 hp (kBack ht hb hS))
theorem k_Pv {cC : ClassId} {C : String} {post : τ → Prop} (hat : ClassAt s C cC) (G : CallFix p m c cc nL s args LW own) (hC : cSt V s) (hB : eB V ≤ s.heap.size) (h : cH V s H locs (F u0)) (hM : kU l y bytes maxL rm V F (.ref b :: As) u0 post mc ms)
    (w1 : Cond.methodLink own index y ∈ LW) (hv : kVp own y bytes maxL none n) (hr : rm.cells = mc ∧ rm.slots = ms) (hR : rm.frames + 1 ≤ R.frames ∧ 8 + (maxL + 11) + rm.locals ≤ R.locals) (hrec : ∃ cell : Cell, H[b]? = some cell ∧ cell.vm.isStatics = false ∧ s.vm.findClass C = some cell.cls)
    (hn : As.length = n) (hst : st0 = As.reverse ++ .ref b :: rest) (hsz : ls.size = nL) (hro : (rest.map fun v => v.category).sum ≤ 8) (hd : decode cc pc = .ok (.invokespecial index, 3)) (hf : cells + mc ≤ R.cells ∧ slots + ms ≤ R.slots)
    (k : ∀ (u : τ) (H : Heap) (locs : List Loc), post u → cH V s H locs (F u) → W p l e R s m args below meth c H locs (cells + mc) (slots + ms) Q (F0 m (pc + 3) ls rest)) : W p l e R s m args below meth c H locs cells slots Q (F0 m pc ls st0) :=
  va_callv (va_runSU hat G hM (kP_cw G w1 hv hr hR) ⟨cPre.blind, hrec, cPre.of hC hB h⟩ rfl hn hsz hst (lv_room hro) hd hf) h.2.2 (fun _ _ h => h) (fun _ h => h)
    (fun u t H1 locs1 ht _ hp hb _ _ hS => k u H1 locs1 hp (kBack ht hb hS))
theorem k_Pr {cC : ClassId} {C : String} {ra : Nat} {post : τ → Prop} (hat : ClassAt s C cC) (G : CallFix p m c cc nL s args LW own) (hC : cSt V s) (hB : eB V ≤ s.heap.size) (h : cH V s H locs (F u0)) (hM : kR l y bytes maxL ret rm V F (.ref b :: As) u0 post ra mc ms)
    (w1 : Cond.methodLink own index y ∈ LW) (hv : kVp own y bytes maxL ret n) (hr : rm.cells = mc ∧ rm.slots = ms) (hR : rm.frames + 1 ≤ R.frames ∧ 8 + (maxL + 11) + rm.locals ≤ R.locals) (hrec : ∃ cell : Cell, H[b]? = some cell ∧ cell.vm.isStatics = false ∧ s.vm.findClass C = some cell.cls)
    (hn : As.length = n) (hst : st0 = As.reverse ++ .ref b :: rest) (hsz : ls.size = nL) (hro : (rest.map fun v => v.category).sum ≤ 8) (hd : decode cc pc = .ok (.invokespecial index, 3)) (hf : cells + mc ≤ R.cells ∧ slots + ms ≤ R.slots)
    (k : ∀ (u : τ) (H : Heap) (locs : List Loc), post u → cH V s H locs (F u) → W p l e R s m args below meth c H locs (cells + mc) (slots + ms) Q (F0 m (pc + 3) ls (.ref ra :: rest))) : W p l e R s m args below meth c H locs cells slots Q (F0 m pc ls st0) :=
  va_callr (va_runSU hat G hM (kP_cw G w1 hv hr hR) ⟨cPre.blind, hrec, cPre.of hC hB h⟩ rfl hn hsz hst (lv_room hro) hd hf) h.2.2 (fun _ _ h => h) (fun _ h => h)
    (fun u q t H1 locs1 ht _ hp hb _ _ hS => by
      obtain ⟨hq, hb⟩ := hb
      subst hq
      exact k u H1 locs1 hp (kBack ht hb hS))
theorem k_Vr {ra : Nat} {post : τ → Prop} (G : CallFix p m c cc nL s args LW own) (hC : cSt V s) (hB : eB V ≤ s.heap.size) (h : cH V s H locs (F u0)) (hM : kR l y bytes maxL ret rm V F (.ref b :: As) u0 post ra mc ms)
    (w1 : Cond.methodLink own index y ∈ LW) (hv : kV y bytes maxL ret n) (hr : rm.cells = mc ∧ rm.slots = ms) (hR : rm.frames + 1 ≤ R.frames ∧ 8 + (maxL + 11) + rm.locals ≤ R.locals) (hrec : ∃ cell : Cell, H[b]? = some cell ∧ cell.vm.isStatics = false ∧ s.vm.findClass y.cls = some cell.cls)
    (hn : As.length = n) (hst : st0 = As.reverse ++ .ref b :: rest) (hsz : ls.size = nL) (hro : (rest.map fun v => v.category).sum ≤ 8) (hd : decode cc pc = .ok (.invokevirtual index, 3)) (hf : cells + mc ≤ R.cells ∧ slots + ms ≤ R.slots)
    (k : ∀ (u : τ) (H : Heap) (locs : List Loc), post u → cH V s H locs (F u) → W p l e R s m args below meth c H locs (cells + mc) (slots + ms) Q (F0 m (pc + 3) ls (.ref ra :: rest))) : W p l e R s m args below meth c H locs cells slots Q (F0 m pc ls st0) :=
  va_callr (va_runV G hM (kV_cw G w1 hv hr hR) ⟨cPre.blind, hrec, cPre.of hC hB h⟩ rfl hn hsz hst (lv_room hro) hd hf) h.2.2 (fun _ _ h => h) (fun _ h => h)
    (fun u q t H1 locs1 ht _ hp hb _ _ hS => by
      obtain ⟨hq, hb⟩ := hb
      subst hq
      exact k u H1 locs1 hp (kBack ht hb hS))
theorem k_Sr {ra : Nat} {post : τ → Prop} (G : CallFix p m c cc nL s args LW own) (hC : cSt V s) (hB : eB V ≤ s.heap.size) (h : cH V s H locs (F u0)) (hM : kR l y bytes maxL ret rm V F As u0 post ra mc ms)
    (w1 : Cond.methodLink own index y ∈ LW) (hv : kSt y bytes maxL ret n) (hr : rm.cells = mc ∧ rm.slots = ms) (hR : rm.frames + 1 ≤ R.frames ∧ 8 + (maxL + 11) + rm.locals ≤ R.locals)
    (hn : As.length = n) (hst : st0 = As.reverse ++ rest) (hsz : ls.size = nL) (hro : (rest.map fun v => v.category).sum ≤ 8) (hd : decode cc pc = .ok (.invokestatic index, 3)) (hf : cells + mc ≤ R.cells ∧ slots + ms ≤ R.slots)
    (k : ∀ (u : τ) (H : Heap) (locs : List Loc), post u → cH V s H locs (F u) → W p l e R s m args below meth c H locs (cells + mc) (slots + ms) Q (F0 m (pc + 3) ls (.ref ra :: rest))) : W p l e R s m args below meth c H locs cells slots Q (F0 m pc ls st0) :=
  va_callr (va_runS G hM (kS_cw G w1 hv hr hR) ⟨cPre.blind, cPre.of hC hB h⟩ rfl hn hsz hst (lv_room hro) hd hf) h.2.2 (fun _ _ h => h) (fun _ h => h)
    (fun u q t H1 locs1 ht _ hp hb _ _ hS => by
      obtain ⟨hq, hb⟩ := hb
      subst hq
      exact k u H1 locs1 hp (kBack ht hb hS))
theorem kR_of {av : List Value} {post : τ → Prop} {ra mL : Nat} (hy : plainFor y = true) (hlen : (lg_sl av).length ≤ mL)
    (body : ∀ (p : Program) (e : Env) (s : State) (m : MethodId) (args : Array Value) (below : List Frame) (meth : Method) (c : Code), CallFix p m c cc mL s args LW y.cls → meth.sig.returnType = ret → meth.locks = false → cSt V s → eB V ≤ s.heap.size → cH V s s.heap [] (F u0) → ∀ ls : Array Slot, lv_has ls mL (lv_args 0 av) → ∀ Q : State → Prop, Q = MQ below (va_Qr post (fun u q t => q = ra ∧ cAt V (F u) t) (eA V)) args s mc ms (eA V) →
      W p l e rm s m args below meth c s.heap [] 0 0 Q (F0 m 0 ls [])) : kR l y cc mL ret rm V F av u0 post ra mc ms := by
  refine kMet (cc := cc) (maxL := mL) (ret := ret) hy rfl ?_
  intro p e s m args below meth c s₁ B hml hv
  obtain ⟨rfl, hC, hB, hP, hD⟩ := hv
  have hts := atoms_spec (ws := kWs y cc mL ret) B.pre
  rw [lg_entry_eq]
  exact body p e s m _ below meth c ⟨B.exec, B.bytes, hml, findClass_of_methodNamed B.named, fun w h => hts w (List.mem_cons_of_mem _ h)⟩ B.returns B.notSynchronized hC hB ⟨hP, hD, va_S.rf⟩ _ (lv_entry av hlen) _ rfl
theorem k_reta {post : τ → Prop} {u : τ} {ra : Nat} {nm : String} (hQ : Q = MQ below (va_Qr post (fun u q t => q = ra ∧ cAt V (F u) t) (eA V)) args s mc ms (eA V)) (G : CallFix p m c cc nL s args LW own) (hret : meth.sig.returnType = some (.object nm)) (hlocks : meth.locks = false) (h : cH V s H locs (F u)) (hp : post u) (hc : cells ≤ mc) (hs : slots ≤ ms) (hd : decode cc pc = .ok (.areturn, 1)) :
    W p l e R s m args below meth c H locs cells slots Q (F0 m pc ls [.ref ra]) :=
  hQ ▸ W.widen hc hs (W.aret (v := .ref ra) G.1 G.2.1 hret (Or.inl ⟨nm, rfl⟩) (Or.inr ⟨ra, rfl⟩) (fun t ht _ => ⟨⟨u, ra, rfl, hp, rfl, kAt ht h⟩, h.2.2.F ht⟩) h.2.2.2.2 hd)
theorem k_retc {post : Int32 → τ → Prop} {v : Int32} {u : τ} {ty : FieldType} (hQ : Q = MQ below (va_Qi post (fun u t => cAt V (F u) t) (eA V)) args s mc ms (eA V)) (G : CallFix p m c cc nL s args LW own) (hret : meth.sig.returnType = some ty) (hlocks : meth.locks = false) (h : cH V s H locs (F u)) (hv : narrow ty (.int v) = .int v) (hp : post v u) (hc : cells ≤ mc) (hs : slots ≤ ms) (hd : decode cc pc = .ok (.ireturn, 1)) :
    W p l e R s m args below meth c H locs cells slots Q (F0 m pc ls [.int v]) :=
  hQ ▸ W.widen hc hs (W.zret (v := v) G.1 G.2.1 hret hv (fun t ht _ => ⟨⟨v, u, rfl, hp, kAt ht h⟩, h.2.2.F ht⟩) h.2.2.2.2 hd)
end KC3
/-! letters and small numbers -/
theorem ch_all : ∀ c, c < 128 → nI c &&& nI 255 = nI c ∧ ((nI c).toUInt32 % 65536).toInt32 = nI c ∧ (nI c).toInt8.toInt32 = nI c ∧ vp_nar .byte (nI c) = nI c ∧ vp_nar .char (nI c) = nI c := by decide +kernel
theorem ch_255 {c : Nat} (h : c < 128) : nI c &&& nI 255 = nI c := (ch_all c h).1
theorem ch_i2c {c : Nat} (h : c < 128) : ((nI c).toUInt32 % 65536).toInt32 = nI c := (ch_all c h).2.1
theorem ch_i2b {c : Nat} (h : c < 128) : (nI c).toInt8.toInt32 = nI c := (ch_all c h).2.2.1
theorem ch_nb {c : Nat} (h : c < 128) : vp_nar .byte (nI c) = nI c := (ch_all c h).2.2.2.1
theorem ch_nc {c : Nat} (h : c < 128) : narrow .char (.int (nI c)) = .int (nI c) := by
  have h1 := (ch_all c h).2.2.2.2
  have h2 : ∃ y, narrow .char (.int (nI c)) = .int y := ⟨_, rfl⟩
  obtain ⟨y, h2⟩ := h2
  unfold vp_nar at h1
  rw [h2] at h1
  rw [h2]
  exact congrArg Value.int h1
theorem ch_fit {c : Nat} (h : c < 128) : fits .byte (.int (nI c)) = true := by
  have : ∀ c, c < 128 → fits .byte (.int (nI c)) = true := by decide +kernel
  exact this c h
theorem n_dec {q : Nat} (h : 0 < q) : nI q + (-1) = nI (q - 1) := by
  obtain ⟨k, rfl⟩ : ∃ k, q = k + 1 := ⟨q - 1, by omega⟩
  exact pk_m1 k
theorem n_nn (q : Nat) : -(-nI q) = nI q := Int32.neg_neg
/-- a builder holds a text -/
def sbR (x : kSb) (L : List Nat) : Prop := x.2.2.2.1 = L.length ∧ L.length ≤ x.2.1 ∧ x.2.1 ≤ 120 ∧ (∀ j, j < L.length → L.getD j 0 < 128 ∧ x.1 j = nI (L.getD j 0)) ∧ sb_Fit x.1
/-- the digits of a number below 1000 -/
def dgs (v : Nat) : List Nat := if v < 10 then [48 + v] else if v < 100 then [48 + v / 10, 48 + v % 10] else [48 + v / 100, 48 + v % 100 / 10, 48 + v % 100 % 10]
theorem dgs_len (v : Nat) : (dgs v).length ≤ 3 ∧ 0 < (dgs v).length := by
  unfold dgs
  split
  · simp
  · split <;> simp
/-- what getChars writes below place q -/
def gch (v q : Nat) (a : Nat → Int32) : Nat → Int32 :=
  if v < 10 then upd a (q - 1) (nI (48 + v % 10)) else if v < 100 then upd (upd a (q - 1) (nI (48 + v % 10))) (q - 1 - 1) (nI (48 + v / 10))
  else upd (upd (upd a (q - 1) (nI (48 + v % 100 % 10))) (q - 1 - 1) (nI (48 + v % 100 / 10))) (q - 1 - 1 - 1) (nI (48 + v / 100 % 10))
/-- the capacity that is asked for -/
def ncap (q cp : Nat) : Nat := cp + max (q - cp) (cp + 2)
theorem ncap_b {q cp : Nat} (h : cp < q) (hq : q ≤ 60) : q ≤ ncap q cp ∧ ncap q cp ≤ 120 ∧ cp < ncap q cp := by
  unfold ncap
  omega
/-! private methods of a class above the receiver's own -/
theorem kSelP {args : Array Value} {s : State} {C : String} {y y2 : MethodName} (hcls : y2.cls = y.cls) (hy : y.cls ≠ "java/lang/invoke/MethodHandle" ∧ y.cls ≠ "java/lang/invoke/VarHandle") (h2 : (Cond.selects C y2 y2).before args s = true) (hpriv : (Cond.privateMethod y).before args s = true) (hinst : (Cond.instanceMethod y).before args s = true) : (Cond.selects C y y).before args s = true := by
  obtain ⟨c, r, m2, hc, -, hm2, -, k2, hk2, hni⟩ := Cond.selects_spec h2
  obtain ⟨mk, methM, hnamed, hmethM, -, -⟩ := Cond.instanceMethod_spec hinst
  have hfound : s.methodFound? y.cls y.name y.desc = some mk := State.methodFound?_of_named hnamed hy
  have e1 := findClass_of_methodNamed hm2
  have e2 := findClass_of_methodNamed hnamed
  rw [hcls] at e1
  have hcls2 : m2.cls = mk.cls := Option.some.inj (e1.symm.trans e2)
  rw [hcls2] at hk2
  have hsel : selectMethod {} s.vm c mk = .method mk := selectMethod_private hmethM (Cond.privateMethod_at hpriv mk methM hnamed hmethM)
  simp only [Cond.before, Cond.holds, Cond.value, hc, hfound, hnamed, hsel, hk2]
  simp; exact hni
def kVw (y : MethodName) (bytes : ByteArray) (maxL : Nat) (ret : Option FieldType) (n : Nat) : Prop := Cond.sameMethod y.cls y.cls y.name y.desc ∈ LW ∧ y ∈ kSl ∧ Cond.instanceMethod y ∈ LW ∧ Cond.initialized y.cls ∈ LW ∧ Cond.code y bytes maxL ret ∈ LW ∧ (y.cls ≠ "java/lang/invoke/MethodHandle" ∧ y.cls ≠ "java/lang/invoke/VarHandle" ∧ (parseMethodDescriptor y.desc).map (fun d => d.parameters.length) = some n)
section KC4
variable {p : Program} {l : Launch} {e : Env} {R : Room} {s : State} {m : MethodId} {args : Array Value} {below : List Frame} {meth : Method} {c : Code} {H : Heap} {locs : List Loc} {cells slots : Nat} {Q : State → Prop}
variable {cc bytes : ByteArray} {pc nL index maxL mc ms n b : Nat} {ls : Array Slot} {rest st0 As : List Value} {own : String} {V : kEnv} {y : MethodName} {ret : Option FieldType} {rm : Room} {τ : Type} {F : τ → va_W} {u0 : τ}
theorem kW_cw (G : CallFix p m c cc nL s args LW own) (hC : cSt V s) (w1 : Cond.methodLink own index y ∈ LW) (hv : kVw y bytes maxL ret n) (hr : rm.cells = mc ∧ rm.slots = ms) (hR : rm.frames + 1 ≤ R.frames ∧ 8 + (maxL + 11) + rm.locals ≤ R.locals) : va_CU R s args own RJ4 y.cls index y y bytes maxL ret (kWs y bytes maxL ret) rm mc ms n := by
  obtain ⟨w2, w3, w6, w7, w8, hd⟩ := hv
  refine ⟨⟨hr.1, hr.2, hR.1, hR.2, pay_in G.2.2.2.2 (lwGc w8), List.mem_cons_self⟩, G.2.2.2.2 _ w8, G.2.2.2.2 _ w7, ⟨hd.1, hd.2.1⟩, fun sig h => ?_, G.2.2.2.2 _ w1, G.2.2.2.2 _ w2, va_Decl.of (G.2.2.2.2 _ w6) (G.2.2.2.2 _ w8), hC.2.2.2.2.2.2.1.2.2.2.2.2.2.1 y w3, G.2.2.2.2 _ w6⟩
  have h2 := hd.2.2
  rw [h] at h2
  exact (Option.some.inj h2).symm
theorem k_Wi {post : Int32 → τ → Prop} (G : CallFix p m c cc nL s args LW own) (hC : cSt V s) (hB : eB V ≤ s.heap.size) (h : cH V s H locs (F u0)) (hM : kI l y bytes maxL ret rm V F (.ref b :: As) u0 post mc ms)
    (w1 : Cond.methodLink own index y ∈ LW) (hv : kVw y bytes maxL ret n) (hr : rm.cells = mc ∧ rm.slots = ms) (hR : rm.frames + 1 ≤ R.frames ∧ 8 + (maxL + 11) + rm.locals ≤ R.locals) (hrec : ∃ cell : Cell, H[b]? = some cell ∧ cell.vm.isStatics = false ∧ s.vm.findClass RJ4 = some cell.cls)
    (hn : As.length = n) (hst : st0 = As.reverse ++ .ref b :: rest) (hsz : ls.size = nL) (hro : (rest.map fun v => v.category).sum ≤ 8) (hd : decode cc pc = .ok (.invokevirtual index, 3)) (hf : cells + mc ≤ R.cells ∧ slots + ms ≤ R.slots)
    (k : ∀ (r : Int32) (u : τ) (H : Heap) (locs : List Loc), post r u → cH V s H locs (F u) → W p l e R s m args below meth c H locs (cells + mc) (slots + ms) Q (F0 m (pc + 3) ls (.int r :: rest))) : W p l e R s m args below meth c H locs cells slots Q (F0 m pc ls st0) :=
  va_calli (va_runU G hM (kW_cw G hC w1 hv hr hR) ⟨cPre.blind, hrec, cPre.of hC hB h⟩ rfl hn hsz hst (lv_room hro) hd hf) h.2.2 (fun _ _ h => h) (fun _ h => h)
    (fun r u t H1 locs1 ht _ hp hb _ _ hS => k r u H1 locs1 hp (kBack ht hb hS))
theorem k_Wv {post : τ → Prop} (G : CallFix p m c cc nL s args LW own) (hC : cSt V s) (hB : eB V ≤ s.heap.size) (h : cH V s H locs (F u0)) (hM : kU l y bytes maxL rm V F (.ref b :: As) u0 post mc ms)
    (w1 : Cond.methodLink own index y ∈ LW) (hv : kVw y bytes maxL none n) (hr : rm.cells = mc ∧ rm.slots = ms) (hR : rm.frames + 1 ≤ R.frames ∧ 8 + (maxL + 11) + rm.locals ≤ R.locals) (hrec : ∃ cell : Cell, H[b]? = some cell ∧ cell.vm.isStatics = false ∧ s.vm.findClass RJ4 = some cell.cls)
    (hn : As.length = n) (hst : st0 = As.reverse ++ .ref b :: rest) (hsz : ls.size = nL) (hro : (rest.map fun v => v.category).sum ≤ 8) (hd : decode cc pc = .ok (.invokevirtual index, 3)) (hf : cells + mc ≤ R.cells ∧ slots + ms ≤ R.slots)
    (k : ∀ (u : τ) (H : Heap) (locs : List Loc), post u → cH V s H locs (F u) → W p l e R s m args below meth c H locs (cells + mc) (slots + ms) Q (F0 m (pc + 3) ls rest)) : W p l e R s m args below meth c H locs cells slots Q (F0 m pc ls st0) :=
  va_callv (va_runU G hM (kW_cw G hC w1 hv hr hR) ⟨cPre.blind, hrec, cPre.of hC hB h⟩ rfl hn hsz hst (lv_room hro) hd hf) h.2.2 (fun _ _ h => h) (fun _ h => h)
    (fun u t H1 locs1 ht _ hp hb _ _ hS => k u H1 locs1 hp (kBack ht hb hS))
end KC4
