/-! THE START: the constructors' cells, in the order of both worlds; class and reference side by side. -/
def eX9 (x : Nat → Nat → Nat) (a X0 mo : Nat → Nat) (i : Nat) : Nat := if i < 96 then x (i / 8) (i % 8) else if i < 200 then a (i - 96) else if i < 500 then X0 i else mo (i - 500)
def V9 (V : kEnv) (x : Nat → Nat → Nat) (a mo : Nat → Nat) : kEnv := (eD V, eC V, eX9 x a (eX V) mo, eA V, eB V)
def bx9 (x0 x1 x2 x3 : Nat → Nat) (xh : Nat → Nat → Nat) : Nat → Nat → Nat
  | 0 => x0
  | 1 => x1
  | 2 => x2
  | 3 => x3
  | k + 4 => xh k
def ax9 (b hq qa tq cq t1 t2 t3 lq ts : Nat) : Nat → Nat
  | 0 => b
  | 1 => hq
  | 2 => qa
  | 3 => tq
  | 4 => cq
  | 5 => t1
  | 6 => t2
  | 7 => t3
  | 8 => lq
  | _ => ts
def mo9 (mb q0 q1 q2 q3 q4 q5 q6 q7 q8 o od : Nat) : Nat → Nat
  | 0 => mb
  | 1 => q0
  | 2 => q1
  | 3 => q2
  | 4 => q3
  | 5 => q4
  | 6 => q5
  | 7 => q6
  | 8 => q7
  | 9 => q8
  | 100 => o
  | _ => od
def S0n : Nat → Int32
  | 1 => -1
  | 2 => -1
  | _ => 0
def S0u (lb tb : Nat) : Nat → kSb
  | 0 => (fun _ => 0, 16, lb, 0, 0)
  | _ => (fun _ => 0, 16, tb, 0, 0)
def S00 (lb tb : Nat) : kCs := (fun _ => B0, S0n, fun _ _ => 0, S0u lb tb)
def M0n : Nat → Int32
  | 5 => -1
  | 6 => -1
  | _ => 0
def M00 : kMs := (M0n, fun _ _ => 0)
theorem nI_z0 : nI 0 = 0 := by decide
theorem nI_o0 : (nI 1 - 1 : Int32) = 0 := by decide
theorem nI_m : (-1 : Int32) = nI 0 - 1 := by decide
theorem bA_0 : bA B0 := by
  have h0 : ∀ c k, B0.1 c k = 0 := fun _ _ => rfl
  have h1 : ∀ f, B0.2 f = 0 := fun _ => rfl
  refine ⟨⟨⟨fun c k => ?_, fun f => ?_⟩, ⟨fun _ _ _ => rfl, fun _ _ => rfl⟩, ?_, ?_, ?_, ?_, ?_, ?_, fun k => ?_, fun k => ?_, fun d => ?_, fun z => ?_, fun k => ?_⟩, fun d d' _ _ z => ?_, fun _ _ => rfl, fun d hd => ?_, fun k j z => ?_, fun k z => ?_, fun k => ?_, fun z => ?_, ⟨fun _ => 0, fun k j z => ?_⟩⟩
  · rw [h0]; decide
  · rw [h1]; decide
  · rw [h1]; decide
  · rw [h1]; decide
  · rw [h1]; decide
  · rw [h1, h1]; decide
  · rw [h1]; decide
  · rw [h1]; decide
  · rw [h0, h0]; decide
  · rw [h0]; decide
  · rw [h0]; exact Nat.zero_le _
  · exact absurd (h1 3) z
  · rw [h0]; decide
  · exact absurd (h0 4 d) z
  · rw [h1] at hd; exact absurd hd (Nat.not_lt_zero _)
  · rw [h0, Nat.zero_testBit] at z; exact absurd z Bool.false_ne_true
  · rw [h1, Nat.zero_testBit] at z; exact absurd z Bool.false_ne_true
  · rw [h0]; decide
  · exact absurd (h1 3) z
  · rw [h0, Nat.zero_testBit] at z; exact absurd z Bool.false_ne_true
theorem gOf_0 (j : Nat) : gOf B0 j = 0 := by
  have h0 : ∀ c k, B0.1 c k = 0 := fun _ _ => rfl
  have h1 : ∀ f, B0.2 f = 0 := fun _ => rfl
  unfold gOf
  split
  · rw [h1]; exact nI_z0
  · split
    · rw [if_neg (by rw [h1]; exact Nat.not_lt_zero _)]
    · split
      · rw [if_neg (by rw [h1]; exact Nat.not_lt_zero _)]
      · split
        · rw [h0]; exact nI_z0
        · split
          · rw [h0]; exact nI_z0
          · rfl
theorem sbR_0 (q : Nat) : sbR (fun _ => 0, 16, q, 0, 0) [] := ⟨rfl, Nat.zero_le _, show 16 ≤ 120 by decide, fun j hj => absurd hj (Nat.not_lt_zero _), fun j => show fits FieldType.byte (Value.int 0) = true by decide⟩
/-- side by side at the start -/
theorem rel_00 (lb tb : Nat) : rel 0 (S00 lb tb) M00 := by
  refine ⟨B0, 0, 0, [], [], 0, 0, 0, rfl, bA_0, funext fun j => (gOf_0 j).symm, ⟨nI_z0.symm, nI_z0.symm, Nat.le_refl _, by decide, Nat.le_refl _, nI_z0.symm, fun i hi => absurd hi (Nat.not_lt_zero _)⟩, ⟨nI_z0.symm, nI_z0.symm, by decide, fun z => absurd rfl z, fun _ _ => rfl, fun _ _ => rfl⟩, ⟨sbR_0 lb, by decide, nI_z0.symm, fun _ => 0, fun j => ⟨nI_z0.symm, show 0 < 128 by decide⟩, fun j hj => absurd hj (Nat.not_lt_zero _)⟩, ⟨sbR_0 tb, by decide, nI_z0.symm, fun j hj => absurd hj (Nat.not_lt_zero _)⟩, ⟨nI_m, nI_m, by decide, nI_m, nI_m, by decide⟩, ⟨fun b _ => ⟨fun _ _ _ => rfl, fun _ _ => rfl⟩, nI_z0.symm, ⟨fun _ => 0, funext fun _ => nI_z0.symm⟩, ⟨fun _ => 1, funext fun _ => nI_o0.symm⟩, ⟨0, nI_z0.symm⟩, ⟨0, nI_z0.symm⟩, fun i _ => ⟨0, by decide, nI_z0.symm⟩, fun i _ => ⟨0, by decide, nI_z0.symm⟩, fun i _ => ⟨0, by decide, nI_z0.symm⟩⟩⟩
/-- the blocks of cells: boards, then the others one by one -/
def blk9 (V : kEnv) (b : Nat) (x0 x1 x2 x3 : Nat → Nat) (hq qa : Nat) (xh : Nat → Nat → Nat) (tq t1 t2 t3 ts tb lq lb cq : Nat) (hf : Nat → Option Nat) (mw : va_W) (o od : Nat) : Nat → va_W
  | 0 => bBk V x0 B0
  | 1 => bBk V x1 B0
  | 2 => bBk V x2 B0
  | 3 => bBk V x3 B0
  | 4 => bBk V (xh 0) B0
  | 5 => bBk V (xh 1) B0
  | 6 => bBk V (xh 2) B0
  | 7 => bBk V (xh 3) B0
  | 8 => bBk V (xh 4) B0
  | 9 => bBk V (xh 5) B0
  | 10 => bBk V (xh 6) B0
  | 11 => bBk V (xh 7) B0
  | 12 => [(b, (.inr (7, [.ref (x0 0), .ref (x1 0), .ref (x2 0), .ref (x3 0), .ref hq, .ref tq, .ref lq, .ref cq, .int 0, .int (-1), .int (-1)]) : va_E))]
  | 13 => [(hq, .inr (6, [.ref qa, .int 0, .int 0]))]
  | 14 => [(qa, .inl (eC V 2, 8, .inr (.inr (.inr (.inr hf)))))]
  | 15 => [(tq, .inr (5, [.ref t1, .ref t2, .ref t3, .int 0, .ref ts, .int 0]))]
  | 16 => [(cq, .inl (eC V 0, 16, .inl (fun _ => 0)))]
  | 17 => [(t1, .inl (eC V 0, 60, .inl (fun _ => 0)))]
  | 18 => [(t2, .inl (eC V 0, 60, .inl (fun _ => 0)))]
  | 19 => [(t3, .inl (eC V 0, 60, .inl (fun _ => 0)))]
  | 20 => [(lq, .inr (1, [.ref lb, .int 0, .int 0, .int 0]))]
  | 21 => [(ts, .inr (1, [.ref tb, .int 0, .int 0, .int 0]))]
  | 22 => [(lb, .inl (eC V 1, 16, .inl (fun _ => 0)))]
  | 23 => [(tb, .inl (eC V 1, 16, .inl (fun _ => 0)))]
  | 24 => mw
  | 25 => [(o, .inl (eC V 4, 1, .inr (.inl (fun _ => 0))))]
  | _ => [(od, .inl (eC V 5, 1, .inr (.inr (.inr (.inl (fun _ => 0))))))]
def ord0 : List Nat := [24, 12, 20, 22, 15, 21, 23, 17, 18, 19, 13, 14, 11, 10, 9, 8, 7, 6, 5, 4, 3, 2, 1, 0, 16, 25, 26]
def ord1 : List Nat := [0, 1, 2, 3, 4, 5, 6, 7, 8, 9, 10, 11, 12, 13, 14, 15, 16, 17, 18, 19, 20, 21, 22, 23, 24, 25, 26]
theorem ord_p : ord0.Perm ord1 := by decide
theorem range_108 : List.range 108 = (List.range 12).flatMap (fun k => (List.range 8).map (fun c => 8 * k + c)) ++ (List.range 12).map (fun i => 96 + i) := by decide +kernel
section ST
variable {s : State} {H : Heap} {locs : List Loc} {V : kEnv}
variable {b : Nat} {x0 x1 x2 x3 : Nat → Nat} {hq qa : Nat} {xh : Nat → Nat → Nat} {tq t1 t2 t3 ts tb lq lb cq mb q0 q1 q2 q3 q4 q5 q6 q7 q8 o od : Nat} {mw : va_W} {hf : Nat → Option Nat}
set_option maxRecDepth 100000 in
theorem cH_ord (hhf : ∀ j, j < 8 → hf j = some (xh j 0)) (h : cH V s H locs (((mw ++ sBk V b x0 x1 x2 x3 hq qa xh tq t1 t2 t3 ts tb lq lb cq) ++ [(o, (.inl (eC V 4, 1, .inr (.inl (fun _ => 0))) : va_E))]) ++ [(od, (.inl (eC V 5, 1, .inr (.inr (.inr (.inl (fun _ => 0))))) : va_E))])) :
    cH V s H locs (ord1.flatMap (blk9 V b x0 x1 x2 x3 hq qa xh tq t1 t2 t3 ts tb lq lb cq hf mw o od)) := by
  refine cH_perm (List.Perm.flatMap_right _ ord_p) ?_
  have e : ord0.flatMap (blk9 V b x0 x1 x2 x3 hq qa xh tq t1 t2 t3 ts tb lq lb cq hf mw o od) = (mw ++ ((b, (.inr (7, [.ref (x0 0), .ref (x1 0), .ref (x2 0), .ref (x3 0), .ref hq, .ref tq, .ref lq, .ref cq, .int 0, .int (-1), .int (-1)]) : va_E)) :: (uBk V lq lb ++ (tBk V tq t1 t2 t3 ts tb ++ [(hq, .inr (6, [.ref qa, .int 0, .int 0]))])))) ++ (qa, (.inl (eC V 2, 8, .inr (.inr (.inr (.inr hf)))) : va_E)) :: (hBs V xh 8 ++ (bBk V x3 B0 ++ (bBk V x2 B0 ++ (bBk V x1 B0 ++ (bBk V x0 B0 ++ [(cq, (.inl (eC V 0, 16, .inl (fun _ => 0)) : va_E)), (o, (.inl (eC V 4, 1, .inr (.inl (fun _ => 0))) : va_E)), (od, (.inl (eC V 5, 1, .inr (.inr (.inr (.inl (fun _ => 0))))) : va_E))]))))) := by
    rw [List.append_assoc]
    rfl
  rw [e]
  refine cH_arr (x0 := (8, .inr (.inr (.inr (.inr (hAr xh 8)))))) (arr_q fun j hj => (if_pos hj).trans (hhf j hj).symm) ?_
  have e2 : ((mw ++ sBk V b x0 x1 x2 x3 hq qa xh tq t1 t2 t3 ts tb lq lb cq) ++ [(o, (.inl (eC V 4, 1, .inr (.inl (fun _ => 0))) : va_E))]) ++ [(od, (.inl (eC V 5, 1, .inr (.inr (.inr (.inl (fun _ => 0))))) : va_E))] = (mw ++ ((b, (.inr (7, [.ref (x0 0), .ref (x1 0), .ref (x2 0), .ref (x3 0), .ref hq, .ref tq, .ref lq, .ref cq, .int 0, .int (-1), .int (-1)]) : va_E)) :: (uBk V lq lb ++ (tBk V tq t1 t2 t3 ts tb ++ [(hq, .inr (6, [.ref qa, .int 0, .int 0]))])))) ++ (qa, (.inl (eC V 2, 8, .inr (.inr (.inr (.inr (hAr xh 8))))) : va_E)) :: (hBs V xh 8 ++ (bBk V x3 B0 ++ (bBk V x2 B0 ++ (bBk V x1 B0 ++ (bBk V x0 B0 ++ [(cq, (.inl (eC V 0, 16, .inl (fun _ => 0)) : va_E)), (o, (.inl (eC V 4, 1, .inr (.inl (fun _ => 0))) : va_E)), (od, (.inl (eC V 5, 1, .inr (.inr (.inr (.inl (fun _ => 0))))) : va_E))]))))) := by
    rw [List.append_assoc, List.append_assoc, List.append_assoc]
    rfl
  rw [← e2]
  exact h
theorem bCs_eq (V : kEnv) (S : kCs) (x : Nat → Nat → Nat) (a X0 mo : Nat → Nat) (hX : eX V = eX9 x a X0 mo) (hS : ∀ k, S.1 k = B0) {k : Nat} (hk : k < 12) : ((List.range 8).map (fun c => 8 * k + c)).map (fun i => (cAdr V S i, cCel V S i)) = bBk V (x k) B0 := by
  have hx : ∀ c, c < 8 → eX V (8 * k + c) = x k c := by
    intro c hc
    rw [hX]
    unfold eX9
    rw [if_pos (by omega), show (8 * k + c) / 8 = k by omega, show (8 * k + c) % 8 = c by omega]
  have hc : ∀ c, c < 8 → (cAdr V S (8 * k + c), cCel V S (8 * k + c)) = (x k c, bCel V k B0 c) := by
    intro c hc
    rw [cAdr_b V S (by omega), cCel_b V S hk hc, hx c hc, hS]
  show [(cAdr V S (8 * k + 0), cCel V S (8 * k + 0)), (cAdr V S (8 * k + 1), cCel V S (8 * k + 1)), (cAdr V S (8 * k + 2), cCel V S (8 * k + 2)), (cAdr V S (8 * k + 3), cCel V S (8 * k + 3)), (cAdr V S (8 * k + 4), cCel V S (8 * k + 4)), (cAdr V S (8 * k + 5), cCel V S (8 * k + 5)), (cAdr V S (8 * k + 6), cCel V S (8 * k + 6)), (cAdr V S (8 * k + 7), cCel V S (8 * k + 7))] = _
  rw [hc 0 (by decide), hc 1 (by decide), hc 2 (by decide), hc 3 (by decide), hc 4 (by decide), hc 5 (by decide), hc 6 (by decide), hc 7 (by decide)]
  show [(x k 0, bCel V k B0 0), (x k 1, bArr V B0 0), (x k 2, bArr V B0 1), (x k 3, bArr V B0 2), (x k 4, bArr V B0 3), (x k 5, bArr V B0 4), (x k 6, bArr V B0 5), (x k 7, bArr V B0 6)] = _
  unfold bCel bFl bBk
  rw [hx 1 (by decide), hx 2 (by decide), hx 3 (by decide), hx 4 (by decide), hx 5 (by decide), hx 6 (by decide), hx 7 (by decide)]
theorem fm_eq {f g : Nat → va_W} {L : List Nat} (h : ∀ k, k ∈ L → f k = g k) : L.flatMap f = L.flatMap g := by
  induction L with
  | nil => rfl
  | cons x L ih =>
    rw [List.flatMap_cons, List.flatMap_cons, h x List.mem_cons_self, ih (fun k hk => h k (List.mem_cons_of_mem _ hk))]
theorem cWs_fm (V : kEnv) (S : kCs) (x : Nat → Nat → Nat) (a X0 mo : Nat → Nat) (hX : eX V = eX9 x a X0 mo) (hS : ∀ k, S.1 k = B0) : cWs V S = (List.range 12).flatMap (fun k => bBk V (x k) B0) ++ ((List.range 12).map (fun i => 96 + i)).map (fun i => (cAdr V S i, cCel V S i)) := by
  unfold cWs
  rw [range_108, List.map_append, List.map_flatMap, fm_eq (fun k hk => bCs_eq V S x a X0 mo hX hS (List.mem_range.mp hk))]
section R9
variable {W : kEnv}
set_option maxRecDepth 100000 in
theorem r9_1 (hc : eC W = eC V) (h1 : ∀ i, i < 96 → eX W i = bx9 x0 x1 x2 x3 xh (i / 8) (i % 8)) (h2 : ∀ i, i < 100 → eX W (96 + i) = ax9 b hq qa tq cq t1 t2 t3 lq ts i) : ((List.range 12).map (fun i => 96 + i)).map (fun i => (cAdr W (S00 lb tb) i, cCel W (S00 lb tb) i)) = ([12, 13, 14, 15, 16, 17, 18, 19, 20, 21, 22, 23] : List Nat).flatMap (blk9 V b x0 x1 x2 x3 hq qa xh tq t1 t2 t3 ts tb lq lb cq (fun j => some (eX W (8 * (4 + j)))) mw o od) := by
  have a0 := h2 0 (by decide)
  have a1 := h2 1 (by decide)
  have a2 := h2 2 (by decide)
  have a3 := h2 3 (by decide)
  have a4 := h2 4 (by decide)
  have a5 := h2 5 (by decide)
  have a6 := h2 6 (by decide)
  have a7 := h2 7 (by decide)
  have a8 := h2 8 (by decide)
  have a9 := h2 9 (by decide)
  have c0 : (eX W (96 + 0), fCel W (S00 lb tb) 0) = (b, (.inr (7, [.ref (x0 0), .ref (x1 0), .ref (x2 0), .ref (x3 0), .ref hq, .ref tq, .ref lq, .ref cq, .int 0, .int (-1), .int (-1)]) : va_E)) := by
    show (eX W (96 + 0), (.inr (7, [.ref (eX W 0), .ref (eX W 8), .ref (eX W 16), .ref (eX W 24), .ref (eX W (96 + 1)), .ref (eX W (96 + 3)), .ref (eX W (96 + 8)), .ref (eX W (96 + 4)), .int 0, .int (-1), .int (-1)]) : va_E)) = _
    rw [a0, a1, a3, a8, a4, h1 0 (by decide), h1 8 (by decide), h1 16 (by decide), h1 24 (by decide)]
    rfl
  have c1 : (eX W (96 + 1), fCel W (S00 lb tb) 1) = (hq, (.inr (6, [.ref qa, .int 0, .int 0]) : va_E)) := by
    show (eX W (96 + 1), (.inr (6, [.ref (eX W (96 + 2)), .int 0, .int 0]) : va_E)) = _
    rw [a1, a2]; rfl
  have c2 : (eX W (96 + 2), fCel W (S00 lb tb) 2) = (qa, (.inl (eC V 2, 8, .inr (.inr (.inr (.inr (fun j => some (eX W (8 * (4 + j)))))))) : va_E)) := by
    show (eX W (96 + 2), (.inl (eC W 2, 8, .inr (.inr (.inr (.inr (fun j => some (eX W (8 * (4 + j)))))))) : va_E)) = _
    rw [a2, hc]; rfl
  have c3 : (eX W (96 + 3), fCel W (S00 lb tb) 3) = (tq, (.inr (5, [.ref t1, .ref t2, .ref t3, .int 0, .ref ts, .int 0]) : va_E)) := by
    show (eX W (96 + 3), (.inr (5, [.ref (eX W (96 + 5)), .ref (eX W (96 + 6)), .ref (eX W (96 + 7)), .int 0, .ref (eX W (96 + 9)), .int 0]) : va_E)) = _
    rw [a3, a5, a6, a7, a9]; rfl
  have c4 : (eX W (96 + 4), fCel W (S00 lb tb) 4) = (cq, (.inl (eC V 0, 16, .inl (fun _ => 0)) : va_E)) := by
    show (eX W (96 + 4), (.inl (eC W 0, 16, .inl (fun _ => 0)) : va_E)) = _
    rw [a4, hc]; rfl
  have c5 : (eX W (96 + 5), fCel W (S00 lb tb) 5) = (t1, (.inl (eC V 0, 60, .inl (fun _ => 0)) : va_E)) := by
    show (eX W (96 + 5), (.inl (eC W 0, 60, .inl (fun _ => 0)) : va_E)) = _
    rw [a5, hc]; rfl
  have c6 : (eX W (96 + 6), fCel W (S00 lb tb) 6) = (t2, (.inl (eC V 0, 60, .inl (fun _ => 0)) : va_E)) := by
    show (eX W (96 + 6), (.inl (eC W 0, 60, .inl (fun _ => 0)) : va_E)) = _
    rw [a6, hc]; rfl
  have c7 : (eX W (96 + 7), fCel W (S00 lb tb) 7) = (t3, (.inl (eC V 0, 60, .inl (fun _ => 0)) : va_E)) := by
    show (eX W (96 + 7), (.inl (eC W 0, 60, .inl (fun _ => 0)) : va_E)) = _
    rw [a7, hc]; rfl
  have c8 : (eX W (96 + 8), fCel W (S00 lb tb) 8) = (lq, (.inr (1, [.ref lb, .int 0, .int 0, .int 0]) : va_E)) := by
    show (eX W (96 + 8), (.inr (1, [.ref lb, .int 0, .int 0, .int 0]) : va_E)) = _
    rw [a8]; rfl
  have c9 : (eX W (96 + 9), fCel W (S00 lb tb) 9) = (ts, (.inr (1, [.ref tb, .int 0, .int 0, .int 0]) : va_E)) := by
    show (eX W (96 + 9), (.inr (1, [.ref tb, .int 0, .int 0, .int 0]) : va_E)) = _
    rw [a9]; rfl
  have cA : (lb, fCel W (S00 lb tb) 10) = (lb, (.inl (eC V 1, 16, .inl (fun _ => 0)) : va_E)) := by
    show (lb, (.inl (eC W 1, 16, .inl (fun _ => 0)) : va_E)) = _
    rw [hc]
  have cB : (tb, fCel W (S00 lb tb) 11) = (tb, (.inl (eC V 1, 16, .inl (fun _ => 0)) : va_E)) := by
    show (tb, (.inl (eC W 1, 16, .inl (fun _ => 0)) : va_E)) = _
    rw [hc]
  show [(eX W (96 + 0), fCel W (S00 lb tb) 0), (eX W (96 + 1), fCel W (S00 lb tb) 1), (eX W (96 + 2), fCel W (S00 lb tb) 2), (eX W (96 + 3), fCel W (S00 lb tb) 3), (eX W (96 + 4), fCel W (S00 lb tb) 4), (eX W (96 + 5), fCel W (S00 lb tb) 5), (eX W (96 + 6), fCel W (S00 lb tb) 6), (eX W (96 + 7), fCel W (S00 lb tb) 7), (eX W (96 + 8), fCel W (S00 lb tb) 8), (eX W (96 + 9), fCel W (S00 lb tb) 9), (lb, fCel W (S00 lb tb) 10), (tb, fCel W (S00 lb tb) 11)] = _
  rw [c0, c1, c2, c3, c4, c5, c6, c7, c8, c9, cA, cB]
  rfl
set_option maxRecDepth 100000 in
theorem r9_2 (hc : eC W = eC V) (h3 : ∀ i, eX W (500 + i) = mo9 mb q0 q1 q2 q3 q4 q5 q6 q7 q8 o od i) : mWs W M00 ++ (oC W (fun _ => 0) ++ dC W (fun _ => 0)) = ([24, 25, 26] : List Nat).flatMap (blk9 V b x0 x1 x2 x3 hq qa xh tq t1 t2 t3 ts tb lq lb cq hf (mBk V mb q0 q1 q2 q3 q4 q5 q6 q7 q8) o od) := by
  show [(eX W (500 + 0), (.inr (8, [.ref (eX W (500 + 1)), .ref (eX W (500 + 2)), .ref (eX W (500 + 3)), .ref (eX W (500 + 4)), .int 0, .int 0, .int 0, .int 0, .ref (eX W (500 + 5)), .int 0, .int (-1), .int (-1), .ref (eX W (500 + 6)), .int 0, .ref (eX W (500 + 7)), .ref (eX W (500 + 8)), .int 0, .ref (eX W (500 + 9)), .int 0]) : va_E)), (eX W (500 + 1), (.inl (eC W 0, 115, .inl (fun _ => 0)) : va_E)), (eX W (500 + 2), (.inl (eC W 0, 920, .inl (fun _ => 0)) : va_E)), (eX W (500 + 3), (.inl (eC W 0, 115, .inl (fun _ => 0)) : va_E)), (eX W (500 + 4), (.inl (eC W 0, 115, .inl (fun _ => 0)) : va_E)), (eX W (500 + 5), (.inl (eC W 0, 60, .inl (fun _ => 0)) : va_E)), (eX W (500 + 6), (.inl (eC W 3, 60, .inl (fun _ => 0)) : va_E)), (eX W (500 + 7), (.inl (eC W 0, 16, .inl (fun _ => 0)) : va_E)), (eX W (500 + 8), (.inl (eC W 0, 16, .inl (fun _ => 0)) : va_E)), (eX W (500 + 9), (.inl (eC W 0, 124, .inl (fun _ => 0)) : va_E)), (eX W (500 + 100), (.inl (eC W 4, 1, .inr (.inl (fun _ => 0))) : va_E)), (eX W (500 + 101), (.inl (eC W 5, 1, .inr (.inr (.inr (.inl (fun _ => 0))))) : va_E))] = _
  rw [h3 0, h3 1, h3 2, h3 3, h3 4, h3 5, h3 6, h3 7, h3 8, h3 9, h3 100, h3 101, hc]
  rfl
end R9
theorem blk_b {k : Nat} (hk : k < 12) : bBk V (bx9 x0 x1 x2 x3 xh k) B0 = blk9 V b x0 x1 x2 x3 hq qa xh tq t1 t2 t3 ts tb lq lb cq hf mw o od k := by
  match k, hk with
  | 0, _ => rfl
  | 1, _ => rfl
  | 2, _ => rfl
  | 3, _ => rfl
  | 4, _ => rfl
  | 5, _ => rfl
  | 6, _ => rfl
  | 7, _ => rfl
  | 8, _ => rfl
  | 9, _ => rfl
  | 10, _ => rfl
  | 11, _ => rfl
theorem bBk_c {W : kEnv} (hc : eC W = eC V) (x : Nat → Nat) : bBk W x B0 = bBk V x B0 := by
  unfold bBk bArr
  rw [hc]
theorem cH_start (h : cH V s H locs (((mBk V mb q0 q1 q2 q3 q4 q5 q6 q7 q8 ++ sBk V b x0 x1 x2 x3 hq qa xh tq t1 t2 t3 ts tb lq lb cq) ++ [(o, (.inl (eC V 4, 1, .inr (.inl (fun _ => 0))) : va_E))]) ++ [(od, (.inl (eC V 5, 1, .inr (.inr (.inr (.inl (fun _ => 0))))) : va_E))])) {W : kEnv} (hW : W = V9 V (bx9 x0 x1 x2 x3 xh) (ax9 b hq qa tq cq t1 t2 t3 lq ts) (mo9 mb q0 q1 q2 q3 q4 q5 q6 q7 q8 o od)) :
    cH W s H locs (cWs W (S00 lb tb) ++ (mWs W M00 ++ (oC W (fun _ => 0) ++ dC W (fun _ => 0)))) := by
  have hX : eX W = eX9 (bx9 x0 x1 x2 x3 xh) (ax9 b hq qa tq cq t1 t2 t3 lq ts) (eX V) (mo9 mb q0 q1 q2 q3 q4 q5 q6 q7 q8 o od) := by rw [hW]; rfl
  have hc : eC W = eC V := by rw [hW]; rfl
  have h1 : ∀ i, i < 96 → eX W i = bx9 x0 x1 x2 x3 xh (i / 8) (i % 8) := fun i hi => by rw [hX]; exact if_pos hi
  have h2 : ∀ i, i < 100 → eX W (96 + i) = ax9 b hq qa tq cq t1 t2 t3 lq ts i := fun i hi => by
    rw [hX]; unfold eX9; rw [if_neg (by omega), if_pos (by omega), show 96 + i - 96 = i by omega]
  have h3 : ∀ i, eX W (500 + i) = mo9 mb q0 q1 q2 q3 q4 q5 q6 q7 q8 o od i := fun i => by
    rw [hX]; unfold eX9; rw [if_neg (by omega), if_neg (by omega), if_neg (by omega), show 500 + i - 500 = i by omega]
  have h9 := cH_ord (hf := fun j => some (eX W (8 * (4 + j)))) (fun j hj => by
    rw [h1 _ (by omega), show 8 * (4 + j) / 8 = j + 4 by omega, show 8 * (4 + j) % 8 = 0 by omega]
    rfl) h
  have e : cWs W (S00 lb tb) ++ (mWs W M00 ++ (oC W (fun _ => 0) ++ dC W (fun _ => 0))) = ord1.flatMap (blk9 V b x0 x1 x2 x3 hq qa xh tq t1 t2 t3 ts tb lq lb cq (fun j => some (eX W (8 * (4 + j)))) (mBk V mb q0 q1 q2 q3 q4 q5 q6 q7 q8) o od) := by
    rw [cWs_fm W _ _ _ _ _ hX (fun _ => rfl), r9_1 hc h1 h2, r9_2 hc h3, fm_eq (fun k hk => (bBk_c hc _).trans (blk_b (List.mem_range.mp hk))), ← List.flatMap_append, ← List.flatMap_append]
    exact congrArg (List.flatMap _) (by decide)
  rw [e]
  subst hW
  exact h9
end ST
