/-! CLASS AND REFERENCE SIDE BY SIDE: what holds of both between two calls; n: calls so far. -/
def rlH (n nx sz : Nat) (S : kCs) (M : kMs) : Prop := S.2.1 3 = nI nx ∧ S.2.1 4 = nI sz ∧ nx ≤ n ∧ sz ≤ 8 ∧ sz ≤ nx ∧ M.1 1 = nI sz ∧ ∀ i, i < sz → bA (S.1 (4 + (nx - sz + i) % 8)) ∧ ∀ j, j < 115 → M.2 1 (115 * i + j) = gOf (S.1 (4 + (nx - sz + i) % 8)) j
def rlS (s0 : Nat) (S : kCs) (M : kMs) : Prop := S.2.1 0 = nI s0 ∧ M.1 0 = nI s0 ∧ s0 < 2 ∧ (s0 ≠ 0 → bA (S.1 3) ∧ M.2 2 = gOf (S.1 3)) ∧ (∀ j, 115 ≤ j → M.2 2 j = 0) ∧ (s0 = 0 → ∀ j, M.2 2 j = 0)
def rlL (L0 : List Nat) (S : kCs) (M : kMs) : Prop := sbR (S.2.2.2 0) L0 ∧ L0.length ≤ 60 ∧ M.1 7 = nI L0.length ∧ ∃ sg : Nat → Nat, (∀ j, M.2 5 j = nI (sg j) ∧ sg j < 128) ∧ ∀ j, j < L0.length → sg j = L0.getD j 0
def rlT (L : List Nat) (S : kCs) (M : kMs) : Prop := sbR (S.2.2.2 1) L ∧ L.length ≤ 60 ∧ M.1 4 = nI L.length ∧ ∀ j, j < L.length → M.2 4 j = nI (L.getD j 0) ∧ L.getD j 0 < 128
def rlE (ep fp : Nat) (S : kCs) (M : kMs) : Prop := S.2.1 1 = nI ep - 1 ∧ M.1 5 = nI ep - 1 ∧ ep < 1000 ∧ S.2.1 2 = nI fp - 1 ∧ M.1 6 = nI fp - 1 ∧ fp < 1000
def rlX (S : kCs) (M : kMs) : Prop := (∀ b, b < 12 → bN (S.1 b)) ∧ M.1 2 = nI 0 ∧ (∃ f0 : Nat → Nat, M.2 6 = fun k => nI (f0 k)) ∧ (∃ g0 : Nat → Nat, M.2 7 = fun k => nI (g0 k) - 1) ∧ (∃ p : Nat, S.2.1 6 = nI p) ∧ (∃ cm : Nat, S.2.1 5 = nI cm) ∧ okA 12 (S.2.2.1 1) ∧ okA 100 (S.2.2.1 2) ∧ okA 100 (S.2.2.1 3)
def relD (n : Nat) (B : kBd) (nx sz : Nat) (L0 L : List Nat) (ep fp s0 : Nat) (S : kCs) (M : kMs) : Prop :=
  S.1 0 = B ∧ bA B ∧ M.2 0 = gOf B ∧ rlH n nx sz S M ∧ rlS s0 S M ∧ rlL L0 S M ∧ rlT L S M ∧ rlE ep fp S M ∧ rlX S M
def rel (n : Nat) (S : kCs) (M : kMs) : Prop := ∃ (B : kBd) (nx sz : Nat) (L0 L : List Nat) (ep fp s0 : Nat), relD n B nx sz L0 L ep fp s0 S M
section RL
variable {n : Nat} {B B' : kBd} {nx sz : Nat} {L0 L : List Nat} {ep fp s0 : Nat} {S : kCs} {M : kMs}
theorem rel_S (h : relD n B nx sz L0 L ep fp s0 S M) : setB S 0 B = S := by rw [← h.1]; exact setB_self S 0
/-- nothing but the number of the exception -/
theorem rel_q (h : relD n B nx sz L0 L ep fp s0 S M) (c : Int32) : rel (n + 1) (setB S 0 B) (nPut M 3 c) := by
  rw [rel_S h]
  obtain ⟨h1, h2, h3, ⟨a1, a2, a3, a4⟩, h5, h6, h7, h8, h9⟩ := h
  exact ⟨B, nx, sz, L0, L, ep, fp, s0, h1, h2, h3, ⟨a1, a2, Nat.le_succ_of_le a3, a4⟩, h5, h6, h7, h8, h9⟩
theorem gOf_hi (B : kBd) {j : Nat} (h : 115 ≤ j) : gOf B j = 0 := by
  unfold gOf
  rw [if_neg (by omega), if_neg (by omega), if_neg (by omega), if_neg (by omega), if_neg (by omega)]
/-- the board is replaced, nothing else -/
theorem rel_b (h : relD n B nx sz L0 L ep fp s0 S M) (hA : bA B') : relD n B' nx sz L0 L ep fp s0 (setB S 0 B') (setG M B') := by
  obtain ⟨h1, h2, h3, ⟨a1, a2, a3, a4, a5, a6, a7⟩, ⟨b1, b2, b3, b4, b5⟩, ⟨c1, c2, c3, c4⟩, ⟨d1, d2, d3, d4⟩, h8, ⟨e1, e2, e3, e4, e5⟩⟩ := h
  refine ⟨setB_at _ _ _, hA, rfl, ⟨a1, a2, a3, a4, a5, a6, fun i hi => ?_⟩, ⟨b1, b2, b3, fun z => ?_, b5⟩, ⟨c1, c2, c3, c4⟩, ⟨d1, d2, d3, d4⟩, h8, ⟨fun b hb => ?_, e2, e3, e4, e5⟩⟩
  · have hne : 4 + (nx - sz + i) % 8 ≠ 0 := by omega
    rw [setB_ne S B' hne]
    exact a7 i hi
  · rw [setB_ne S B' (show (3 : Nat) ≠ 0 by decide)]
    exact b4 z
  · by_cases hz : b = 0
    · rw [hz, setB_at]; exact hA.1.2.1
    · rw [setB_ne S B' hz]; exact e1 b hb
theorem hk_1 {b : Nat} : (hkS S B nx sz).1 b = if b = 4 + nx % 8 then B else S.1 b := rfl
theorem kpG_8 (M : kMs) : kpG M 0 8 = nPut (cpG (nPut (shG (nPut M 3 (nI 0)) 805) 1 (nI 7)) 0 0 1 (115 * 7) 115) 1 (nI 8) := if_pos rfl
theorem kpG_7 (M : kMs) {c : Nat} (h : c ≠ 8) : kpG M 0 c = nPut (cpG (nPut M 3 (nI 0)) 0 0 1 (115 * c) 115) 1 (nI (c + 1)) := if_neg h
theorem kp_k8 (M : kMs) (k : Nat) : (kpG M 0 8).2 1 k = if 805 ≤ k ∧ k < 805 + 115 then M.2 0 (0 + (k - 805)) else if k < 805 then M.2 1 (k + 115) else M.2 1 k := by rw [kpG_8]; rfl
theorem kp_k7 (M : kMs) {c : Nat} (h : c ≠ 8) (k : Nat) : (kpG M 0 c).2 1 k = if 115 * c ≤ k ∧ k < 115 * c + 115 then M.2 0 (0 + (k - 115 * c)) else M.2 1 k := by rw [kpG_7 M h]; rfl
theorem kp_oth (M : kMs) (c : Nat) {q : Nat} (h : q ≠ 1) : (kpG M 0 c).2 q = M.2 q := by
  by_cases e : c = 8
  · rw [e, kpG_8]
    show va_up (va_up M.2 1 _) 1 _ q = M.2 q
    simp only [va_up]
    rw [if_neg h, if_neg h]
  · rw [kpG_7 M e]
    show va_up M.2 1 _ q = M.2 q
    simp only [va_up]
    rw [if_neg h]
theorem kp_1 (M : kMs) {c : Nat} (h : c ≤ 8) : (kpG M 0 c).1 1 = nI (min (c + 1) 8) := by
  by_cases e : c = 8
  · rw [e, kpG_8]; rfl
  · rw [kpG_7 M e, Nat.min_eq_left (by omega)]; rfl
/-- a board is kept -/
theorem rel_k (h : relD n B nx sz L0 L ep fp s0 S M) : relD (n + 1) B (nx + 1) (min (sz + 1) 8) L0 L ep fp s0 (hkS S B nx sz) (kpG M 0 sz) := by
  obtain ⟨h1, h2, h3, ⟨a1, a2, a3, a4, a5, a6, a7⟩, ⟨b1, b2, b3, b4, b5⟩, ⟨c1, c2, c3, sg, c4, c5⟩, ⟨d1, d2, d3, d4⟩, ⟨e1, e2, e3, e4, e5, e6⟩, ⟨x1, x2, x3, x4, x5⟩⟩ := h
  have hn := fun f (z1 : f ≠ 1) (z3 : f ≠ 3) => kpG_n M 0 sz f z1 z3
  have ho := fun q (z : q ≠ 1) => kp_oth M sz (q := q) z
  refine ⟨?_, h2, ?_, ⟨rfl, rfl, by omega, by omega, by omega, kp_1 M a4, fun i hi => ?_⟩, ⟨b1, ?_, b3, fun z => ?_, fun j hj => ?_, fun z j => ?_⟩, ⟨c1, c2, ?_, sg, fun j => ?_, c5⟩, ⟨d1, d2, ?_, fun j hj => ?_⟩, ⟨e1, ?_, e3, e4, ?_, e6⟩, ⟨fun b hb => ?_, ?_, ?_, ?_, x5⟩⟩
  · rw [hk_1, if_neg (by omega)]; exact h1
  · rw [ho 0 (by decide)]; exact h3
  · rw [hk_1]
    by_cases c : sz = 8
    · subst c
      have em : min (8 + 1) 8 = 8 := rfl
      rw [em] at hi ⊢
      by_cases d : i = 7
      · subst d
        rw [if_pos (by omega)]
        refine ⟨h2, fun j hj => ?_⟩
        rw [kp_k8, if_pos (by omega), show 0 + (115 * 7 + j - 805) = j by omega, h3]
      · rw [if_neg (by omega), show nx + 1 - 8 + i = nx - 8 + (i + 1) by omega]
        refine ⟨(a7 (i + 1) (by omega)).1, fun j hj => ?_⟩
        rw [kp_k8, if_neg (by omega), if_pos (by omega), show 115 * i + j + 115 = 115 * (i + 1) + j by omega]
        exact (a7 (i + 1) (by omega)).2 j hj
    · have em : min (sz + 1) 8 = sz + 1 := by omega
      rw [em] at hi ⊢
      rw [show nx + 1 - (sz + 1) + i = nx - sz + i by omega]
      by_cases d : i = sz
      · subst d
        rw [if_pos (by omega)]
        refine ⟨h2, fun j hj => ?_⟩
        rw [kp_k7 M c, if_pos (by omega), show 0 + (115 * i + j - 115 * i) = j by omega, h3]
      · rw [if_neg (by omega)]
        refine ⟨(a7 i (by omega)).1, fun j hj => ?_⟩
        rw [kp_k7 M c, if_neg (by omega)]
        exact (a7 i (by omega)).2 j hj
  · rw [hn 0 (by decide) (by decide)]; exact b2
  · rw [hk_1, if_neg (by omega), ho 2 (by decide)]; exact b4 z
  · rw [ho 2 (by decide)]; exact b5.1 j hj
  · rw [ho 2 (by decide)]; exact b5.2 z j
  · rw [hn 7 (by decide) (by decide)]; exact c3
  · rw [ho 5 (by decide)]; exact c4 j
  · rw [hn 4 (by decide) (by decide)]; exact d3
  · rw [ho 4 (by decide)]; exact d4 j hj
  · rw [hn 5 (by decide) (by decide)]; exact e2
  · rw [hn 6 (by decide) (by decide)]; exact e5
  · rw [hk_1]
    split
    · exact h2.1.2.1
    · exact x1 b hb
  · rw [hn 2 (by decide) (by decide)]; exact x2
  · rw [ho 6 (by decide)]; exact x3
  · rw [ho 7 (by decide)]; exact x4
theorem kpW0 (M : kMs) (c : Nat) : kpW M 0 0 c = kpG M 0 c := if_neg (by decide)
theorem rel_3 (h : relD n B nx sz L0 L ep fp s0 S M) (c : Int32) : relD n B nx sz L0 L ep fp s0 S (nPut M 3 c) := h
/-- a command -/
theorem rel_c (h : relD n B nx sz L0 L ep fp s0 S M) (hA : bA B') : rel (n + 1) (setB (hkS S B nx sz) 0 B') (setG (kpW (nPut M 3 (nI 0)) 0 0 sz) B') := by
  rw [kpW0]
  exact ⟨B', nx + 1, min (sz + 1) 8, L0, L, ep, fp, s0, rel_b (rel_k (rel_3 h (nI 0))) hA⟩
theorem kp_3 (M : kMs) (c : Nat) : (kpG M 0 c).1 3 = nI 0 := by
  by_cases e : c = 8
  · rw [e, kpG_8]; rfl
  · rw [kpG_7 M e]; rfl
theorem code_c (M : kMs) (c : Nat) (B' : kBd) : (setG (kpW (nPut M 3 (nI 0)) 0 0 c) B').1 3 = nI 0 := by rw [kpW0]; exact kp_3 _ c
/-- undone -/
theorem rel_u (h : relD n B nx sz L0 L ep fp s0 S M) (h0 : sz ≠ 0) : rel (n + 1) (tbkS (setB S 0 B) 0 nx sz) (cpG (nPut (nPut M 3 (nI 0)) 1 (nI (sz - 1))) 1 (115 * (sz - 1)) 0 0 115) := by
  rw [rel_S h]
  obtain ⟨h1, h2, h3, ⟨a1, a2, a3, a4, a5, a6, a7⟩, ⟨b1, b2, b3, b4, b5⟩, h6, h7, h8, ⟨x1, x2⟩⟩ := h
  have e := a7 (sz - 1) (by omega)
  rw [show nx - sz + (sz - 1) = nx - 1 by omega] at e
  refine ⟨S.1 (4 + (nx - 1) % 8), nx - 1, sz - 1, L0, L, ep, fp, s0, setB_at S 0 (S.1 (4 + (nx - 1) % 8)), e.1, funext fun j => ?_, ⟨rfl, rfl, by omega, by omega, by omega, rfl, fun i hi => ?_⟩, ⟨b1, b2, b3, fun z => ?_, b5⟩, h6, h7, h8, ⟨fun b hb => ?_, x2⟩⟩
  · show (if 0 ≤ j ∧ j < 0 + 115 then M.2 1 (115 * (sz - 1) + (j - 0)) else M.2 0 j) = _
    by_cases c : j < 115
    · rw [if_pos (by omega), Nat.sub_zero]; exact e.2 j c
    · rw [if_neg (by omega), h3, gOf_hi _ (by omega), gOf_hi _ (by omega)]
  · have hne : 4 + (nx - 1 - (sz - 1) + i) % 8 ≠ 0 := by omega
    show bA ((setB S 0 (S.1 (4 + (nx - 1) % 8))).1 (4 + (nx - 1 - (sz - 1) + i) % 8)) ∧ ∀ j, j < 115 → M.2 1 (115 * i + j) = gOf ((setB S 0 (S.1 (4 + (nx - 1) % 8))).1 (4 + (nx - 1 - (sz - 1) + i) % 8)) j
    rw [setB_ne S _ hne, show nx - 1 - (sz - 1) + i = nx - sz + i by omega]
    exact a7 i (by omega)
  · show bA ((setB S 0 (S.1 (4 + (nx - 1) % 8))).1 3) ∧ M.2 2 = gOf ((setB S 0 (S.1 (4 + (nx - 1) % 8))).1 3)
    rw [setB_ne S _ (show (3 : Nat) ≠ 0 by decide)]
    exact b4 z
  · show bN ((setB S 0 (S.1 (4 + (nx - 1) % 8))).1 b)
    by_cases hz : b = 0
    · rw [hz, setB_at]; exact e.1.1.2.1
    · rw [setB_ne S _ hz]; exact x1 b hb
/-- saved -/
theorem rel_s (h : relD n B nx sz L0 L ep fp s0 S M) : rel (n + 1) (sPut (setB (setB S 0 B) 3 B) 0 (nI 1)) (cpG (nPut (nPut M 3 (nI 0)) 0 (nI 1)) 0 0 2 0 115) := by
  rw [rel_S h]
  obtain ⟨h1, h2, h3, ⟨a1, a2, a3, a4, a5, a6, a7⟩, ⟨b1, b2, b3, b4, b5⟩, h6, h7, h8, ⟨x1, x2⟩⟩ := h
  refine ⟨B, nx, sz, L0, L, ep, fp, 1, ?_, h2, h3, ⟨a1, a2, Nat.le_succ_of_le a3, a4, a5, a6, fun i hi => ?_⟩, ⟨rfl, rfl, by decide, fun _ => ⟨?_, funext fun j => ?_⟩, fun j hj => ?_, fun z => absurd z (by decide)⟩, h6, h7, h8, ⟨fun b hb => ?_, x2⟩⟩
  · show (setB S 3 B).1 0 = B
    rw [setB_ne S B (show (0 : Nat) ≠ 3 by decide)]; exact h1
  · have hne : 4 + (nx - sz + i) % 8 ≠ 3 := by omega
    show bA ((setB S 3 B).1 (4 + (nx - sz + i) % 8)) ∧ ∀ j, j < 115 → M.2 1 (115 * i + j) = gOf ((setB S 3 B).1 (4 + (nx - sz + i) % 8)) j
    rw [setB_ne S B hne]
    exact a7 i hi
  · show bA ((setB S 3 B).1 3)
    rw [setB_at]; exact h2
  · show (if 0 ≤ j ∧ j < 0 + 115 then M.2 0 (0 + (j - 0)) else M.2 2 j) = gOf ((setB S 3 B).1 3) j
    rw [setB_at]
    by_cases c : j < 115
    · rw [if_pos (by omega), Nat.zero_add, Nat.sub_zero, h3]
    · rw [if_neg (by omega), b5.1 j (by omega), gOf_hi _ (by omega)]
  · show (if 0 ≤ j ∧ j < 0 + 115 then M.2 0 (0 + (j - 0)) else M.2 2 j) = 0
    rw [if_neg (by omega)]; exact b5.1 j hj
  · show bN ((setB S 3 B).1 b)
    by_cases hz : b = 3
    · rw [hz, setB_at]; exact h2.1.2.1
    · rw [setB_ne S _ hz]; exact x1 b hb
/-- restored -/
theorem rel_r (h : relD n B nx sz L0 L ep fp s0 S M) (h0 : s0 ≠ 0) : rel (n + 1) (sPut (setB S 0 (S.1 3)) 4 (nI 0)) (nPut (cpG (nPut M 3 (nI 0)) 2 0 0 0 115) 1 (nI 0)) := by
  obtain ⟨h1, h2, h3, ⟨a1, a2, a3, a4, a5, a6, a7⟩, ⟨b1, b2, b3, b4, b5⟩, h6, h7, h8, ⟨x1, x2⟩⟩ := h
  obtain ⟨g1, g2⟩ := b4 h0
  refine ⟨S.1 3, nx, 0, L0, L, ep, fp, s0, setB_at S 0 (S.1 3), g1, funext fun j => ?_, ⟨a1, rfl, Nat.le_succ_of_le a3, by decide, Nat.zero_le _, rfl, fun i hi => absurd hi (Nat.not_lt_zero i)⟩, ⟨b1, b2, b3, fun z => ?_, b5⟩, h6, h7, h8, ⟨fun b hb => ?_, x2⟩⟩
  · show (if 0 ≤ j ∧ j < 0 + 115 then M.2 2 (0 + (j - 0)) else M.2 0 j) = _
    by_cases c : j < 115
    · rw [if_pos (by omega), Nat.zero_add, Nat.sub_zero, g2]
    · rw [if_neg (by omega), h3, gOf_hi _ (by omega), gOf_hi _ (by omega)]
  · show bA ((setB S 0 (S.1 3)).1 3) ∧ M.2 2 = gOf ((setB S 0 (S.1 3)).1 3)
    rw [setB_ne S _ (show (3 : Nat) ≠ 0 by decide)]
    exact b4 z
  · show bN ((setB S 0 (S.1 3)).1 b)
    by_cases hz : b = 0
    · rw [hz, setB_at]; exact g1.1.2.1
    · rw [setB_ne S _ hz]; exact x1 b hb
/-- the reference's rows of its own -/
theorem rel_ch (h : relD n B nx sz L0 L ep fp s0 S M) (c : Int32) (f : Nat → Nat) : rel (n + 1) (setB S 0 B) (chW (nPut M 3 c) f) := by
  rw [rel_S h]
  obtain ⟨h1, h2, h3, ⟨a1, a2, a3, a4⟩, h5, h6, h7, h8, ⟨x1, x2, x3, x4⟩⟩ := h
  exact ⟨B, nx, sz, L0, L, ep, fp, s0, h1, h2, h3, ⟨a1, a2, Nat.le_succ_of_le a3, a4⟩, h5, h6, h7, h8, ⟨x1, x2, ⟨f, rfl⟩, x4⟩⟩
theorem rel_nd (h : relD n B nx sz L0 L ep fp s0 S M) (c d : Int32) (g : Nat → Nat) {S' : kCs} (hS : sEq S S') (h1 : bN (S'.1 1)) : rel (n + 1) (setB S' 0 B) (nPut (ndW (nPut M 3 c) g) 3 d) := by
  obtain ⟨h1', h2, h3, ⟨a1, a2, a3, a4, a5, a6, a7⟩, ⟨b1, b2, b3, b4, b5⟩, ⟨c1, c2⟩, ⟨d1, d2⟩, ⟨e1, e2, e3, e4, e5⟩, ⟨x1, x2, x3, x4, x5, x6, x7, x8, x9⟩⟩ := h
  obtain ⟨s1, s2, s3, s4⟩ := hS
  have hb : ∀ b, b ≠ 0 → b ≠ 1 → (setB S' 0 B).1 b = S.1 b := fun b z0 z1 => (setB_ne S' B z0).trans (s1 b z0 z1)
  refine ⟨B, nx, sz, L0, L, ep, fp, s0, setB_at _ _ _, h2, h3, ⟨(congrFun s2 3).trans a1, (congrFun s2 4).trans a2, Nat.le_succ_of_le a3, a4, a5, a6, fun i hi => ?_⟩, ⟨(congrFun s2 0).trans b1, b2, b3, fun z => ?_, b5⟩, ⟨?_, c2⟩, ⟨?_, d2⟩, ⟨(congrFun s2 1).trans e1, e2, e3, (congrFun s2 2).trans e4, e5⟩, ⟨fun b hb9 => ?_, x2, x3, ⟨g, rfl⟩, ?_, ?_, ?_, ?_, ?_⟩⟩
  · rw [hb _ (by omega) (by omega)]; exact a7 i hi
  · rw [hb 3 (by decide) (by decide)]; exact b4 z
  · show sbR (S'.2.2.2 0) L0; rw [s4]; exact c1
  · show sbR (S'.2.2.2 1) L; rw [s4]; exact d1
  · by_cases hz : b = 0
    · rw [hz, setB_at]; exact h2.1.2.1
    · rw [setB_ne S' B hz]
      by_cases h9 : b = 1
      · rw [h9]; exact h1
      · rw [s1 b hz h9]; exact x1 b hb9
  · show ∃ p : Nat, S'.2.1 6 = nI p; rw [s2]; exact x5
  · show ∃ p : Nat, S'.2.1 5 = nI p; rw [s2]; exact x6
  · show okA 12 (S'.2.2.1 1); rw [s3 1 (by decide)]; exact x7
  · show okA 100 (S'.2.2.1 2); rw [s3 2 (by decide)]; exact x8
  · show okA 100 (S'.2.2.1 3); rw [s3 3 (by decide)]; exact x9
/-- the class's rows of its own -/
theorem rel_x (h : relD n B nx sz L0 L ep fp s0 S M) (c : Int32) {S' : kCs} (hS : sEq S S') (h1 : bN (S'.1 1)) : rel (n + 1) (setB S' 0 B) (nPut M 3 c) := by
  obtain ⟨g, hg⟩ := h.2.2.2.2.2.2.2.2.2.2.2.1
  have := rel_nd h c c g hS h1
  rw [show nPut (ndW (nPut M 3 c) g) 3 c = nPut M 3 c from by rw [ndW_0 (M := nPut M 3 c) hg, nP2]] at this
  exact this
/-- a line is written -/
theorem rel_l (h : relD n B nx sz L0 L ep fp s0 S M) {y : kSb} {X : List Nat} (hy : sbR y X) (hX : X.length ≤ 60) : rel (n + 1) (setB (uPut S 0 y) 0 B) (lW (nPut M 3 (nI 0)) X) := by
  have e : setB (uPut S 0 y) 0 B = uPut S 0 y := by
    have := setB_self (uPut S 0 y) 0
    rw [show (uPut S 0 y).1 0 = B from h.1] at this
    exact this
  rw [e]
  obtain ⟨h1, h2, h3, ⟨a1, a2, a3, a4⟩, h5, ⟨c1, c2, c3, sg, c4, c5⟩, h7, h8, h9⟩ := h
  refine ⟨B, nx, sz, X, L, ep, fp, s0, h1, h2, h3, ⟨a1, a2, Nat.le_succ_of_le a3, a4⟩, h5, ⟨?_, hX, rfl, fun j => if j < X.length then X.getD j 0 else sg j, fun j => ?_, fun j hj => if_pos hj⟩, h7, h8, h9⟩
  · show sbR ((uPut S 0 y).2.2.2 0) X
    rw [uPut_at]; exact hy
  · show (if j < X.length then nI (X.getD j 0) else M.2 5 j) = nI (if j < X.length then X.getD j 0 else sg j) ∧ (if j < X.length then X.getD j 0 else sg j) < 128
    by_cases c : j < X.length
    · rw [if_pos c, if_pos c]; exact ⟨rfl, (hy.2.2.2.1 j c).1⟩
    · rw [if_neg c, if_neg c]; exact c4 j
/-- a sign is typed -/
theorem rel_t (h : relD n B nx sz L0 L ep fp s0 S M) {y : kSb} {q : Nat} (hy : sbR y (L ++ [q])) (hq : q ≤ 126) (hl : L.length < 60) : rel (n + 1) (uPut (setB S 0 B) 1 y) (nPut (gPut (nPut M 3 (nI 0)) 4 L.length (nI q)) 4 (nI (L.length + 1))) := by
  rw [rel_S h]
  obtain ⟨h1, h2, h3, ⟨a1, a2, a3, a4⟩, h5, h6, ⟨d1, d2, d3, d4⟩, h8, h9⟩ := h
  have el : (L ++ [q]).length = L.length + 1 := by simp
  refine ⟨B, nx, sz, L0, L ++ [q], ep, fp, s0, h1, h2, h3, ⟨a1, a2, Nat.le_succ_of_le a3, a4⟩, h5, h6, ⟨?_, by omega, ?_, fun j hj => ?_⟩, h8, h9⟩
  · show sbR ((uPut S 1 y).2.2.2 1) (L ++ [q])
    rw [uPut_at]; exact hy
  · rw [el]; rfl
  · show (if j = L.length then nI q else M.2 4 j) = nI ((L ++ [q]).getD j 0) ∧ (L ++ [q]).getD j 0 < 128
    by_cases c : j = L.length
    · rw [if_pos c, c]
      have e2 : (L ++ [q]).getD L.length 0 = q := by simp [List.getD_eq_getElem?_getD]
      rw [e2]; exact ⟨rfl, by omega⟩
    · rw [if_neg c]
      have hlt : j < L.length := by omega
      have e2 : (L ++ [q]).getD j 0 = L.getD j 0 := by simp [List.getD_eq_getElem?_getD, List.getElem?_append_left hlt]
      rw [e2]; exact d4 j hlt
end RL
