/-! A TEXT CARRIED OUT, and the calls that the law compares at once. -/
theorem nOf_is {A : Nat → Int32} {i k : Nat} (hk : k < 2147483648) (h : A i = nI k) : nOf A i = k := by
  unfold nOf
  rw [h, tN hk]
  exact Int.toNat_natCast k
theorem ex_rel {L : List Nat} (hL : L.length ≤ 60) (S : kCs) (M : kMs) : (txM L 61 0 0 (M.2 8)).1 = true → (txM L 61 0 0 (M.2 8)).2.2.1 ≤ 30 ∧ ∀ i, i < (txM L 61 0 0 (M.2 8)).2.2.1 → (nOf (rT S L).2.2.2.1) i < 12 ∧ (txM L 61 0 0 (M.2 8)).2.2.2 (4 * i) = nI ((nOf (rT S L).2.2.2.1) i) ∧ (1 ≤ arK ((nOf (rT S L).2.2.2.1) i) → (nOf (rT S L).2.2.2.2.1) i < 100 ∧ (txM L 61 0 0 (M.2 8)).2.2.2 (4 * i + 1) = nI ((nOf (rT S L).2.2.2.2.1) i)) ∧ (2 ≤ arK ((nOf (rT S L).2.2.2.1) i) → (nOf (rT S L).2.2.2.2.2) i < 100 ∧ (txM L 61 0 0 (M.2 8)).2.2.2 (4 * i + 2) = nI ((nOf (rT S L).2.2.2.2.2) i)) := by
  intro h
  rcases tx_all hL S (M.2 8) with ⟨h1, -⟩ | ⟨-, h2, h3, h4, h5, h6⟩
  · rw [h] at h1; exact Bool.noConfusion h1
  · refine ⟨h4, fun i hi => ?_⟩
    obtain ⟨k, hk, a1, a2, a3, a4⟩ := h6 i hi
    have ek := nOf_is (by omega) a1
    rw [ek]
    refine ⟨hk, a2, fun z => ?_, fun z => ?_⟩
    · obtain ⟨m, b1, b2, b3⟩ := a3 z
      rw [nOf_is (by omega) b2]; exact ⟨b1, b3⟩
    · obtain ⟨m, b1, b2, b3⟩ := a4 z
      rw [nOf_is (by omega) b2]; exact ⟨b1, b3⟩
section RE
variable {n : Nat} {B B' : kBd} {nx sz : Nat} {L0 L : List Nat} {ep fp s0 : Nat} {S : kCs} {M : kMs}
theorem rel_e0 (h : relD n B nx sz L0 L ep fp s0 S M) {y : kSb} (hy : sbR y []) (a t : Nat) (T : Nat → Int32) : relD n B nx sz L0 [] ep fp s0 (xS S L y) (nPut (pW M a t T) 4 (nI 0)) := by
  obtain ⟨h1, h2, h3, h4, h5, h6, ⟨d1, d2, d3, d4⟩, h8, ⟨x1, x2, x3, x4, x5, x6, x7, x8, x9⟩⟩ := h
  have hk := rdT_ok L 60 0 0 0 (S.2.2.1 1) (S.2.2.1 2) (S.2.2.1 3) x7 x8 x9
  refine ⟨h1, h2, h3, h4, h5, h6, ⟨?_, Nat.zero_le _, rfl, fun j hj => absurd hj (Nat.not_lt_zero j)⟩, h8, ⟨x1, x2, x3, x4, ⟨_, rfl⟩, ⟨_, rfl⟩, hk.1, hk.2.1, hk.2.2⟩⟩
  show sbR ((uPut (xW S _ _ _ _ _) 1 y).2.2.2 1) []
  rw [uPut_at]; exact hy
theorem rel_b2 (h : relD n B nx sz L0 L ep fp s0 S M) : relD n B nx sz L0 L ep fp s0 (setB S 2 B) M := by
  obtain ⟨h1, h2, h3, ⟨a1, a2, a3, a4, a5, a6, a7⟩, ⟨b1, b2, b3, b4, b5⟩, h6, h7, h8, ⟨x1, x2⟩⟩ := h
  refine ⟨?_, h2, h3, ⟨a1, a2, a3, a4, a5, a6, fun i hi => ?_⟩, ⟨b1, b2, b3, fun z => ?_, b5⟩, h6, h7, h8, ⟨fun b hb => ?_, x2⟩⟩
  · rw [setB_ne S B (show (0 : Nat) ≠ 2 by decide)]; exact h1
  · rw [setB_ne S B (show 4 + (nx - sz + i) % 8 ≠ 2 by omega)]; exact a7 i hi
  · rw [setB_ne S B (show (3 : Nat) ≠ 2 by decide)]; exact b4 z
  · by_cases hz : b = 2
    · rw [hz, setB_at]; exact h2.1.2.1
    · rw [setB_ne S B hz]; exact x1 b hb
theorem rel_0 (h : relD n B nx sz L0 L ep fp s0 S M) : relD n B nx sz L0 L ep fp s0 (setB S 0 B) M := by rw [rel_S h]; exact h
/-- the number of the error, of the failed command -/
theorem rel_ep (h : relD n B nx sz L0 L ep fp s0 S M) {v : Nat} (hv : v < 1000) {x : Int32} (hx : x = nI v - 1) (c : Int32) : rel (n + 1) (sPut S 1 (nI v - 1)) (nPut (nPut M 5 x) 3 c) := by
  obtain ⟨h1, h2, h3, ⟨a1, a2, a3, a4⟩, h5, h6, h7, ⟨e1, e2, e3, e4, e5, e6⟩, h9⟩ := h
  exact ⟨B, nx, sz, L0, L, v, fp, s0, h1, h2, h3, ⟨a1, a2, Nat.le_succ_of_le a3, a4⟩, h5, h6, h7, ⟨rfl, hx, hv, e4, e5, e6⟩, h9⟩
theorem rel_fp (h : relD n B nx sz L0 L ep fp s0 S M) {v : Nat} (hv : v < 1000) {x : Int32} (hx : x = nI v - 1) (c : Int32) : rel (n + 1) (sPut S 2 (nI v - 1)) (nPut (nPut M 6 x) 3 c) := by
  obtain ⟨h1, h2, h3, ⟨a1, a2, a3, a4⟩, h5, h6, h7, ⟨e1, e2, e3, e4, e5, e6⟩, h9⟩ := h
  exact ⟨B, nx, sz, L0, L, ep, v, s0, h1, h2, h3, ⟨a1, a2, Nat.le_succ_of_le a3, a4⟩, h5, h6, h7, ⟨e1, e2, e3, rfl, hx, hv⟩, h9⟩
theorem rel_ex {X9 : Bool × Nat × Nat × (Nat → Int32)} (h : relD n B nx sz L0 L ep fp s0 S (nPut (pW M X9.2.1 X9.2.2.1 X9.2.2.2) 4 (nI 0))) (B1 : kBd) (c : Int32) : relD n B nx sz L0 L ep fp s0 S (setG (nPut (nPut (setG (exY M X9) B1) 3 c) 2 (nI 0)) B) := by
  obtain ⟨h1, h2, h3, h4, h5, h6, h7, h8, ⟨x1, x2, x3⟩⟩ := h
  exact ⟨h1, h2, rfl, h4, h5, h6, h7, h8, ⟨x1, rfl, x3⟩⟩
theorem ex_3 (hg : M.2 0 = gOf B) (X9 : Bool × Nat × Nat × (Nat → Int32)) (B1 : kBd) (c d : Int32) {j : Nat} (hj : j < 115) : (nPut (nPut (setG (exY M X9) B1) 3 c) 2 d).2 3 j = gOf B j := by
  show (if 0 ≤ j ∧ j < 0 + 115 then M.2 0 (0 + (j - 0)) else M.2 3 j) = gOf B j
  rw [if_pos (by omega), Nat.zero_add, Nat.sub_zero, hg]
theorem kp_q8 (M : kMs) (k : Nat) : (kpG M 3 8).2 1 k = if 805 ≤ k ∧ k < 805 + 115 then M.2 3 (0 + (k - 805)) else if k < 805 then M.2 1 (k + 115) else M.2 1 k := by
  rw [show kpG M 3 8 = nPut (cpG (nPut (shG (nPut M 3 (nI 0)) 805) 1 (nI 7)) 3 0 1 (115 * 7) 115) 1 (nI 8) from if_pos rfl]
  rfl
theorem kpG_3 {W : kMs} {B1 : kBd} (hW : W.2 0 = gOf B1) (h3 : ∀ j, j < 115 → W.2 3 j = gOf B j) (c : Nat) : kpG W 3 c = setG (kpG (setG W B) 0 c) B1 := by
  by_cases e : c = 8
  · subst e
    refine Prod.ext ?_ (funext fun r => ?_)
    · rw [kpG_8, show kpG W 3 8 = nPut (cpG (nPut (shG (nPut W 3 (nI 0)) 805) 1 (nI 7)) 3 0 1 (115 * 7) 115) 1 (nI 8) from if_pos rfl]
      rfl
    · by_cases e1 : r = 1
      · subst e1
        funext k
        show (kpG W 3 8).2 1 k = (kpG (setG W B) 0 8).2 1 k
        rw [kp_q8, kp_k8]
        by_cases c1 : 805 ≤ k ∧ k < 805 + 115
        · rw [if_pos c1, if_pos c1, h3 _ (by omega)]
          exact (congrFun (setG_g W B) _).symm
        · rw [if_neg c1, if_neg c1, show (setG W B).2 1 = W.2 1 by show va_up W.2 0 (gOf B) 1 = _; simp only [va_up]; rw [if_neg (show ¬ ((1 : Nat) = 0) by omega)]]
      · have ha : (kpG W 3 8).2 r = W.2 r := by
          rw [show kpG W 3 8 = nPut (cpG (nPut (shG (nPut W 3 (nI 0)) 805) 1 (nI 7)) 3 0 1 (115 * 7) 115) 1 (nI 8) from if_pos rfl]
          show va_up (va_up W.2 1 _) 1 _ r = _
          simp only [va_up]
          rw [if_neg e1, if_neg e1]
        rw [ha]
        show W.2 r = va_up (kpG (setG W B) 0 8).2 0 (gOf B1) r
        simp only [va_up]
        by_cases e0 : r = 0
        · rw [if_pos e0, e0]; exact hW
        · rw [if_neg e0, kp_oth _ _ e1]
          show _ = va_up W.2 0 (gOf B) r
          simp only [va_up]
          rw [if_neg e0]
  · rw [kpG_7 _ e]
    rw [show kpG W 3 c = nPut (cpG (nPut W 3 (nI 0)) 3 0 1 (115 * c) 115) 1 (nI (c + 1)) from if_neg e]
    refine Prod.ext rfl (funext fun r => ?_)
    by_cases e1 : r = 1
    · subst e1
      funext k
      show (if 115 * c ≤ k ∧ k < 115 * c + 115 then W.2 3 (0 + (k - 115 * c)) else W.2 1 k) = (if 115 * c ≤ k ∧ k < 115 * c + 115 then gOf B (0 + (k - 115 * c)) else W.2 1 k)
      by_cases c1 : 115 * c ≤ k ∧ k < 115 * c + 115
      · rw [if_pos c1, if_pos c1, h3 _ (by omega)]
      · rw [if_neg c1, if_neg c1]
    · show va_up W.2 1 _ r = va_up (va_up (va_up W.2 0 (gOf B)) 1 _) 0 (gOf B1) r
      simp only [va_up]
      rw [if_neg e1]
      by_cases e0 : r = 0
      · rw [if_pos e0, e0]; exact hW
      · rw [if_neg e0, if_neg e1, if_neg e0]
theorem hist_k {T : kCs} (hB : T.1 0 = B) (h2 : T.1 2 = B) : histS (setB T 0 B') 2 nx sz = setB (hkS T B nx sz) 0 B' := by
  have hne : 4 + nx % 8 ≠ 0 := by omega
  have e : (setB T 0 B').1 2 = B := by rw [setB_ne T B' (show (2 : Nat) ≠ 0 by decide)]; exact h2
  show sPut (sPut (setB (setB T 0 B') (4 + nx % 8) ((setB T 0 B').1 2)) 3 (nI (nx + 1))) 4 (nI (min (sz + 1) 8)) = sPut (sPut (setB (setB T (4 + nx % 8) B) 0 B') 3 (nI (nx + 1))) 4 (nI (min (sz + 1) 8))
  rw [e, setB_comm T B B' hne]
end RE
theorem cs_execute {n : Nat} {B : kBd} {nx sz : Nat} {L0 L : List Nat} {ep fp s0 : Nat} {S : kCs} {M : kMs} (h : relD n B nx sz L0 L ep fp s0 S M) :
    (∀ (r : Int32) (u : kCs) (r2 : Int32) (u2 : kMs), (fun r u => ∃ y, sbR y [] ∧ (rT S L).1 = 0 ∧ (rC S L B).1 = 0 ∧ r = nI (rT S L).2.2.1 ∧ u = histS (setB (setB (xS S L y) 2 B) 0 (rC S L B).2) 2 nx sz) r u → (fun r u => ((txM L 61 0 0 (M.2 8)).1 = false ∧ r = nI 0 ∧ u = nPut (nPut (nPut (pW M (txM L 61 0 0 (M.2 8)).2.1 (txM L 61 0 0 (M.2 8)).2.2.1 (txM L 61 0 0 (M.2 8)).2.2.2) 5 (nI (txM L 61 0 0 (M.2 8)).2.1)) 4 (nI 0)) 3 (nI 1)) ∨ ((txM L 61 0 0 (M.2 8)).1 = true ∧ (rcN (nOf (rT S L).2.2.2.1) (nOf (rT S L).2.2.2.2.1) (nOf (rT S L).2.2.2.2.2) (txM L 61 0 0 (M.2 8)).2.2.1 0 B).1 = 0 ∧ bA (rcN (nOf (rT S L).2.2.2.1) (nOf (rT S L).2.2.2.2.1) (nOf (rT S L).2.2.2.2.2) (txM L 61 0 0 (M.2 8)).2.2.1 0 B).2 ∧ r = nI (txM L 61 0 0 (M.2 8)).2.2.1 ∧ u = kpW (nPut (nPut (setG (exY M (txM L 61 0 0 (M.2 8))) (rcN (nOf (rT S L).2.2.2.1) (nOf (rT S L).2.2.2.2.1) (nOf (rT S L).2.2.2.2.2) (txM L 61 0 0 (M.2 8)).2.2.1 0 B).2) 3 (nI 0)) 2 (nI 0)) 3 0 sz) ∨ ((txM L 61 0 0 (M.2 8)).1 = true ∧ (rcN (nOf (rT S L).2.2.2.1) (nOf (rT S L).2.2.2.2.1) (nOf (rT S L).2.2.2.2.2) (txM L 61 0 0 (M.2 8)).2.2.1 0 B).1 ≠ 0 ∧ (rcN (nOf (rT S L).2.2.2.1) (nOf (rT S L).2.2.2.2.1) (nOf (rT S L).2.2.2.2.2) (txM L 61 0 0 (M.2 8)).2.2.1 0 B).1 ≤ 31 ∧ ∃ cd : Nat, u = nPut (nPut (cpG (nPut (nPut (setG (exY M (txM L 61 0 0 (M.2 8))) (rcN (nOf (rT S L).2.2.2.1) (nOf (rT S L).2.2.2.2.1) (nOf (rT S L).2.2.2.2.2) (txM L 61 0 0 (M.2 8)).2.2.1 0 B).2) 3 (nI cd)) 2 (nI 0)) 3 0 0 0 115) 6 (nI ((rcN (nOf (rT S L).2.2.2.1) (nOf (rT S L).2.2.2.2.1) (nOf (rT S L).2.2.2.2.2) (txM L 61 0 0 (M.2 8)).2.2.1 0 B).1 - 1))) 3 (nI 2))) r2 u2 → u2.1 3 = nI 0 ∧ r = r2 ∧ rel (n + 1) u u2) ∧
    (∀ (E : String) (u : kCs) (r2 : Int32) (u2 : kMs), (fun E u => (∃ y, sbR y [] ∧ E = "java/lang/IllegalArgumentException" ∧ (rT S L).1 ≠ 0 ∧ u = sPut (setB (xS S L y) 0 B) 1 (nI (rT S L).1 - 1)) ∨ (∃ y, sbR y [] ∧ E = "java/lang/IllegalStateException" ∧ (rT S L).1 = 0 ∧ (rC S L B).1 ≠ 0 ∧ u = sPut (setB (setB (xS S L y) 2 B) 0 B) 2 (nI (rC S L B).1 - 1))) E u → (fun r u => ((txM L 61 0 0 (M.2 8)).1 = false ∧ r = nI 0 ∧ u = nPut (nPut (nPut (pW M (txM L 61 0 0 (M.2 8)).2.1 (txM L 61 0 0 (M.2 8)).2.2.1 (txM L 61 0 0 (M.2 8)).2.2.2) 5 (nI (txM L 61 0 0 (M.2 8)).2.1)) 4 (nI 0)) 3 (nI 1)) ∨ ((txM L 61 0 0 (M.2 8)).1 = true ∧ (rcN (nOf (rT S L).2.2.2.1) (nOf (rT S L).2.2.2.2.1) (nOf (rT S L).2.2.2.2.2) (txM L 61 0 0 (M.2 8)).2.2.1 0 B).1 = 0 ∧ bA (rcN (nOf (rT S L).2.2.2.1) (nOf (rT S L).2.2.2.2.1) (nOf (rT S L).2.2.2.2.2) (txM L 61 0 0 (M.2 8)).2.2.1 0 B).2 ∧ r = nI (txM L 61 0 0 (M.2 8)).2.2.1 ∧ u = kpW (nPut (nPut (setG (exY M (txM L 61 0 0 (M.2 8))) (rcN (nOf (rT S L).2.2.2.1) (nOf (rT S L).2.2.2.2.1) (nOf (rT S L).2.2.2.2.2) (txM L 61 0 0 (M.2 8)).2.2.1 0 B).2) 3 (nI 0)) 2 (nI 0)) 3 0 sz) ∨ ((txM L 61 0 0 (M.2 8)).1 = true ∧ (rcN (nOf (rT S L).2.2.2.1) (nOf (rT S L).2.2.2.2.1) (nOf (rT S L).2.2.2.2.2) (txM L 61 0 0 (M.2 8)).2.2.1 0 B).1 ≠ 0 ∧ (rcN (nOf (rT S L).2.2.2.1) (nOf (rT S L).2.2.2.2.1) (nOf (rT S L).2.2.2.2.2) (txM L 61 0 0 (M.2 8)).2.2.1 0 B).1 ≤ 31 ∧ ∃ cd : Nat, u = nPut (nPut (cpG (nPut (nPut (setG (exY M (txM L 61 0 0 (M.2 8))) (rcN (nOf (rT S L).2.2.2.1) (nOf (rT S L).2.2.2.2.1) (nOf (rT S L).2.2.2.2.2) (txM L 61 0 0 (M.2 8)).2.2.1 0 B).2) 3 (nI cd)) 2 (nI 0)) 3 0 0 0 115) 6 (nI ((rcN (nOf (rT S L).2.2.2.1) (nOf (rT S L).2.2.2.2.1) (nOf (rT S L).2.2.2.2.2) (txM L 61 0 0 (M.2 8)).2.2.1 0 B).1 - 1))) 3 (nI 2))) r2 u2 → (E = "java/lang/IllegalArgumentException" ∧ u2.1 3 = nI 1 ∧ rel (n + 1) u u2) ∨ (E = "java/lang/IllegalStateException" ∧ u2.1 3 = nI 2 ∧ rel (n + 1) u u2)) := by
  have hl60 := h.2.2.2.2.2.2.1.2.1
  have hok := tx_all hl60 S (M.2 8)
  have hC : rC S L B = rcN (nOf (rT S L).2.2.2.1) (nOf (rT S L).2.2.2.2.1) (nOf (rT S L).2.2.2.2.2) (rT S L).2.2.1 0 B := rfl
  refine ⟨fun r u r2 u2 hp hq => ?_, fun E u r2 u2 hp hq => ?_⟩
  · obtain ⟨y, hy, hR, hz, rfl, rfl⟩ := hp
    rcases hok with ⟨k1, k2⟩ | ⟨k1, k2, k3, k4, k5, -⟩
    · omega
    · rcases hq with ⟨q1, rfl, rfl⟩ | ⟨q1, q2, q3, rfl, rfl⟩ | ⟨q1, q2, q3, cd, rfl⟩
      · exact (c_bb k1 q1).elim
      · rw [← k3, ← hC] at q2 q3 ⊢
        have hS := rel_0 (rel_b2 (rel_e0 h hy (txM L 61 0 0 (M.2 8)).2.1 (txM L 61 0 0 (M.2 8)).2.2.1 (txM L 61 0 0 (M.2 8)).2.2.2))
        have hw := rel_ex hS (rC S L B).2 (nI 0)
        have hk := rel_b (rel_k hw) q3
        have e0 : setB (setB (xS S L y) 2 B) 0 B = setB (xS S L y) 2 B := rel_S (rel_b2 (rel_e0 h hy (txM L 61 0 0 (M.2 8)).2.1 (txM L 61 0 0 (M.2 8)).2.2.1 (txM L 61 0 0 (M.2 8)).2.2.2))
        rw [e0] at hk
        have e1 : (setB (xS S L y) 2 B).1 0 = B := by rw [setB_ne _ B (show (0 : Nat) ≠ 2 by decide)]; exact h.1
        rw [← hist_k (B := B) (B' := (rC S L B).2) (nx := nx) (sz := sz) e1 (setB_at _ _ _)] at hk
        have e3 := kpG_3 (W := nPut (nPut (setG (exY M (txM L 61 0 0 (M.2 8))) (rC S L B).2) 3 (nI 0)) 2 (nI 0)) (B := B) (B1 := (rC S L B).2) rfl (fun j hj => ex_3 h.2.2.1 (txM L 61 0 0 (M.2 8)) (rC S L B).2 (nI 0) (nI 0) hj) sz
        have ek : kpW (nPut (nPut (setG (exY M (txM L 61 0 0 (M.2 8))) (rC S L B).2) 3 (nI 0)) 2 (nI 0)) 3 0 sz = kpG (nPut (nPut (setG (exY M (txM L 61 0 0 (M.2 8))) (rC S L B).2) 3 (nI 0)) 2 (nI 0)) 3 sz := if_neg (by decide)
        rw [ek, e3]
        exact ⟨kp_3 _ _, rfl, _, _, _, _, _, _, _, _, hk⟩
      · rw [← k3, ← hC] at q2; exact absurd hz q2
  · rcases hp with ⟨y, hy, rfl, hR, rfl⟩ | ⟨y, hy, rfl, hR, hz, rfl⟩
    · rcases hok with ⟨k1, k2⟩ | ⟨k1, k2, k3, k4, k5, -⟩
      · rcases hq with ⟨q1, rfl, rfl⟩ | ⟨q1, q2, q3, rfl, rfl⟩ | ⟨q1, q2, q3, cd, rfl⟩
        · refine Or.inl ⟨rfl, rfl, ?_⟩
          have hS := rel_0 (rel_e0 h hy (txM L 61 0 0 (M.2 8)).2.1 (txM L 61 0 0 (M.2 8)).2.2.1 (txM L 61 0 0 (M.2 8)).2.2.2)
          have hb := (rdT_e L 60 0 0 0 (S.2.2.1 1) (S.2.2.1 2) (S.2.2.1 3) (Nat.zero_le _)).1
          have hb2 : (rT S L).1 ≤ L.length + 1 := hb
          have hc := rel_ep hS (v := (rT S L).1) (by omega) (x := nI (txM L 61 0 0 (M.2 8)).2.1) (by rw [k2]; exact aOf.symm) (nI 1)
          have e : nPut (nPut (nPut (pW M (txM L 61 0 0 (M.2 8)).2.1 (txM L 61 0 0 (M.2 8)).2.2.1 (txM L 61 0 0 (M.2 8)).2.2.2) 5 (nI (txM L 61 0 0 (M.2 8)).2.1)) 4 (nI 0)) 3 (nI 1) = nPut (nPut (nPut (pW M (txM L 61 0 0 (M.2 8)).2.1 (txM L 61 0 0 (M.2 8)).2.2.1 (txM L 61 0 0 (M.2 8)).2.2.2) 4 (nI 0)) 5 (nI (txM L 61 0 0 (M.2 8)).2.1)) 3 (nI 1) := by
            refine Prod.ext (funext fun g => ?_) rfl
            show va_up (va_up (va_up _ 5 _) 4 _) 3 _ g = va_up (va_up (va_up _ 4 _) 5 _) 3 _ g
            simp only [va_up]
            by_cases g3 : g = 3
            · rw [if_pos g3, if_pos g3]
            · rw [if_neg g3, if_neg g3]
              by_cases g4 : g = 4
              · rw [if_pos g4, if_neg (by omega), if_pos g4]
              · rw [if_neg g4]
                by_cases g5 : g = 5
                · rw [if_pos g5, if_pos g5]
                · rw [if_neg g5, if_neg g5, if_neg g4]
          rw [e]
          exact hc
        · exact (c_bb q1 k1).elim
        · exact (c_bb q1 k1).elim
      · exact absurd k2 hR
    · rcases hok with ⟨k1, k2⟩ | ⟨k1, k2, k3, k4, k5, -⟩
      · omega
      · rcases hq with ⟨q1, rfl, rfl⟩ | ⟨q1, q2, q3, rfl, rfl⟩ | ⟨q1, q2, q3, cd, rfl⟩
        · exact (c_bb k1 q1).elim
        · rw [← k3, ← hC] at q2; exact absurd q2 hz
        · rw [← k3, ← hC] at q2 q3 ⊢
          refine Or.inr ⟨rfl, rfl, ?_⟩
          have hS := rel_0 (rel_b2 (rel_e0 h hy (txM L 61 0 0 (M.2 8)).2.1 (txM L 61 0 0 (M.2 8)).2.2.1 (txM L 61 0 0 (M.2 8)).2.2.2))
          have hw := rel_ex hS (rC S L B).2 (nI cd)
          have eM : cpG (nPut (nPut (setG (exY M (txM L 61 0 0 (M.2 8))) (rC S L B).2) 3 (nI cd)) 2 (nI 0)) 3 0 0 0 115 = setG (nPut (nPut (setG (exY M (txM L 61 0 0 (M.2 8))) (rC S L B).2) 3 (nI cd)) 2 (nI 0)) B := by
            refine Prod.ext rfl (funext fun r => ?_)
            by_cases e0 : r = 0
            · subst e0
              funext j
              show (if 0 ≤ j ∧ j < 0 + 115 then (nPut (nPut (setG (exY M (txM L 61 0 0 (M.2 8))) (rC S L B).2) 3 (nI cd)) 2 (nI 0)).2 3 (0 + (j - 0)) else gOf (rC S L B).2 j) = gOf B j
              by_cases c : j < 115
              · rw [if_pos (by omega), Nat.zero_add, Nat.sub_zero]
                exact ex_3 h.2.2.1 (txM L 61 0 0 (M.2 8)) (rC S L B).2 (nI cd) (nI 0) c
              · rw [if_neg (by omega), gOf_hi _ (by omega), gOf_hi _ (by omega)]
            · show va_up _ 0 _ r = va_up _ 0 _ r
              simp only [va_up]
              rw [if_neg e0, if_neg e0]
          rw [eM]
          exact rel_fp hw (v := (rC S L B).1) (by omega) (x := nI ((rC S L B).1 - 1)) ((pk_sub (b := 1) (by omega)).symm) (nI 2)
theorem cd_storyCount {n : Nat} {B : kBd} {nx sz : Nat} {L0 L : List Nat} {ep fp s0 : Nat} {S : kCs} {M : kMs} (h : relD n B nx sz L0 L ep fp s0 S M) (r : Int32) (u : kCs) (r2 : Int32) (u2 : kMs) (hp : (fun r u => r = nI (B.2 0) ∧ u = setB S 0 B) r u) (hq : (fun r u => r = nI (B.2 0) ∧ u = nPut M 3 (nI 0)) r2 u2) : r = r2 ∧ rel (n + 1) u u2 := by
  have hA := h.2.1
  have hI := hA.1
  have hn := hI.2.2.1
  have hm := hI.2.2.2.1
  have hQ := hA.2.2.2.2.1
  have hP := hA.2.2.2.2.2.1
  have hr9 := hI.2.2.2.2.2.2.2.2.1
  obtain ⟨rfl, rfl⟩ := hp
  obtain ⟨rfl, rfl⟩ := hq
  exact ⟨rfl, rel_q h _⟩
theorem cd_developerCount {n : Nat} {B : kBd} {nx sz : Nat} {L0 L : List Nat} {ep fp s0 : Nat} {S : kCs} {M : kMs} (h : relD n B nx sz L0 L ep fp s0 S M) (r : Int32) (u : kCs) (r2 : Int32) (u2 : kMs) (hp : (fun r u => r = nI (B.2 1) ∧ u = setB S 0 B) r u) (hq : (fun r u => r = nI (B.2 1) ∧ u = nPut M 3 (nI 0)) r2 u2) : r = r2 ∧ rel (n + 1) u u2 := by
  have hA := h.2.1
  have hI := hA.1
  have hn := hI.2.2.1
  have hm := hI.2.2.2.1
  have hQ := hA.2.2.2.2.1
  have hP := hA.2.2.2.2.2.1
  have hr9 := hI.2.2.2.2.2.2.2.2.1
  obtain ⟨rfl, rfl⟩ := hp
  obtain ⟨rfl, rfl⟩ := hq
  exact ⟨rfl, rel_q h _⟩
theorem cd_sprintCount {n : Nat} {B : kBd} {nx sz : Nat} {L0 L : List Nat} {ep fp s0 : Nat} {S : kCs} {M : kMs} (h : relD n B nx sz L0 L ep fp s0 S M) (r : Int32) (u : kCs) (r2 : Int32) (u2 : kMs) (hp : (fun r u => r = nI (B.2 7) ∧ u = setB S 0 B) r u) (hq : (fun r u => r = nI (B.2 7) ∧ u = nPut M 3 (nI 0)) r2 u2) : r = r2 ∧ rel (n + 1) u u2 := by
  have hA := h.2.1
  have hI := hA.1
  have hn := hI.2.2.1
  have hm := hI.2.2.2.1
  have hQ := hA.2.2.2.2.1
  have hP := hA.2.2.2.2.2.1
  have hr9 := hI.2.2.2.2.2.2.2.2.1
  obtain ⟨rfl, rfl⟩ := hp
  obtain ⟨rfl, rfl⟩ := hq
  exact ⟨rfl, rel_q h _⟩
theorem cd_scope {n : Nat} {B : kBd} {nx sz : Nat} {L0 L : List Nat} {ep fp s0 : Nat} {S : kCs} {M : kMs} (h : relD n B nx sz L0 L ep fp s0 S M) (r : Int32) (u : kCs) (r2 : Int32) (u2 : kMs) (hp : (fun r u => r = nI (psum B 0) ∧ u = setB S 0 B) r u) (hq : (fun r u => r = nI (plS B 0) ∧ u = nPut M 3 (nI 0)) r2 u2) : r = r2 ∧ rel (n + 1) u u2 := by
  have hA := h.2.1
  have hI := hA.1
  have hn := hI.2.2.1
  have hm := hI.2.2.2.1
  have hQ := hA.2.2.2.2.1
  have hP := hA.2.2.2.2.2.1
  have hr9 := hI.2.2.2.2.2.2.2.2.1
  obtain ⟨rfl, rfl⟩ := hp
  obtain ⟨rfl, rfl⟩ := hq
  exact ⟨by rw [psum_pl hn hP], rel_q h _⟩
theorem cd_left {n : Nat} {B : kBd} {nx sz : Nat} {L0 L : List Nat} {ep fp s0 : Nat} {S : kCs} {M : kMs} (h : relD n B nx sz L0 L ep fp s0 S M) (r : Int32) (u : kCs) (r2 : Int32) (u2 : kMs) (hp : (fun r u => r = nI (psum B 1) ∧ u = setB S 0 B) r u) (hq : (fun r u => r = nI (plS B 1) ∧ u = nPut M 3 (nI 0)) r2 u2) : r = r2 ∧ rel (n + 1) u u2 := by
  have hA := h.2.1
  have hI := hA.1
  have hn := hI.2.2.1
  have hm := hI.2.2.2.1
  have hQ := hA.2.2.2.2.1
  have hP := hA.2.2.2.2.2.1
  have hr9 := hI.2.2.2.2.2.2.2.2.1
  obtain ⟨rfl, rfl⟩ := hp
  obtain ⟨rfl, rfl⟩ := hq
  exact ⟨by rw [psum_pl hn hP], rel_q h _⟩
theorem cd_worked {n : Nat} {B : kBd} {nx sz : Nat} {L0 L : List Nat} {ep fp s0 : Nat} {S : kCs} {M : kMs} (h : relD n B nx sz L0 L ep fp s0 S M) (r : Int32) (u : kCs) (r2 : Int32) (u2 : kMs) (hp : (fun r u => r = nI (pwork B) ∧ u = setB S 0 B) r u) (hq : (fun r u => r = nI (plS B 0) - nI (plS B 1) ∧ u = nPut M 3 (nI 0)) r2 u2) : r = r2 ∧ rel (n + 1) u u2 := by
  have hA := h.2.1
  have hI := hA.1
  have hn := hI.2.2.1
  have hm := hI.2.2.2.1
  have hQ := hA.2.2.2.2.1
  have hP := hA.2.2.2.2.2.1
  have hr9 := hI.2.2.2.2.2.2.2.2.1
  obtain ⟨rfl, rfl⟩ := hp
  obtain ⟨rfl, rfl⟩ := hq
  exact ⟨(pwork_S hA).symm, rel_q h _⟩
theorem cd_isActive {n : Nat} {B : kBd} {nx sz : Nat} {L0 L : List Nat} {ep fp s0 : Nat} {S : kCs} {M : kMs} (h : relD n B nx sz L0 L ep fp s0 S M) (r : Int32) (u : kCs) (r2 : Int32) (u2 : kMs) (hp : (fun r u => r = nI (B.2 3) ∧ u = setB S 0 B) r u) (hq : (fun r u => r = bz (decide (B.2 3 ≠ 0)) ∧ u = nPut M 3 (nI 0)) r2 u2) : r = r2 ∧ rel (n + 1) u u2 := by
  have hA := h.2.1
  have hI := hA.1
  have hn := hI.2.2.1
  have hm := hI.2.2.2.1
  have hQ := hA.2.2.2.2.1
  have hP := hA.2.2.2.2.2.1
  have hr9 := hI.2.2.2.2.2.2.2.2.1
  obtain ⟨rfl, rfl⟩ := hp
  obtain ⟨rfl, rfl⟩ := hq
  refine ⟨?_, rel_q h _⟩
  have h2 := hI.2.2.2.2.1
  by_cases c : B.2 3 = 0
  · rw [c, bz_f (decide_eq_false (fun z => z rfl))]; rfl
  · rw [bz_t (decide_eq_true c), show B.2 3 = 1 by omega]; rfl
theorem cd_writeBurnDown {n : Nat} {B : kBd} {nx sz : Nat} {L0 L : List Nat} {ep fp s0 : Nat} {S : kCs} {M : kMs} (h : relD n B nx sz L0 L ep fp s0 S M) (r : Int32) (u : kCs) (r2 : Int32) (u2 : kMs) (hp : (fun r u => r = nI (if B.2 3 = 0 then [] else bdl B (B.2 5 + 1)).length ∧ ∃ y, sbR y (if B.2 3 = 0 then [] else bdl B (B.2 5 + 1)) ∧ u = setB (uPut S 0 y) 0 B) r u) (hq : (fun r u => r = nI (if B.2 3 = 0 then [] else bdl B (B.2 5 + 1)).length ∧ u = lW (nPut M 3 (nI 0)) (if B.2 3 = 0 then [] else bdl B (B.2 5 + 1))) r2 u2) : r = r2 ∧ rel (n + 1) u u2 := by
  have hA := h.2.1
  have hI := hA.1
  have hn := hI.2.2.1
  have hm := hI.2.2.2.1
  have hQ := hA.2.2.2.2.1
  have hP := hA.2.2.2.2.2.1
  have hr9 := hI.2.2.2.2.2.2.2.2.1
  obtain ⟨rfl, y, hy, rfl⟩ := hp
  obtain ⟨rfl, rfl⟩ := hq
  refine ⟨rfl, rel_l h hy ?_⟩
  have h54 := hI.2.2.2.2.2.1
  have h4 := hI.2.2.2.2.2.2.1
  have hb : ∀ k, (bdl B k).length ≤ 4 * k := by
    intro k
    induction k with
    | zero => exact Nat.zero_le _
    | succ k ih =>
      have l1 := (dgs_len (B.1 5 k)).1
      show ((if 0 < k then bdl B k ++ [32] else bdl B k) ++ dgs (B.1 5 k)).length ≤ _
      rw [List.length_append]
      split
      · rw [List.length_append, List.length_cons, List.length_nil]; omega
      · omega
  split
  · exact Nat.zero_le _
  · have := hb (B.2 5 + 1); omega
theorem cd_isConsistent {n : Nat} {B : kBd} {nx sz : Nat} {L0 L : List Nat} {ep fp s0 : Nat} {S : kCs} {M : kMs} (h : relD n B nx sz L0 L ep fp s0 S M) (hdec : Decidable (∀ k, k < B.2 0 → conK B k)) (r : Int32) (u : kCs) (r2 : Int32) (u2 : kMs) (hp : (fun r u => r = bz (@decide (∀ k, k < B.2 0 → conK B k) hdec) ∧ ∃ S9, sEq S S9 ∧ bN (S9.1 1) ∧ u = setB S9 0 B) r u) (hq : (fun r u => ((r = nI 1 ∧ ∀ k, k < B.2 0 → (und B k).testBit k = false) ∨ (r = nI 0 ∧ ∃ k, k < B.2 0 ∧ (und B k).testBit k = true)) ∧ u = nPut M 3 (nI 0)) r2 u2) : r = r2 ∧ rel (n + 1) u u2 := by
  have hA := h.2.1
  have hI := hA.1
  have hn := hI.2.2.1
  have hm := hI.2.2.2.1
  have hQ := hA.2.2.2.2.1
  have hP := hA.2.2.2.2.2.1
  have hr9 := hI.2.2.2.2.2.2.2.2.1
  obtain ⟨rfl, S9, hS, h1, rfl⟩ := hp
  obtain ⟨hq, rfl⟩ := hq
  refine ⟨?_, rel_x h _ hS h1⟩
  rw [bz_t (@decide_eq_true _ hdec (fun k hk => conK_ok hA hk))]
  rcases hq with ⟨rfl, -⟩ | ⟨rfl, k, hk, e⟩
  · rfl
  · exact (c_bb e (und_irr hA k)).elim
theorem cd_save {n : Nat} {B : kBd} {nx sz : Nat} {L0 L : List Nat} {ep fp s0 : Nat} {S : kCs} {M : kMs} (h : relD n B nx sz L0 L ep fp s0 S M) (r : Int32) (u : kCs) (r2 : Int32) (u2 : kMs) (hp : (fun r u => r = nI (B.2 0) ∧ u = sPut (setB (setB S 0 B) 3 B) 0 (nI 1)) r u) (hq : (fun r u => r = nI (B.2 0) ∧ u = cpG (nPut (nPut M 3 (nI 0)) 0 (nI 1)) 0 0 2 0 115) r2 u2) : r = r2 ∧ rel (n + 1) u u2 := by
  have hA := h.2.1
  have hI := hA.1
  have hn := hI.2.2.1
  have hm := hI.2.2.2.1
  have hQ := hA.2.2.2.2.1
  have hP := hA.2.2.2.2.2.1
  have hr9 := hI.2.2.2.2.2.2.2.2.1
  obtain ⟨rfl, rfl⟩ := hp
  obtain ⟨rfl, rfl⟩ := hq
  exact ⟨rfl, rel_s h⟩
