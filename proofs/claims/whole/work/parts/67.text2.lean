/-! A WHOLE TEXT: class and reference read the same commands. -/
def relI (K F Z T : Nat → Int32) (i : Nat) : Prop := ∃ k, k < 12 ∧ K i = nI k ∧ T (4 * i) = nI k ∧ (1 ≤ arK k → ∃ n, n < 100 ∧ F i = nI n ∧ T (4 * i + 1) = nI n) ∧ (2 ≤ arK k → ∃ n, n < 100 ∧ Z i = nI n ∧ T (4 * i + 2) = nI n)
def okT (R : Nat × Nat × Nat × (Nat → Int32) × (Nat → Int32) × (Nat → Int32)) (X : Bool × Nat × Nat × (Nat → Int32)) : Prop :=
  (X.1 = false ∧ R.1 = X.2.1 + 1) ∨ (X.1 = true ∧ R.1 = 0 ∧ R.2.2.1 = X.2.2.1 ∧ X.2.2.1 ≤ 30 ∧ 1 ≤ X.2.2.1 ∧ ∀ i, i < X.2.2.1 → relI R.2.2.2.1 R.2.2.2.2.1 R.2.2.2.2.2 X.2.2.2 i)
def rdQ (L : List Nat) : Nat → Nat → Nat → (Nat → Int32) → (Nat → Int32) → (Nat → Int32) → Nat × Nat × Nat × (Nat → Int32) × (Nat → Int32) × (Nat → Int32)
  | 0, idx, a, K, F, Z => (a + 1, a, idx, K, F, Z)
  | f + 1, idx, a, K, F, Z =>
    if (rdC L idx a 12 0 a F Z).1 = 0 then ((rdC L idx a 12 0 a F Z).2.1 + 1, (rdC L idx a 12 0 a F Z).2.1, idx, K, (rdC L idx a 12 0 a F Z).2.2.1, (rdC L idx a 12 0 a F Z).2.2.2)
    else if (rdC L idx a 12 0 a F Z).2.1 = L.length then (0, (rdC L idx a 12 0 a F Z).2.1, idx + 1, upd K idx (nI ((rdC L idx a 12 0 a F Z).1 - 1)), (rdC L idx a 12 0 a F Z).2.2.1, (rdC L idx a 12 0 a F Z).2.2.2)
    else rdT L f (idx + 1) (rdC L idx a 12 0 a F Z).2.1 (idx + 1) (upd K idx (nI ((rdC L idx a 12 0 a F Z).1 - 1))) (rdC L idx a 12 0 a F Z).2.2.1 (rdC L idx a 12 0 a F Z).2.2.2
theorem rdT_0 (L : List Nat) (f : Nat) (K F Z : Nat → Int32) : rdT L (f + 1) 0 0 0 K F Z = rdQ L (f + 1) 0 0 K F Z := rfl
theorem rdT_s (L : List Nat) (f idx p : Nat) (K F Z : Nat → Int32) (h : p < L.length ∧ L.getD p 0 = 59) : rdT L (f + 1) (idx + 1) p (idx + 1) K F Z = rdQ L (f + 1) (idx + 1) (p + 1) K F Z := by
  rw [rdT, if_neg (fun z => z.2 h)]
  rfl
theorem rdT_zz (L : List Nat) (f idx p : Nat) (K F Z : Nat → Int32) (h : ¬ (p < L.length ∧ L.getD p 0 = 59)) : rdT L (f + 1) (idx + 1) p (idx + 1) K F Z = (p + 1, p, idx + 1, K, F, Z) := by
  rw [rdT, if_pos ⟨Nat.succ_pos idx, h⟩]
theorem lt4 {a b : Nat} (h : a < b) : 4 * a < 4 * b ∧ 4 * a + 1 < 4 * b ∧ 4 * a + 2 < 4 * b := by omega
theorem rel_new {K F Z T T' F' Z' : Nat → Int32} {idx k : Nat} (hold : ∀ i, i < idx → relI K F Z T i) (hk : k < 12) (h1 : T' (4 * idx) = nI k) (h2 : ∀ j, j < 4 * idx → T' j = T j) (h3 : ∀ i, i ≠ idx → F' i = F i ∧ Z' i = Z i) (h4 : 1 ≤ arK k → ∃ n, n < 100 ∧ F' idx = nI n ∧ T' (4 * idx + 1) = nI n) (h5 : 2 ≤ arK k → ∃ n, n < 100 ∧ Z' idx = nI n ∧ T' (4 * idx + 2) = nI n) : ∀ i, i < idx + 1 → relI (upd K idx (nI k)) F' Z' T' i := by
  intro i hi
  by_cases e : i = idx
  · rw [e]
    exact ⟨k, hk, upd_at _ _ _, h1, h4, h5⟩
  · have hl : i < idx := by omega
    obtain ⟨l0, l1, l2⟩ := lt4 hl
    obtain ⟨q, a1, a2, a3, a4, a5⟩ := hold i hl
    obtain ⟨b1, b2⟩ := h3 i e
    refine ⟨q, a1, (upd_nf e).trans a2, (h2 (4 * i) l0).trans a3, fun z => ?_, fun z => ?_⟩
    · obtain ⟨n, c1, c2, c3⟩ := a4 z
      exact ⟨n, c1, b1.trans c2, (h2 (4 * i + 1) l1).trans c3⟩
    · obtain ⟨n, c1, c2, c3⟩ := a5 z
      exact ⟨n, c1, b2.trans c2, (h2 (4 * i + 2) l2).trans c3⟩
theorem tx_ok {L : List Nat} (hL : L.length ≤ 60) : ∀ f idx a (T K F Z : Nat → Int32), f + idx = 60 → 2 * idx ≤ a → a ≤ L.length → (∀ i, i < idx → relI K F Z T i) → okT (rdQ L f idx a K F Z) (txM L (f + 1) idx a T)
  | 0, idx, a, T, K, F, Z, h1, h2, h3, _ => by omega
  | f + 1, idx, a, T, K, F, Z, h1, h2, h3, hr => by
    obtain ⟨p1, p2⟩ := cm_rd L idx idx a T F Z
    obtain ⟨q1, q2, q3⟩ := cmM_le L idx a T h3
    rw [txM, rdQ]
    rcases p2 with ⟨e1, e2⟩ | ⟨k, hk, e1, e2, e3, e4, e5, e6, e7⟩
    · rw [if_pos e1, if_neg (by rw [e2]; decide)]
      exact Or.inl ⟨rfl, congrArg (· + 1) p1⟩
    · have q4 := q3 e2
      rw [if_neg (by omega), if_pos e2, show (rdC L idx a 12 0 a F Z).1 - 1 = k by omega, p1]
      have hnew := rel_new (K := K) hr hk e3 e4 e5 e6 e7
      by_cases c : (cmM L idx a T).2.1 < L.length ∧ L.getD (cmM L idx a T).2.1 0 = 59
      · obtain ⟨f', rfl⟩ : ∃ f', f = f' + 1 := ⟨f - 1, by omega⟩
        rw [if_neg (by omega), if_pos c, rdT_s L f' idx _ _ _ _ c]
        exact tx_ok hL (f' + 1) (idx + 1) _ _ _ _ _ (by omega) (by omega) (by omega) hnew
      · rw [if_neg c]
        by_cases d : (cmM L idx a T).2.1 = L.length
        · rw [if_pos d]
          exact Or.inr ⟨decide_eq_true d, rfl, rfl, by show idx + 1 ≤ 30; omega, by show 1 ≤ idx + 1; omega, hnew⟩
        · obtain ⟨f', rfl⟩ : ∃ f', f = f' + 1 := ⟨f - 1, by omega⟩
          rw [if_neg d, rdT_zz L f' idx _ _ _ _ c]
          exact Or.inl ⟨decide_eq_false d, rfl⟩
theorem tx_all {L : List Nat} (hL : L.length ≤ 60) (S : kCs) (T : Nat → Int32) : okT (rT S L) (txM L 61 0 0 T) := by
  have h := tx_ok hL 60 0 0 T (S.2.2.1 1) (S.2.2.1 2) (S.2.2.1 3) (by omega) (by omega) (Nat.zero_le _) (fun i hi => absurd hi (Nat.not_lt_zero i))
  have e : rT S L = rdQ L 60 0 0 (S.2.2.1 1) (S.2.2.1 2) (S.2.2.1 3) := rdT_0 L 59 _ _ _
  rw [e]
  exact h
