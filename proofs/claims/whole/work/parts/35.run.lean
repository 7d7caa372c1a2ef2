/-! A TEXT READ AND RUN: small numbers in its rows; boards stay sound. -/
def okA (b : Nat) (A : Nat → Int32) : Prop := ∀ i, i < 60 → ∃ n, n < b ∧ A i = nI n
theorem okA_upd {b : Nat} {A : Nat → Int32} (h : okA b A) {j n : Nat} (hn : n < b) : okA b (upd A j (nI n)) := by
  intro i hi
  by_cases e : i = j
  · exact ⟨n, hn, by simp [upd, e]⟩
  · obtain ⟨n', h1, h2⟩ := h i hi
    exact ⟨n', h1, by simp [upd, e, h2]⟩
def nOf (A : Nat → Int32) (i : Nat) : Nat := (A i).toInt.toNat
theorem nOf_ok {b : Nat} (hb : b < 2147483648) {A : Nat → Int32} (h : okA b A) (i : Nat) (hi : i < 60) : A i = nI (nOf A i) ∧ nOf A i < b := by
  obtain ⟨n, h1, h2⟩ := h i hi
  have e : nOf A i = n := by unfold nOf; rw [h2, nI_toInt (by omega)]; omega
  rw [e]
  exact ⟨h2, h1⟩
theorem rdF_ok (L : List Nat) (idx : Nat) : ∀ (cs : List Nat) (p k : Nat) (F Z : Nat → Int32), okA 100 F → okA 100 Z → okA 100 (rdF L idx cs p k F Z).2.2.1 ∧ okA 100 (rdF L idx cs p k F Z).2.2.2
  | [], p, k, F, Z, hF, hZ => ⟨hF, hZ⟩
  | c :: cs, p, k, F, Z, hF, hZ => by
    unfold rdF
    split
    · split
      · exact ⟨hF, hZ⟩
      · have h1 := tNm_le L (decide (c = 78)) p
        refine rdF_ok L idx cs _ _ _ _ ?_ ?_
        · split
          · exact okA_upd hF (by omega)
          · exact hF
        · split
          · exact hZ
          · exact okA_upd hZ (by omega)
    · split
      · exact rdF_ok L idx cs _ _ _ _ hF hZ
      · exact ⟨hF, hZ⟩
theorem rdC_ok (L : List Nat) (idx st : Nat) : ∀ (f k fur : Nat) (F Z : Nat → Int32), okA 100 F → okA 100 Z → okA 100 (rdC L idx st f k fur F Z).2.2.1 ∧ okA 100 (rdC L idx st f k fur F Z).2.2.2
  | 0, _, fur, F, Z, hF, hZ => ⟨hF, hZ⟩
  | f + 1, k, fur, F, Z, hF, hZ => by
    have h1 := rdF_ok L idx (kLs k) st 0 F Z hF hZ
    unfold rdC
    split
    · exact h1
    · exact rdC_ok L idx st f _ _ _ _ h1.1 h1.2
theorem rdT_ok (L : List Nat) : ∀ (f i p cm : Nat) (K F Z : Nat → Int32), okA 12 K → okA 100 F → okA 100 Z → okA 12 (rdT L f i p cm K F Z).2.2.2.1 ∧ okA 100 (rdT L f i p cm K F Z).2.2.2.2.1 ∧ okA 100 (rdT L f i p cm K F Z).2.2.2.2.2
  | 0, i, p, cm, K, F, Z, hK, hF, hZ => ⟨hK, hF, hZ⟩
  | f + 1, i, p, cm, K, F, Z, hK, hF, hZ => by
    by_cases hc : 0 < i ∧ ¬ (p < L.length ∧ L.getD p 0 = 59)
    · rw [rdT, if_pos hc]; exact ⟨hK, hF, hZ⟩
    · rw [rdT, if_neg hc]
      simp only
      generalize (if 0 < i then p + 1 else p) = st
      have h1 := rdC_ok L i st 12 0 st F Z hF hZ
      have h2 := rdC_k L i st 12 0 st F Z
      generalize rdC L i st 12 0 st F Z = r at h1 h2 ⊢
      have h3 : okA 12 (upd K i (nI (r.1 - 1))) := okA_upd hK (by omega)
      by_cases c1 : r.1 = 0
      · rw [if_pos c1]; exact ⟨hK, h1.1, h1.2⟩
      · rw [if_neg c1]
        by_cases c2 : r.2.1 = L.length
        · rw [if_pos c2]; exact ⟨h3, h1.1, h1.2⟩
        · rw [if_neg c2]; exact rdT_ok L f _ _ _ _ _ _ h3 h1.1 h1.2
theorem rdT_cm (L : List Nat) : ∀ (f i p cm : Nat) (K F Z : Nat → Int32), (rdT L f i p cm K F Z).2.2.1 ≤ cm + f
  | 0, i, p, cm, K, F, Z => Nat.le_refl _
  | f + 1, i, p, cm, K, F, Z => by
    by_cases hc : 0 < i ∧ ¬ (p < L.length ∧ L.getD p 0 = 59)
    · rw [rdT, if_pos hc]; show cm ≤ cm + (f + 1); omega
    · rw [rdT, if_neg hc]
      simp only
      generalize (if 0 < i then p + 1 else p) = st
      generalize rdC L i st 12 0 st F Z = r
      by_cases c1 : r.1 = 0
      · rw [if_pos c1]; show cm ≤ cm + (f + 1); omega
      · rw [if_neg c1]
        by_cases c2 : r.2.1 = L.length
        · rw [if_pos c2]; show cm + 1 ≤ cm + (f + 1); omega
        · rw [if_neg c2]
          have := rdT_cm L f (i + 1) r.2.1 (cm + 1) (upd K i (nI (r.1 - 1))) r.2.2.1 r.2.2.2
          omega
theorem rdT_e (L : List Nat) : ∀ (f i p cm : Nat) (K F Z : Nat → Int32), p ≤ L.length → (rdT L f i p cm K F Z).1 ≤ L.length + 1 ∧ (rdT L f i p cm K F Z).2.1 ≤ L.length
  | 0, i, p, cm, K, F, Z, h => ⟨Nat.succ_le_succ h, h⟩
  | f + 1, i, p, cm, K, F, Z, h => by
    by_cases hc : 0 < i ∧ ¬ (p < L.length ∧ L.getD p 0 = 59)
    · rw [rdT, if_pos hc]; exact ⟨Nat.succ_le_succ h, h⟩
    · rw [rdT, if_neg hc]
      have h0 : (if 0 < i then p + 1 else p) ≤ L.length := by
        by_cases h2 : 0 < i
        · rw [if_pos h2]
          by_cases h3 : p < L.length ∧ L.getD p 0 = 59
          · omega
          · exact absurd ⟨h2, h3⟩ hc
        · rw [if_neg h2]; exact h
      simp only
      generalize (if 0 < i then p + 1 else p) = st at h0 ⊢
      have h1 := rdC_le L i h0 12 0 st F Z h0
      generalize rdC L i st 12 0 st F Z = r at h1 ⊢
      by_cases c1 : r.1 = 0
      · rw [if_pos c1]; exact ⟨Nat.succ_le_succ h1, h1⟩
      · rw [if_neg c1]
        by_cases c2 : r.2.1 = L.length
        · rw [if_pos c2]; exact ⟨Nat.zero_le _, h1⟩
        · rw [if_neg c2]; exact rdT_e L f _ _ _ _ _ _ h1
def rT (S : kCs) (L : List Nat) : Nat × Nat × Nat × (Nat → Int32) × (Nat → Int32) × (Nat → Int32) := rdT L 60 0 0 0 (S.2.2.1 1) (S.2.2.1 2) (S.2.2.1 3)
def rC (S : kCs) (L : List Nat) (B : kBd) : Nat × kBd := rcN (nOf (rT S L).2.2.2.1) (nOf (rT S L).2.2.2.2.1) (nOf (rT S L).2.2.2.2.2) (rT S L).2.2.1 0 B
/-- the class after its text was taken -/
def xS (S : kCs) (L : List Nat) (y : kSb) : kCs := uPut (xW S (rT S L).2.1 (rT S L).2.2.1 (rT S L).2.2.2.1 (rT S L).2.2.2.2.1 (rT S L).2.2.2.2.2) 1 y
theorem rcN_ok {kd fa sb : Nat → Nat} (hk : ∀ i, i < 60 → kd i < 12 ∧ fa i < 100 ∧ sb i < 100) : ∀ f i B, i + f ≤ 60 → bI B → bI (rcN kd fa sb f i B).2 ∧ (rcN kd fa sb f i B).1 ≤ i + f
  | 0, i, B, _, h => ⟨h, Nat.zero_le _⟩
  | f + 1, i, B, hf, h => by
    obtain ⟨h1, h2, h3⟩ := hk i (by omega)
    unfold rcN
    split
    · rename_i ha
      have := rcN_ok hk f (i + 1) _ (by omega) (bI_cry h h1 h2 h3 ha)
      exact ⟨this.1, by omega⟩
    · exact ⟨h, by show i + 1 ≤ i + (f + 1); omega⟩
theorem xW_self {T : kCs} {p cm : Nat} (h5 : T.2.1 5 = nI cm) (h6 : T.2.1 6 = nI p) : xW T p cm (T.2.2.1 1) (T.2.2.1 2) (T.2.2.1 3) = T := by
  unfold xW
  have e1 : va_up (va_up T.2.1 5 (nI cm)) 6 (nI p) = T.2.1 := by
    funext j
    simp only [va_up]
    split
    · rename_i h; rw [h, h6]
    · split
      · rename_i h; rw [h, h5]
      · rfl
  have e2 : va_up (va_up (va_up T.2.2.1 1 (T.2.2.1 1)) 2 (T.2.2.1 2)) 3 (T.2.2.1 3) = T.2.2.1 := by
    funext j
    simp only [va_up]
    split
    · rename_i h; rw [h]
    · split
      · rename_i h; rw [h]
      · split
        · rename_i h; rw [h]
        · rfl
  rw [e1, e2]
theorem cH_x {V : kEnv} {s : State} {H : Heap} {locs : List Loc} {T : kCs} {p cm : Nat} (h5 : T.2.1 5 = nI cm) (h6 : T.2.1 6 = nI p) (h : cH V s H locs (cWs V T)) : cH V s H locs (cWs V (xW T p cm (T.2.2.1 1) (T.2.2.1 2) (T.2.2.1 3))) := by rw [xW_self h5 h6]; exact h
