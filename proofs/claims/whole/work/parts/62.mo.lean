/-! THE REFERENCE READS A TEXT: commands. -/
def bhM (L : List Nat) (p : Nat) (a : Nat) (T : Nat → Int32) : Bool × Nat × (Nat → Int32) :=
  (if (fgM L 2 p a T).1 = true then (if (fgM L 2 (p + 1) ((fgM L 2 p a T).2.1) ((fgM L 2 p a T).2.2)).1 = true then (true, (fgM L 2 (p + 1) ((fgM L 2 p a T).2.1) ((fgM L 2 p a T).2.2)).2.1, (fgM L 2 (p + 1) ((fgM L 2 p a T).2.1) ((fgM L 2 p a T).2.2)).2.2) else (false, (fgM L 2 (p + 1) ((fgM L 2 p a T).2.1) ((fgM L 2 p a T).2.2)).2.1, (fgM L 2 (p + 1) ((fgM L 2 p a T).2.1) ((fgM L 2 p a T).2.2)).2.2)) else (false, (fgM L 2 p a T).2.1, (fgM L 2 p a T).2.2))
theorem bhM_le (L : List Nat) (p : Nat) (a : Nat) (T : Nat → Int32) (h : a ≤ L.length) : a ≤ (bhM L p a T).2.1 ∧ (bhM L p a T).2.1 ≤ L.length := by
  unfold bhM
  have g0 := fgM_le L 2 p a T (by omega)
  by_cases e0 : (fgM L 2 p a T).1 = true
  · rw [if_pos e0]
    have g1 := fgM_le L 2 (p + 1) ((fgM L 2 p a T).2.1) ((fgM L 2 p a T).2.2) (by omega)
    by_cases e1 : (fgM L 2 (p + 1) ((fgM L 2 p a T).2.1) ((fgM L 2 p a T).2.2)).1 = true
    · rw [if_pos e1]
      exact ⟨by show _ ≤ (fgM L 2 (p + 1) ((fgM L 2 p a T).2.1) ((fgM L 2 p a T).2.2)).2.1; omega, by show (fgM L 2 (p + 1) ((fgM L 2 p a T).2.1) ((fgM L 2 p a T).2.2)).2.1 ≤ L.length; omega⟩
    · rw [if_neg e1]
      exact ⟨by show _ ≤ (fgM L 2 (p + 1) ((fgM L 2 p a T).2.1) ((fgM L 2 p a T).2.2)).2.1; omega, by show (fgM L 2 (p + 1) ((fgM L 2 p a T).2.1) ((fgM L 2 p a T).2.2)).2.1 ≤ L.length; omega⟩
  · rw [if_neg e0]
    exact ⟨by show _ ≤ (fgM L 2 p a T).2.1; omega, by show (fgM L 2 p a T).2.1 ≤ L.length; omega⟩
def wuM (L : List Nat) (t p : Nat) (a : Nat) (T : Nat → Int32) : Bool × Nat × (Nat → Int32) :=
  (if a < L.length ∧ L.getD a 0 = 110 then (if a + 1 < L.length ∧ L.getD (a + 1) 0 = 98 then (if (mtW L (kLs 14) (a + 1 + 1)).1 = true then (if (bhM L p ((mtW L (kLs 14) (a + 1 + 1)).2) (upd T (4 * t) (nI 3))).1 = true then (true, (bhM L p ((mtW L (kLs 14) (a + 1 + 1)).2) (upd T (4 * t) (nI 3))).2.1, (bhM L p ((mtW L (kLs 14) (a + 1 + 1)).2) (upd T (4 * t) (nI 3))).2.2) else (false, (bhM L p ((mtW L (kLs 14) (a + 1 + 1)).2) (upd T (4 * t) (nI 3))).2.1, (bhM L p ((mtW L (kLs 14) (a + 1 + 1)).2) (upd T (4 * t) (nI 3))).2.2)) else (false, (mtW L (kLs 14) (a + 1 + 1)).2, upd T (4 * t) (nI 3))) else (if a + 1 < L.length ∧ L.getD (a + 1) 0 = 112 then (if (mtW L (kLs 15) (a + 1 + 1)).1 = true then (if (fgM L 2 p ((mtW L (kLs 15) (a + 1 + 1)).2) (upd T (4 * t) (nI 5))).1 = true then (true, (fgM L 2 p ((mtW L (kLs 15) (a + 1 + 1)).2) (upd T (4 * t) (nI 5))).2.1, (fgM L 2 p ((mtW L (kLs 15) (a + 1 + 1)).2) (upd T (4 * t) (nI 5))).2.2) else (false, (fgM L 2 p ((mtW L (kLs 15) (a + 1 + 1)).2) (upd T (4 * t) (nI 5))).2.1, (fgM L 2 p ((mtW L (kLs 15) (a + 1 + 1)).2) (upd T (4 * t) (nI 5))).2.2)) else (false, (mtW L (kLs 15) (a + 1 + 1)).2, upd T (4 * t) (nI 5))) else (false, a + 1, T))) else (false, a, T))
theorem wuM_le (L : List Nat) (t p : Nat) (a : Nat) (T : Nat → Int32) (h : a ≤ L.length) : a ≤ (wuM L t p a T).2.1 ∧ (wuM L t p a T).2.1 ≤ L.length := by
  unfold wuM
  by_cases e0 : a < L.length ∧ L.getD a 0 = 110
  · rw [if_pos e0]; have e01 := e0.1
    by_cases e1 : a + 1 < L.length ∧ L.getD (a + 1) 0 = 98
    · rw [if_pos e1]; have e11 := e1.1
      have g2 := mtW_le L (kLs 14) (a + 1 + 1) (by omega)
      by_cases e2 : (mtW L (kLs 14) (a + 1 + 1)).1 = true
      · rw [if_pos e2]
        have g3 := bhM_le L p ((mtW L (kLs 14) (a + 1 + 1)).2) (upd T (4 * t) (nI 3)) (by omega)
        by_cases e3 : (bhM L p ((mtW L (kLs 14) (a + 1 + 1)).2) (upd T (4 * t) (nI 3))).1 = true
        · rw [if_pos e3]
          exact ⟨by show _ ≤ (bhM L p ((mtW L (kLs 14) (a + 1 + 1)).2) (upd T (4 * t) (nI 3))).2.1; omega, by show (bhM L p ((mtW L (kLs 14) (a + 1 + 1)).2) (upd T (4 * t) (nI 3))).2.1 ≤ L.length; omega⟩
        · rw [if_neg e3]
          exact ⟨by show _ ≤ (bhM L p ((mtW L (kLs 14) (a + 1 + 1)).2) (upd T (4 * t) (nI 3))).2.1; omega, by show (bhM L p ((mtW L (kLs 14) (a + 1 + 1)).2) (upd T (4 * t) (nI 3))).2.1 ≤ L.length; omega⟩
      · rw [if_neg e2]
        exact ⟨by show _ ≤ (mtW L (kLs 14) (a + 1 + 1)).2; omega, by show (mtW L (kLs 14) (a + 1 + 1)).2 ≤ L.length; omega⟩
    · rw [if_neg e1]
      by_cases e2 : a + 1 < L.length ∧ L.getD (a + 1) 0 = 112
      · rw [if_pos e2]; have e21 := e2.1
        have g3 := mtW_le L (kLs 15) (a + 1 + 1) (by omega)
        by_cases e3 : (mtW L (kLs 15) (a + 1 + 1)).1 = true
        · rw [if_pos e3]
          have g4 := fgM_le L 2 p ((mtW L (kLs 15) (a + 1 + 1)).2) (upd T (4 * t) (nI 5)) (by omega)
          by_cases e4 : (fgM L 2 p ((mtW L (kLs 15) (a + 1 + 1)).2) (upd T (4 * t) (nI 5))).1 = true
          · rw [if_pos e4]
            exact ⟨by show _ ≤ (fgM L 2 p ((mtW L (kLs 15) (a + 1 + 1)).2) (upd T (4 * t) (nI 5))).2.1; omega, by show (fgM L 2 p ((mtW L (kLs 15) (a + 1 + 1)).2) (upd T (4 * t) (nI 5))).2.1 ≤ L.length; omega⟩
          · rw [if_neg e4]
            exact ⟨by show _ ≤ (fgM L 2 p ((mtW L (kLs 15) (a + 1 + 1)).2) (upd T (4 * t) (nI 5))).2.1; omega, by show (fgM L 2 p ((mtW L (kLs 15) (a + 1 + 1)).2) (upd T (4 * t) (nI 5))).2.1 ≤ L.length; omega⟩
        · rw [if_neg e3]
          exact ⟨by show _ ≤ (mtW L (kLs 15) (a + 1 + 1)).2; omega, by show (mtW L (kLs 15) (a + 1 + 1)).2 ≤ L.length; omega⟩
      · rw [if_neg e2]
        exact ⟨by show _ ≤ a + 1; omega, by show a + 1 ≤ L.length; omega⟩
  · rw [if_neg e0]
    exact ⟨by show _ ≤ a; omega, by show a ≤ L.length; omega⟩
def wtM (L : List Nat) (t p : Nat) (a : Nat) (T : Nat → Int32) : Bool × Nat × (Nat → Int32) :=
  (if a < L.length ∧ L.getD a 0 = 116 then (if a + 1 < L.length ∧ L.getD (a + 1) 0 = 111 then (if (mtW L (kLs 12) (a + 1 + 1)).1 = true then (if (fgM L 2 p ((mtW L (kLs 12) (a + 1 + 1)).2) (upd T (4 * t) (nI 0))).1 = true then (true, (fgM L 2 p ((mtW L (kLs 12) (a + 1 + 1)).2) (upd T (4 * t) (nI 0))).2.1, (fgM L 2 p ((mtW L (kLs 12) (a + 1 + 1)).2) (upd T (4 * t) (nI 0))).2.2) else (false, (fgM L 2 p ((mtW L (kLs 12) (a + 1 + 1)).2) (upd T (4 * t) (nI 0))).2.1, (fgM L 2 p ((mtW L (kLs 12) (a + 1 + 1)).2) (upd T (4 * t) (nI 0))).2.2)) else (false, (mtW L (kLs 12) (a + 1 + 1)).2, upd T (4 * t) (nI 0))) else (if a + 1 < L.length ∧ L.getD (a + 1) 0 = 97 then (if (mtW L (kLs 13) (a + 1 + 1)).1 = true then (if (fgM L 2 p ((mtW L (kLs 13) (a + 1 + 1)).2) (upd T (4 * t) (nI 6))).1 = true then (true, (fgM L 2 p ((mtW L (kLs 13) (a + 1 + 1)).2) (upd T (4 * t) (nI 6))).2.1, (fgM L 2 p ((mtW L (kLs 13) (a + 1 + 1)).2) (upd T (4 * t) (nI 6))).2.2) else (false, (fgM L 2 p ((mtW L (kLs 13) (a + 1 + 1)).2) (upd T (4 * t) (nI 6))).2.1, (fgM L 2 p ((mtW L (kLs 13) (a + 1 + 1)).2) (upd T (4 * t) (nI 6))).2.2)) else (false, (mtW L (kLs 13) (a + 1 + 1)).2, upd T (4 * t) (nI 6))) else (false, a + 1, T))) else (false, a, T))
theorem wtM_le (L : List Nat) (t p : Nat) (a : Nat) (T : Nat → Int32) (h : a ≤ L.length) : a ≤ (wtM L t p a T).2.1 ∧ (wtM L t p a T).2.1 ≤ L.length := by
  unfold wtM
  by_cases e0 : a < L.length ∧ L.getD a 0 = 116
  · rw [if_pos e0]; have e01 := e0.1
    by_cases e1 : a + 1 < L.length ∧ L.getD (a + 1) 0 = 111
    · rw [if_pos e1]; have e11 := e1.1
      have g2 := mtW_le L (kLs 12) (a + 1 + 1) (by omega)
      by_cases e2 : (mtW L (kLs 12) (a + 1 + 1)).1 = true
      · rw [if_pos e2]
        have g3 := fgM_le L 2 p ((mtW L (kLs 12) (a + 1 + 1)).2) (upd T (4 * t) (nI 0)) (by omega)
        by_cases e3 : (fgM L 2 p ((mtW L (kLs 12) (a + 1 + 1)).2) (upd T (4 * t) (nI 0))).1 = true
        · rw [if_pos e3]
          exact ⟨by show _ ≤ (fgM L 2 p ((mtW L (kLs 12) (a + 1 + 1)).2) (upd T (4 * t) (nI 0))).2.1; omega, by show (fgM L 2 p ((mtW L (kLs 12) (a + 1 + 1)).2) (upd T (4 * t) (nI 0))).2.1 ≤ L.length; omega⟩
        · rw [if_neg e3]
          exact ⟨by show _ ≤ (fgM L 2 p ((mtW L (kLs 12) (a + 1 + 1)).2) (upd T (4 * t) (nI 0))).2.1; omega, by show (fgM L 2 p ((mtW L (kLs 12) (a + 1 + 1)).2) (upd T (4 * t) (nI 0))).2.1 ≤ L.length; omega⟩
      · rw [if_neg e2]
        exact ⟨by show _ ≤ (mtW L (kLs 12) (a + 1 + 1)).2; omega, by show (mtW L (kLs 12) (a + 1 + 1)).2 ≤ L.length; omega⟩
    · rw [if_neg e1]
      by_cases e2 : a + 1 < L.length ∧ L.getD (a + 1) 0 = 97
      · rw [if_pos e2]; have e21 := e2.1
        have g3 := mtW_le L (kLs 13) (a + 1 + 1) (by omega)
        by_cases e3 : (mtW L (kLs 13) (a + 1 + 1)).1 = true
        · rw [if_pos e3]
          have g4 := fgM_le L 2 p ((mtW L (kLs 13) (a + 1 + 1)).2) (upd T (4 * t) (nI 6)) (by omega)
          by_cases e4 : (fgM L 2 p ((mtW L (kLs 13) (a + 1 + 1)).2) (upd T (4 * t) (nI 6))).1 = true
          · rw [if_pos e4]
            exact ⟨by show _ ≤ (fgM L 2 p ((mtW L (kLs 13) (a + 1 + 1)).2) (upd T (4 * t) (nI 6))).2.1; omega, by show (fgM L 2 p ((mtW L (kLs 13) (a + 1 + 1)).2) (upd T (4 * t) (nI 6))).2.1 ≤ L.length; omega⟩
          · rw [if_neg e4]
            exact ⟨by show _ ≤ (fgM L 2 p ((mtW L (kLs 13) (a + 1 + 1)).2) (upd T (4 * t) (nI 6))).2.1; omega, by show (fgM L 2 p ((mtW L (kLs 13) (a + 1 + 1)).2) (upd T (4 * t) (nI 6))).2.1 ≤ L.length; omega⟩
        · rw [if_neg e3]
          exact ⟨by show _ ≤ (mtW L (kLs 13) (a + 1 + 1)).2; omega, by show (mtW L (kLs 13) (a + 1 + 1)).2 ≤ L.length; omega⟩
      · rw [if_neg e2]
        exact ⟨by show _ ≤ a + 1; omega, by show a + 1 ≤ L.length; omega⟩
  · rw [if_neg e0]
    exact ⟨by show _ ≤ a; omega, by show a ≤ L.length; omega⟩
def cmM (L : List Nat) (t : Nat) (a : Nat) (T : Nat → Int32) : Bool × Nat × (Nat → Int32) :=
  (if a < L.length ∧ L.getD a 0 = 115 then (if (wtM L t (4 * t + 1) (a + 1) T).1 = true then (true, (wtM L t (4 * t + 1) (a + 1) T).2.1, (wtM L t (4 * t + 1) (a + 1) T).2.2) else (false, (wtM L t (4 * t + 1) (a + 1) T).2.1, (wtM L t (4 * t + 1) (a + 1) T).2.2)) else (if a < L.length ∧ L.getD a 0 = 117 then (if (wuM L t (4 * t + 1) (a + 1) T).1 = true then (true, (wuM L t (4 * t + 1) (a + 1) T).2.1, (wuM L t (4 * t + 1) (a + 1) T).2.2) else (false, (wuM L t (4 * t + 1) (a + 1) T).2.1, (wuM L t (4 * t + 1) (a + 1) T).2.2)) else (if a < L.length ∧ L.getD a 0 = 98 then (if (mtW L (kLs 14) (a + 1)).1 = true then (if (bhM L (4 * t + 1) ((mtW L (kLs 14) (a + 1)).2) (upd T (4 * t) (nI 2))).1 = true then (true, (bhM L (4 * t + 1) ((mtW L (kLs 14) (a + 1)).2) (upd T (4 * t) (nI 2))).2.1, (bhM L (4 * t + 1) ((mtW L (kLs 14) (a + 1)).2) (upd T (4 * t) (nI 2))).2.2) else (false, (bhM L (4 * t + 1) ((mtW L (kLs 14) (a + 1)).2) (upd T (4 * t) (nI 2))).2.1, (bhM L (4 * t + 1) ((mtW L (kLs 14) (a + 1)).2) (upd T (4 * t) (nI 2))).2.2)) else (false, (mtW L (kLs 14) (a + 1)).2, upd T (4 * t) (nI 2))) else (if a < L.length ∧ L.getD a 0 = 97 then (if (mtW L (kLs 16) (a + 1)).1 = true then (if (fgM L 2 (4 * t + 1) ((mtW L (kLs 16) (a + 1)).2) (upd T (4 * t) (nI 7))).1 = true then (if (fgM L 1 (4 * t + 1 + 1) ((fgM L 2 (4 * t + 1) ((mtW L (kLs 16) (a + 1)).2) (upd T (4 * t) (nI 7))).2.1) ((fgM L 2 (4 * t + 1) ((mtW L (kLs 16) (a + 1)).2) (upd T (4 * t) (nI 7))).2.2)).1 = true then (true, (fgM L 1 (4 * t + 1 + 1) ((fgM L 2 (4 * t + 1) ((mtW L (kLs 16) (a + 1)).2) (upd T (4 * t) (nI 7))).2.1) ((fgM L 2 (4 * t + 1) ((mtW L (kLs 16) (a + 1)).2) (upd T (4 * t) (nI 7))).2.2)).2.1, (fgM L 1 (4 * t + 1 + 1) ((fgM L 2 (4 * t + 1) ((mtW L (kLs 16) (a + 1)).2) (upd T (4 * t) (nI 7))).2.1) ((fgM L 2 (4 * t + 1) ((mtW L (kLs 16) (a + 1)).2) (upd T (4 * t) (nI 7))).2.2)).2.2) else (false, (fgM L 1 (4 * t + 1 + 1) ((fgM L 2 (4 * t + 1) ((mtW L (kLs 16) (a + 1)).2) (upd T (4 * t) (nI 7))).2.1) ((fgM L 2 (4 * t + 1) ((mtW L (kLs 16) (a + 1)).2) (upd T (4 * t) (nI 7))).2.2)).2.1, (fgM L 1 (4 * t + 1 + 1) ((fgM L 2 (4 * t + 1) ((mtW L (kLs 16) (a + 1)).2) (upd T (4 * t) (nI 7))).2.1) ((fgM L 2 (4 * t + 1) ((mtW L (kLs 16) (a + 1)).2) (upd T (4 * t) (nI 7))).2.2)).2.2)) else (false, (fgM L 2 (4 * t + 1) ((mtW L (kLs 16) (a + 1)).2) (upd T (4 * t) (nI 7))).2.1, (fgM L 2 (4 * t + 1) ((mtW L (kLs 16) (a + 1)).2) (upd T (4 * t) (nI 7))).2.2)) else (false, (mtW L (kLs 16) (a + 1)).2, upd T (4 * t) (nI 7))) else (if a < L.length ∧ L.getD a 0 = 102 then (if (mtW L (kLs 17) (a + 1)).1 = true then (if (fgM L 1 (4 * t + 1) ((mtW L (kLs 17) (a + 1)).2) (upd T (4 * t) (nI 8))).1 = true then (true, (fgM L 1 (4 * t + 1) ((mtW L (kLs 17) (a + 1)).2) (upd T (4 * t) (nI 8))).2.1, (fgM L 1 (4 * t + 1) ((mtW L (kLs 17) (a + 1)).2) (upd T (4 * t) (nI 8))).2.2) else (false, (fgM L 1 (4 * t + 1) ((mtW L (kLs 17) (a + 1)).2) (upd T (4 * t) (nI 8))).2.1, (fgM L 1 (4 * t + 1) ((mtW L (kLs 17) (a + 1)).2) (upd T (4 * t) (nI 8))).2.2)) else (false, (mtW L (kLs 17) (a + 1)).2, upd T (4 * t) (nI 8))) else (if a < L.length ∧ L.getD a 0 = 101 then (if (mtW L (kLs 18) (a + 1)).1 = true then (true, (mtW L (kLs 18) (a + 1)).2, upd T (4 * t) (nI 11)) else (false, (mtW L (kLs 18) (a + 1)).2, upd T (4 * t) (nI 11))) else (if a < L.length ∧ L.getD a 0 = 100 then (if a + 1 < L.length ∧ L.getD (a + 1) 0 = 101 then (if (mtW L (kLs 19) (a + 1 + 1)).1 = true then (if (fgM L 1 (4 * t + 1) ((mtW L (kLs 19) (a + 1 + 1)).2) (upd T (4 * t) (nI 1))).1 = true then (true, (fgM L 1 (4 * t + 1) ((mtW L (kLs 19) (a + 1 + 1)).2) (upd T (4 * t) (nI 1))).2.1, (fgM L 1 (4 * t + 1) ((mtW L (kLs 19) (a + 1 + 1)).2) (upd T (4 * t) (nI 1))).2.2) else (false, (fgM L 1 (4 * t + 1) ((mtW L (kLs 19) (a + 1 + 1)).2) (upd T (4 * t) (nI 1))).2.1, (fgM L 1 (4 * t + 1) ((mtW L (kLs 19) (a + 1 + 1)).2) (upd T (4 * t) (nI 1))).2.2)) else (false, (mtW L (kLs 19) (a + 1 + 1)).2, upd T (4 * t) (nI 1))) else (if a + 1 < L.length ∧ L.getD (a + 1) 0 = 97 then (if (mtW L (kLs 20) (a + 1 + 1)).1 = true then (true, (mtW L (kLs 20) (a + 1 + 1)).2, upd T (4 * t) (nI 10)) else (false, (mtW L (kLs 20) (a + 1 + 1)).2, upd T (4 * t) (nI 10))) else (false, a + 1, T))) else (if a < L.length ∧ L.getD a 0 = 112 then (if a + 1 < L.length ∧ L.getD (a + 1) 0 = 108 then (if (mtW L (kLs 21) (a + 1 + 1)).1 = true then (if (fgM L 2 (4 * t + 1) ((mtW L (kLs 21) (a + 1 + 1)).2) (upd T (4 * t) (nI 4))).1 = true then (true, (fgM L 2 (4 * t + 1) ((mtW L (kLs 21) (a + 1 + 1)).2) (upd T (4 * t) (nI 4))).2.1, (fgM L 2 (4 * t + 1) ((mtW L (kLs 21) (a + 1 + 1)).2) (upd T (4 * t) (nI 4))).2.2) else (false, (fgM L 2 (4 * t + 1) ((mtW L (kLs 21) (a + 1 + 1)).2) (upd T (4 * t) (nI 4))).2.1, (fgM L 2 (4 * t + 1) ((mtW L (kLs 21) (a + 1 + 1)).2) (upd T (4 * t) (nI 4))).2.2)) else (false, (mtW L (kLs 21) (a + 1 + 1)).2, upd T (4 * t) (nI 4))) else (if a + 1 < L.length ∧ L.getD (a + 1) 0 = 111 then (if (mtW L (kLs 22) (a + 1 + 1)).1 = true then (if (bhM L (4 * t + 1) ((mtW L (kLs 22) (a + 1 + 1)).2) (upd T (4 * t) (nI 9))).1 = true then (true, (bhM L (4 * t + 1) ((mtW L (kLs 22) (a + 1 + 1)).2) (upd T (4 * t) (nI 9))).2.1, (bhM L (4 * t + 1) ((mtW L (kLs 22) (a + 1 + 1)).2) (upd T (4 * t) (nI 9))).2.2) else (false, (bhM L (4 * t + 1) ((mtW L (kLs 22) (a + 1 + 1)).2) (upd T (4 * t) (nI 9))).2.1, (bhM L (4 * t + 1) ((mtW L (kLs 22) (a + 1 + 1)).2) (upd T (4 * t) (nI 9))).2.2)) else (false, (mtW L (kLs 22) (a + 1 + 1)).2, upd T (4 * t) (nI 9))) else (false, a + 1, T))) else (false, a, T)))))))))
theorem cmM_le (L : List Nat) (t : Nat) (a : Nat) (T : Nat → Int32) (h : a ≤ L.length) : a ≤ (cmM L t a T).2.1 ∧ (cmM L t a T).2.1 ≤ L.length ∧ ((cmM L t a T).1 = true → a + 1 ≤ (cmM L t a T).2.1) := by
  unfold cmM
  by_cases e0 : a < L.length ∧ L.getD a 0 = 115
  · rw [if_pos e0]; have e01 := e0.1
    have g1 := wtM_le L t (4 * t + 1) (a + 1) T (by omega)
    by_cases e1 : (wtM L t (4 * t + 1) (a + 1) T).1 = true
    · rw [if_pos e1]
      exact ⟨by show _ ≤ (wtM L t (4 * t + 1) (a + 1) T).2.1; omega, by show (wtM L t (4 * t + 1) (a + 1) T).2.1 ≤ L.length; omega, fun z => by show a + 1 ≤ (wtM L t (4 * t + 1) (a + 1) T).2.1; omega⟩
    · rw [if_neg e1]
      exact ⟨by show _ ≤ (wtM L t (4 * t + 1) (a + 1) T).2.1; omega, by show (wtM L t (4 * t + 1) (a + 1) T).2.1 ≤ L.length; omega, fun z => by exact Bool.noConfusion z⟩
  · rw [if_neg e0]
    by_cases e1 : a < L.length ∧ L.getD a 0 = 117
    · rw [if_pos e1]; have e11 := e1.1
      have g2 := wuM_le L t (4 * t + 1) (a + 1) T (by omega)
      by_cases e2 : (wuM L t (4 * t + 1) (a + 1) T).1 = true
      · rw [if_pos e2]
        exact ⟨by show _ ≤ (wuM L t (4 * t + 1) (a + 1) T).2.1; omega, by show (wuM L t (4 * t + 1) (a + 1) T).2.1 ≤ L.length; omega, fun z => by show a + 1 ≤ (wuM L t (4 * t + 1) (a + 1) T).2.1; omega⟩
      · rw [if_neg e2]
        exact ⟨by show _ ≤ (wuM L t (4 * t + 1) (a + 1) T).2.1; omega, by show (wuM L t (4 * t + 1) (a + 1) T).2.1 ≤ L.length; omega, fun z => by exact Bool.noConfusion z⟩
    · rw [if_neg e1]
      by_cases e2 : a < L.length ∧ L.getD a 0 = 98
      · rw [if_pos e2]; have e21 := e2.1
        have g3 := mtW_le L (kLs 14) (a + 1) (by omega)
        by_cases e3 : (mtW L (kLs 14) (a + 1)).1 = true
        · rw [if_pos e3]
          have g4 := bhM_le L (4 * t + 1) ((mtW L (kLs 14) (a + 1)).2) (upd T (4 * t) (nI 2)) (by omega)
          by_cases e4 : (bhM L (4 * t + 1) ((mtW L (kLs 14) (a + 1)).2) (upd T (4 * t) (nI 2))).1 = true
          · rw [if_pos e4]
            exact ⟨by show _ ≤ (bhM L (4 * t + 1) ((mtW L (kLs 14) (a + 1)).2) (upd T (4 * t) (nI 2))).2.1; omega, by show (bhM L (4 * t + 1) ((mtW L (kLs 14) (a + 1)).2) (upd T (4 * t) (nI 2))).2.1 ≤ L.length; omega, fun z => by show a + 1 ≤ (bhM L (4 * t + 1) ((mtW L (kLs 14) (a + 1)).2) (upd T (4 * t) (nI 2))).2.1; omega⟩
          · rw [if_neg e4]
            exact ⟨by show _ ≤ (bhM L (4 * t + 1) ((mtW L (kLs 14) (a + 1)).2) (upd T (4 * t) (nI 2))).2.1; omega, by show (bhM L (4 * t + 1) ((mtW L (kLs 14) (a + 1)).2) (upd T (4 * t) (nI 2))).2.1 ≤ L.length; omega, fun z => by exact Bool.noConfusion z⟩
        · rw [if_neg e3]
          exact ⟨by show _ ≤ (mtW L (kLs 14) (a + 1)).2; omega, by show (mtW L (kLs 14) (a + 1)).2 ≤ L.length; omega, fun z => by exact Bool.noConfusion z⟩
      · rw [if_neg e2]
        by_cases e3 : a < L.length ∧ L.getD a 0 = 97
        · rw [if_pos e3]; have e31 := e3.1
          have g4 := mtW_le L (kLs 16) (a + 1) (by omega)
          by_cases e4 : (mtW L (kLs 16) (a + 1)).1 = true
          · rw [if_pos e4]
            have g5 := fgM_le L 2 (4 * t + 1) ((mtW L (kLs 16) (a + 1)).2) (upd T (4 * t) (nI 7)) (by omega)
            by_cases e5 : (fgM L 2 (4 * t + 1) ((mtW L (kLs 16) (a + 1)).2) (upd T (4 * t) (nI 7))).1 = true
            · rw [if_pos e5]
              have g6 := fgM_le L 1 (4 * t + 1 + 1) ((fgM L 2 (4 * t + 1) ((mtW L (kLs 16) (a + 1)).2) (upd T (4 * t) (nI 7))).2.1) ((fgM L 2 (4 * t + 1) ((mtW L (kLs 16) (a + 1)).2) (upd T (4 * t) (nI 7))).2.2) (by omega)
              by_cases e6 : (fgM L 1 (4 * t + 1 + 1) ((fgM L 2 (4 * t + 1) ((mtW L (kLs 16) (a + 1)).2) (upd T (4 * t) (nI 7))).2.1) ((fgM L 2 (4 * t + 1) ((mtW L (kLs 16) (a + 1)).2) (upd T (4 * t) (nI 7))).2.2)).1 = true
              · rw [if_pos e6]
                exact ⟨by show _ ≤ (fgM L 1 (4 * t + 1 + 1) ((fgM L 2 (4 * t + 1) ((mtW L (kLs 16) (a + 1)).2) (upd T (4 * t) (nI 7))).2.1) ((fgM L 2 (4 * t + 1) ((mtW L (kLs 16) (a + 1)).2) (upd T (4 * t) (nI 7))).2.2)).2.1; omega, by show (fgM L 1 (4 * t + 1 + 1) ((fgM L 2 (4 * t + 1) ((mtW L (kLs 16) (a + 1)).2) (upd T (4 * t) (nI 7))).2.1) ((fgM L 2 (4 * t + 1) ((mtW L (kLs 16) (a + 1)).2) (upd T (4 * t) (nI 7))).2.2)).2.1 ≤ L.length; omega, fun z => by show a + 1 ≤ (fgM L 1 (4 * t + 1 + 1) ((fgM L 2 (4 * t + 1) ((mtW L (kLs 16) (a + 1)).2) (upd T (4 * t) (nI 7))).2.1) ((fgM L 2 (4 * t + 1) ((mtW L (kLs 16) (a + 1)).2) (upd T (4 * t) (nI 7))).2.2)).2.1; omega⟩
              · rw [if_neg e6]
                exact ⟨by show _ ≤ (fgM L 1 (4 * t + 1 + 1) ((fgM L 2 (4 * t + 1) ((mtW L (kLs 16) (a + 1)).2) (upd T (4 * t) (nI 7))).2.1) ((fgM L 2 (4 * t + 1) ((mtW L (kLs 16) (a + 1)).2) (upd T (4 * t) (nI 7))).2.2)).2.1; omega, by show (fgM L 1 (4 * t + 1 + 1) ((fgM L 2 (4 * t + 1) ((mtW L (kLs 16) (a + 1)).2) (upd T (4 * t) (nI 7))).2.1) ((fgM L 2 (4 * t + 1) ((mtW L (kLs 16) (a + 1)).2) (upd T (4 * t) (nI 7))).2.2)).2.1 ≤ L.length; omega, fun z => by exact Bool.noConfusion z⟩
            · rw [if_neg e5]
              exact ⟨by show _ ≤ (fgM L 2 (4 * t + 1) ((mtW L (kLs 16) (a + 1)).2) (upd T (4 * t) (nI 7))).2.1; omega, by show (fgM L 2 (4 * t + 1) ((mtW L (kLs 16) (a + 1)).2) (upd T (4 * t) (nI 7))).2.1 ≤ L.length; omega, fun z => by exact Bool.noConfusion z⟩
          · rw [if_neg e4]
            exact ⟨by show _ ≤ (mtW L (kLs 16) (a + 1)).2; omega, by show (mtW L (kLs 16) (a + 1)).2 ≤ L.length; omega, fun z => by exact Bool.noConfusion z⟩
        · rw [if_neg e3]
          by_cases e4 : a < L.length ∧ L.getD a 0 = 102
          · rw [if_pos e4]; have e41 := e4.1
            have g5 := mtW_le L (kLs 17) (a + 1) (by omega)
            by_cases e5 : (mtW L (kLs 17) (a + 1)).1 = true
            · rw [if_pos e5]
              have g6 := fgM_le L 1 (4 * t + 1) ((mtW L (kLs 17) (a + 1)).2) (upd T (4 * t) (nI 8)) (by omega)
              by_cases e6 : (fgM L 1 (4 * t + 1) ((mtW L (kLs 17) (a + 1)).2) (upd T (4 * t) (nI 8))).1 = true
              · rw [if_pos e6]
                exact ⟨by show _ ≤ (fgM L 1 (4 * t + 1) ((mtW L (kLs 17) (a + 1)).2) (upd T (4 * t) (nI 8))).2.1; omega, by show (fgM L 1 (4 * t + 1) ((mtW L (kLs 17) (a + 1)).2) (upd T (4 * t) (nI 8))).2.1 ≤ L.length; omega, fun z => by show a + 1 ≤ (fgM L 1 (4 * t + 1) ((mtW L (kLs 17) (a + 1)).2) (upd T (4 * t) (nI 8))).2.1; omega⟩
              · rw [if_neg e6]
                exact ⟨by show _ ≤ (fgM L 1 (4 * t + 1) ((mtW L (kLs 17) (a + 1)).2) (upd T (4 * t) (nI 8))).2.1; omega, by show (fgM L 1 (4 * t + 1) ((mtW L (kLs 17) (a + 1)).2) (upd T (4 * t) (nI 8))).2.1 ≤ L.length; omega, fun z => by exact Bool.noConfusion z⟩
            · rw [if_neg e5]
              exact ⟨by show _ ≤ (mtW L (kLs 17) (a + 1)).2; omega, by show (mtW L (kLs 17) (a + 1)).2 ≤ L.length; omega, fun z => by exact Bool.noConfusion z⟩
          · rw [if_neg e4]
            by_cases e5 : a < L.length ∧ L.getD a 0 = 101
            · rw [if_pos e5]; have e51 := e5.1
              have g6 := mtW_le L (kLs 18) (a + 1) (by omega)
              by_cases e6 : (mtW L (kLs 18) (a + 1)).1 = true
              · rw [if_pos e6]
                exact ⟨by show _ ≤ (mtW L (kLs 18) (a + 1)).2; omega, by show (mtW L (kLs 18) (a + 1)).2 ≤ L.length; omega, fun z => by show a + 1 ≤ (mtW L (kLs 18) (a + 1)).2; omega⟩
              · rw [if_neg e6]
                exact ⟨by show _ ≤ (mtW L (kLs 18) (a + 1)).2; omega, by show (mtW L (kLs 18) (a + 1)).2 ≤ L.length; omega, fun z => by exact Bool.noConfusion z⟩
            · rw [if_neg e5]
              by_cases e6 : a < L.length ∧ L.getD a 0 = 100
              · rw [if_pos e6]; have e61 := e6.1
                by_cases e7 : a + 1 < L.length ∧ L.getD (a + 1) 0 = 101
                · rw [if_pos e7]; have e71 := e7.1
                  have g8 := mtW_le L (kLs 19) (a + 1 + 1) (by omega)
                  by_cases e8 : (mtW L (kLs 19) (a + 1 + 1)).1 = true
                  · rw [if_pos e8]
                    have g9 := fgM_le L 1 (4 * t + 1) ((mtW L (kLs 19) (a + 1 + 1)).2) (upd T (4 * t) (nI 1)) (by omega)
                    by_cases e9 : (fgM L 1 (4 * t + 1) ((mtW L (kLs 19) (a + 1 + 1)).2) (upd T (4 * t) (nI 1))).1 = true
                    · rw [if_pos e9]
                      exact ⟨by show _ ≤ (fgM L 1 (4 * t + 1) ((mtW L (kLs 19) (a + 1 + 1)).2) (upd T (4 * t) (nI 1))).2.1; omega, by show (fgM L 1 (4 * t + 1) ((mtW L (kLs 19) (a + 1 + 1)).2) (upd T (4 * t) (nI 1))).2.1 ≤ L.length; omega, fun z => by show a + 1 ≤ (fgM L 1 (4 * t + 1) ((mtW L (kLs 19) (a + 1 + 1)).2) (upd T (4 * t) (nI 1))).2.1; omega⟩
                    · rw [if_neg e9]
                      exact ⟨by show _ ≤ (fgM L 1 (4 * t + 1) ((mtW L (kLs 19) (a + 1 + 1)).2) (upd T (4 * t) (nI 1))).2.1; omega, by show (fgM L 1 (4 * t + 1) ((mtW L (kLs 19) (a + 1 + 1)).2) (upd T (4 * t) (nI 1))).2.1 ≤ L.length; omega, fun z => by exact Bool.noConfusion z⟩
                  · rw [if_neg e8]
                    exact ⟨by show _ ≤ (mtW L (kLs 19) (a + 1 + 1)).2; omega, by show (mtW L (kLs 19) (a + 1 + 1)).2 ≤ L.length; omega, fun z => by exact Bool.noConfusion z⟩
                · rw [if_neg e7]
                  by_cases e8 : a + 1 < L.length ∧ L.getD (a + 1) 0 = 97
                  · rw [if_pos e8]; have e81 := e8.1
                    have g9 := mtW_le L (kLs 20) (a + 1 + 1) (by omega)
                    by_cases e9 : (mtW L (kLs 20) (a + 1 + 1)).1 = true
                    · rw [if_pos e9]
                      exact ⟨by show _ ≤ (mtW L (kLs 20) (a + 1 + 1)).2; omega, by show (mtW L (kLs 20) (a + 1 + 1)).2 ≤ L.length; omega, fun z => by show a + 1 ≤ (mtW L (kLs 20) (a + 1 + 1)).2; omega⟩
                    · rw [if_neg e9]
                      exact ⟨by show _ ≤ (mtW L (kLs 20) (a + 1 + 1)).2; omega, by show (mtW L (kLs 20) (a + 1 + 1)).2 ≤ L.length; omega, fun z => by exact Bool.noConfusion z⟩
                  · rw [if_neg e8]
                    exact ⟨by show _ ≤ a + 1; omega, by show a + 1 ≤ L.length; omega, fun z => by exact Bool.noConfusion z⟩
              · rw [if_neg e6]
                by_cases e7 : a < L.length ∧ L.getD a 0 = 112
                · rw [if_pos e7]; have e71 := e7.1
                  by_cases e8 : a + 1 < L.length ∧ L.getD (a + 1) 0 = 108
                  · rw [if_pos e8]; have e81 := e8.1
                    have g9 := mtW_le L (kLs 21) (a + 1 + 1) (by omega)
                    by_cases e9 : (mtW L (kLs 21) (a + 1 + 1)).1 = true
                    · rw [if_pos e9]
                      have g10 := fgM_le L 2 (4 * t + 1) ((mtW L (kLs 21) (a + 1 + 1)).2) (upd T (4 * t) (nI 4)) (by omega)
                      by_cases e10 : (fgM L 2 (4 * t + 1) ((mtW L (kLs 21) (a + 1 + 1)).2) (upd T (4 * t) (nI 4))).1 = true
                      · rw [if_pos e10]
                        exact ⟨by show _ ≤ (fgM L 2 (4 * t + 1) ((mtW L (kLs 21) (a + 1 + 1)).2) (upd T (4 * t) (nI 4))).2.1; omega, by show (fgM L 2 (4 * t + 1) ((mtW L (kLs 21) (a + 1 + 1)).2) (upd T (4 * t) (nI 4))).2.1 ≤ L.length; omega, fun z => by show a + 1 ≤ (fgM L 2 (4 * t + 1) ((mtW L (kLs 21) (a + 1 + 1)).2) (upd T (4 * t) (nI 4))).2.1; omega⟩
                      · rw [if_neg e10]
                        exact ⟨by show _ ≤ (fgM L 2 (4 * t + 1) ((mtW L (kLs 21) (a + 1 + 1)).2) (upd T (4 * t) (nI 4))).2.1; omega, by show (fgM L 2 (4 * t + 1) ((mtW L (kLs 21) (a + 1 + 1)).2) (upd T (4 * t) (nI 4))).2.1 ≤ L.length; omega, fun z => by exact Bool.noConfusion z⟩
                    · rw [if_neg e9]
                      exact ⟨by show _ ≤ (mtW L (kLs 21) (a + 1 + 1)).2; omega, by show (mtW L (kLs 21) (a + 1 + 1)).2 ≤ L.length; omega, fun z => by exact Bool.noConfusion z⟩
                  · rw [if_neg e8]
                    by_cases e9 : a + 1 < L.length ∧ L.getD (a + 1) 0 = 111
                    · rw [if_pos e9]; have e91 := e9.1
                      have g10 := mtW_le L (kLs 22) (a + 1 + 1) (by omega)
                      by_cases e10 : (mtW L (kLs 22) (a + 1 + 1)).1 = true
                      · rw [if_pos e10]
                        have g11 := bhM_le L (4 * t + 1) ((mtW L (kLs 22) (a + 1 + 1)).2) (upd T (4 * t) (nI 9)) (by omega)
                        by_cases e11 : (bhM L (4 * t + 1) ((mtW L (kLs 22) (a + 1 + 1)).2) (upd T (4 * t) (nI 9))).1 = true
                        · rw [if_pos e11]
                          exact ⟨by show _ ≤ (bhM L (4 * t + 1) ((mtW L (kLs 22) (a + 1 + 1)).2) (upd T (4 * t) (nI 9))).2.1; omega, by show (bhM L (4 * t + 1) ((mtW L (kLs 22) (a + 1 + 1)).2) (upd T (4 * t) (nI 9))).2.1 ≤ L.length; omega, fun z => by show a + 1 ≤ (bhM L (4 * t + 1) ((mtW L (kLs 22) (a + 1 + 1)).2) (upd T (4 * t) (nI 9))).2.1; omega⟩
                        · rw [if_neg e11]
                          exact ⟨by show _ ≤ (bhM L (4 * t + 1) ((mtW L (kLs 22) (a + 1 + 1)).2) (upd T (4 * t) (nI 9))).2.1; omega, by show (bhM L (4 * t + 1) ((mtW L (kLs 22) (a + 1 + 1)).2) (upd T (4 * t) (nI 9))).2.1 ≤ L.length; omega, fun z => by exact Bool.noConfusion z⟩
                      · rw [if_neg e10]
                        exact ⟨by show _ ≤ (mtW L (kLs 22) (a + 1 + 1)).2; omega, by show (mtW L (kLs 22) (a + 1 + 1)).2 ≤ L.length; omega, fun z => by exact Bool.noConfusion z⟩
                    · rw [if_neg e9]
                      exact ⟨by show _ ≤ a + 1; omega, by show a + 1 ≤ L.length; omega, fun z => by exact Bool.noConfusion z⟩
                · rw [if_neg e7]
                  exact ⟨by show _ ≤ a; omega, by show a ≤ L.length; omega, fun z => by exact Bool.noConfusion z⟩

def txM (L : List Nat) : Nat → Nat → Nat → (Nat → Int32) → Bool × Nat × Nat × (Nat → Int32)
  | 0, t, a, T => (false, a, t, T)
  | f + 1, t, a, T =>
    if (cmM L t a T).1 = true then
      (if (cmM L t a T).2.1 < L.length ∧ L.getD (cmM L t a T).2.1 0 = 59 then txM L f (t + 1) ((cmM L t a T).2.1 + 1) (cmM L t a T).2.2
      else (decide ((cmM L t a T).2.1 = L.length), (cmM L t a T).2.1, t + 1, (cmM L t a T).2.2))
    else (false, (cmM L t a T).2.1, t, (cmM L t a T).2.2)
theorem kv_X4_bothHere : kV yX4_bothHere cX4_bothHere 2 (some .boolean) 1 := ⟨mw_1881, mw_53, mw_64, mw_1882, by decide, by decide, by decide +kernel⟩
theorem kv_X4_commandHere : kV yX4_commandHere cX4_commandHere 2 (some .boolean) 0 := ⟨mw_1848, mw_46, mw_64, mw_1849, by decide, by decide, by decide +kernel⟩
theorem kv_X4_figures : kV yX4_figures cX4_figures 4 (some .boolean) 2 := ⟨mw_1871, mw_51, mw_64, mw_1872, by decide, by decide, by decide +kernel⟩
theorem kv_X4_isWord : kV yX4_isWord cX4_isWord 4 (some .boolean) 2 := ⟨mw_1865, mw_50, mw_64, mw_1866, by decide, by decide, by decide +kernel⟩
theorem kv_X4_withS : kV yX4_withS cX4_withS 2 (some .boolean) 1 := ⟨mw_1860, mw_49, mw_64, mw_1861, by decide, by decide, by decide +kernel⟩
theorem kv_X4_withU : kV yX4_withU cX4_withU 2 (some .boolean) 1 := ⟨mw_1876, mw_52, mw_64, mw_1877, by decide, by decide, by decide +kernel⟩
set_option maxHeartbeats 4000000 in
set_option maxRecDepth 100000 in
/-- bothHere(p) -/
theorem met_X4_bothHere (l : Launch) (V : kEnv) (M : kMs) (L : List Nat) (hn4 : M.1 4 = nI L.length) (hL60 : L.length ≤ 60) (hL : ∀ j, j < L.length → M.2 4 j = nI (L.getD j 0) ∧ L.getD j 0 < 128) (t : Nat) (ht : t ≤ 30) (T : Nat → Int32) (a : Nat) (hal : a ≤ L.length) (p : Nat) (hp9 : p + 1 < 124) : kI l yX4_bothHere cX4_bothHere 2 (some .boolean) { frames := 3, cells := 0, slots := 0, locals := 64 } V (mWs V) [.ref (eX V 500), .int (nI (p))] (pW M a t T) (fun r u => r = bz (bhM L p a T).1 ∧ u = pW M (bhM L p a T).2.1 t (bhM L p a T).2.2) 0 0 := by
  refine kI_of (by decide +kernel) (Nat.le_of_ble_eq_true rfl) ?_
  intro pg e s m args below meth c G hret hlocks hC hB h ls hl Q hQ
  have hl : lv_has ls 2 [(0, .ref (eX V 500)), (1, .int (nI (p)))] := hl
  have hx := G.1
  have hcd := G.2.1
  refine lv_aload_n hx hcd dX4_bothHere_0 rfl (lv_at hl 0 rfl) ?_
  refine lv_iload_n hx hcd dX4_bothHere_1 rfl (lv_at hl 1 rfl) ?_
  refine lv_iconst (v := nI 2) hx hcd dX4_bothHere_2 (by decide) ?_
  refine k_Vi (As := [.int (nI (p)), .int (nI 2)]) (rest := []) (b := eX V 500) G hC hB h (met_X4_figures l V M L hn4 hL60 hL t (by omega) T a (by omega) p 2 (by omega) (by omega)) mw_1869 kv_X4_figures ⟨rfl, rfl⟩ ⟨Nat.le_of_ble_eq_true rfl, Nat.le_of_ble_eq_true rfl⟩ (r_mV hC h) rfl rfl hl.1 (Nat.le_of_ble_eq_true rfl) dX4_bothHere_3 ⟨Nat.le_of_ble_eq_true rfl, Nat.le_of_ble_eq_true rfl⟩ (fun r u H locs hp h => ?_)
  obtain ⟨hr9, hu9⟩ := hp
  rw [hu9] at h
  have g_1 := fgM_le L 2 p a T (by omega)
  rcases bsp ((fgM L 2 p a T).1) with cc_2 | cc_2
  · skip
    obtain rfl : r = nI 1 := hr9.trans (bz_t cc_2)
    refine lv_if_eq (tgt := 24) hx hcd dX4_bothHere_6 (by decide) (fun c_3 => absurd c_3 (by decide)) (fun _ => ?_)
    refine lv_aload_n hx hcd dX4_bothHere_9 rfl (lv_at hl 0 rfl) ?_
    refine lv_iload_n hx hcd dX4_bothHere_10 rfl (lv_at hl 1 rfl) ?_
    refine lv_iconst (v := nI 1) hx hcd dX4_bothHere_11 (by decide) ?_
    refine w_iadd (v := nI (p + 1)) hx hcd dX4_bothHere_12 (nI_add _ _) ?_
    refine lv_iconst (v := nI 2) hx hcd dX4_bothHere_13 (by decide) ?_
    refine k_Vi (As := [.int (nI (p + 1)), .int (nI 2)]) (rest := []) (b := eX V 500) G hC hB h (met_X4_figures l V M L hn4 hL60 hL t (by omega) ((fgM L 2 p a T).2.2) ((fgM L 2 p a T).2.1) (by omega) (p + 1) 2 (by omega) (by omega)) mw_1869 kv_X4_figures ⟨rfl, rfl⟩ ⟨Nat.le_of_ble_eq_true rfl, Nat.le_of_ble_eq_true rfl⟩ (r_mV hC h) rfl rfl hl.1 (Nat.le_of_ble_eq_true rfl) dX4_bothHere_14 ⟨Nat.le_of_ble_eq_true rfl, Nat.le_of_ble_eq_true rfl⟩ (fun r u H locs hp h => ?_)
    obtain ⟨hr9, hu9⟩ := hp
    rw [hu9] at h
    have g_5 := fgM_le L 2 (p + 1) ((fgM L 2 p a T).2.1) ((fgM L 2 p a T).2.2) (by omega)
    rcases bsp ((fgM L 2 (p + 1) ((fgM L 2 p a T).2.1) ((fgM L 2 p a T).2.2)).1) with cc_6 | cc_6
    · skip
      obtain rfl : r = nI 1 := hr9.trans (bz_t cc_6)
      refine lv_if_eq (tgt := 24) hx hcd dX4_bothHere_17 (by decide) (fun c_7 => absurd c_7 (by decide)) (fun _ => ?_)
      refine lv_iconst (v := nI 1) hx hcd dX4_bothHere_20 (by decide) ?_
      refine lv_goto (tgt := 25) hx hcd dX4_bothHere_21 (by decide) ?_
      exact k_retz hQ G hret hlocks h (Or.inr rfl) (by rw [show bhM L p a T = (true, (fgM L 2 (p + 1) ((fgM L 2 p a T).2.1) ((fgM L 2 p a T).2.2)).2.1, (fgM L 2 (p + 1) ((fgM L 2 p a T).2.1) ((fgM L 2 p a T).2.2)).2.2) from by unfold bhM; rw [if_pos cc_2, if_pos cc_6]]; exact ⟨rfl, rfl⟩) (Nat.le_of_ble_eq_true rfl) (Nat.le_of_ble_eq_true rfl) dX4_bothHere_25
    · skip
      obtain rfl : r = nI 0 := hr9.trans (bz_f cc_6)
      refine lv_if_eq (tgt := 24) hx hcd dX4_bothHere_17 (by decide) (fun _ => ?_) (fun c_8 => absurd c_8 (by decide))
      refine lv_iconst (v := nI 0) hx hcd dX4_bothHere_24 (by decide) ?_
      exact k_retz hQ G hret hlocks h (Or.inl rfl) (by rw [show bhM L p a T = (false, (fgM L 2 (p + 1) ((fgM L 2 p a T).2.1) ((fgM L 2 p a T).2.2)).2.1, (fgM L 2 (p + 1) ((fgM L 2 p a T).2.1) ((fgM L 2 p a T).2.2)).2.2) from by unfold bhM; rw [if_pos cc_2, if_neg (by rw [cc_6]; decide)]]; exact ⟨rfl, rfl⟩) (Nat.le_of_ble_eq_true rfl) (Nat.le_of_ble_eq_true rfl) dX4_bothHere_25
  · skip
    obtain rfl : r = nI 0 := hr9.trans (bz_f cc_2)
    refine lv_if_eq (tgt := 24) hx hcd dX4_bothHere_6 (by decide) (fun _ => ?_) (fun c_9 => absurd c_9 (by decide))
    refine lv_iconst (v := nI 0) hx hcd dX4_bothHere_24 (by decide) ?_
    exact k_retz hQ G hret hlocks h (Or.inl rfl) (by rw [show bhM L p a T = (false, (fgM L 2 p a T).2.1, (fgM L 2 p a T).2.2) from by unfold bhM; rw [if_neg (by rw [cc_2]; decide)]]; exact ⟨rfl, rfl⟩) (Nat.le_of_ble_eq_true rfl) (Nat.le_of_ble_eq_true rfl) dX4_bothHere_25
set_option maxHeartbeats 4000000 in
set_option maxRecDepth 100000 in
/-- withU(p) -/
theorem met_X4_withU (l : Launch) (V : kEnv) (M : kMs) (L : List Nat) (hn4 : M.1 4 = nI L.length) (hL60 : L.length ≤ 60) (hL : ∀ j, j < L.length → M.2 4 j = nI (L.getD j 0) ∧ L.getD j 0 < 128) (t : Nat) (ht : t ≤ 30) (T : Nat → Int32) (a : Nat) (hal : a ≤ L.length) (p : Nat) (hp9 : p + 1 < 124) : kI l yX4_withU cX4_withU 2 (some .boolean) { frames := 5, cells := 0, slots := 0, locals := 108 } V (mWs V) [.ref (eX V 500), .int (nI (p))] (pW M a t T) (fun r u => r = bz (wuM L t p a T).1 ∧ u = pW M (wuM L t p a T).2.1 t (wuM L t p a T).2.2) 0 0 := by
  refine kI_of (by decide +kernel) (Nat.le_of_ble_eq_true rfl) ?_
  intro pg e s m args below meth c G hret hlocks hC hB h ls hl Q hQ
  have hl : lv_has ls 2 [(0, .ref (eX V 500)), (1, .int (nI (p)))] := hl
  have hx := G.1
  have hcd := G.2.1
  refine lv_aload_n hx hcd dX4_withU_0 rfl (lv_at hl 0 rfl) ?_
  refine lv_bipush (v := nI 110) hx hcd dX4_withU_1 (by decide) ?_
  refine k_Vi (As := [.int (nI 110)]) (rest := []) (b := eX V 500) G hC hB h (met_X4_skips l V (pW M a t T) L hn4 hL60 hL a rfl (by omega) 110 (by omega)) mw_1850 kv_X4_skips ⟨rfl, rfl⟩ ⟨Nat.le_of_ble_eq_true rfl, Nat.le_of_ble_eq_true rfl⟩ (r_mV hC h) rfl rfl hl.1 (Nat.le_of_ble_eq_true rfl) dX4_withU_3 ⟨Nat.le_of_ble_eq_true rfl, Nat.le_of_ble_eq_true rfl⟩ (fun r u H locs hp h => ?_)
  rcases hp with ⟨⟨hs_1, hs_2⟩, rfl, hu9⟩ | ⟨hs_1, rfl, hu9⟩
  · skip
    rw [hu9, pW_a] at h
    refine lv_if_ne (tgt := 11) hx hcd dX4_withU_6 (by decide) (fun _ => ?_) (fun c_3 => absurd c_3 (by decide))
    refine lv_aload_n hx hcd dX4_withU_11 rfl (lv_at hl 0 rfl) ?_
    refine lv_bipush (v := nI 98) hx hcd dX4_withU_12 (by decide) ?_
    refine k_Vi (As := [.int (nI 98)]) (rest := []) (b := eX V 500) G hC hB h (met_X4_skips l V (pW M (a + 1) t T) L hn4 hL60 hL (a + 1) rfl (by omega) 98 (by omega)) mw_1850 kv_X4_skips ⟨rfl, rfl⟩ ⟨Nat.le_of_ble_eq_true rfl, Nat.le_of_ble_eq_true rfl⟩ (r_mV hC h) rfl rfl hl.1 (Nat.le_of_ble_eq_true rfl) dX4_withU_14 ⟨Nat.le_of_ble_eq_true rfl, Nat.le_of_ble_eq_true rfl⟩ (fun r u H locs hp h => ?_)
    rcases hp with ⟨⟨hs_4, hs_5⟩, rfl, hu9⟩ | ⟨hs_4, rfl, hu9⟩
    · skip
      rw [hu9, pW_a] at h
      refine lv_if_eq (tgt := 44) hx hcd dX4_withU_17 (by decide) (fun c_6 => absurd c_6 (by decide)) (fun _ => ?_)
      refine lv_aload_n hx hcd dX4_withU_20 rfl (lv_at hl 0 rfl) ?_
      refine lv_iconst (v := nI 3) hx hcd dX4_withU_21 (by decide) ?_
      refine r_ldcS G hC 14 rfl dX4_withU_22 ?_
      refine k_Vi (As := [.int (nI 3), .ref (eX V (200 + 14))]) (rest := []) (b := eX V 500) G hC hB h (met_X4_isWord l V M L hn4 hL60 hL t (by omega) T ((a + 1) + 1) (by omega) 14 3 (by decide)) mw_1863 kv_X4_isWord ⟨rfl, rfl⟩ ⟨Nat.le_of_ble_eq_true rfl, Nat.le_of_ble_eq_true rfl⟩ (r_mV hC h) rfl rfl hl.1 (Nat.le_of_ble_eq_true rfl) dX4_withU_24 ⟨Nat.le_of_ble_eq_true rfl, Nat.le_of_ble_eq_true rfl⟩ (fun r u H locs hp h => ?_)
      obtain ⟨hr9, hu9⟩ := hp
      rw [hu9] at h
      have g_7 := mtW_le L (kLs 14) ((a + 1) + 1) (by omega)
      rcases bsp ((mtW L (kLs 14) ((a + 1) + 1)).1) with cc_8 | cc_8
      · skip
        obtain rfl : r = nI 1 := hr9.trans (bz_t cc_8)
        refine lv_if_eq (tgt := 42) hx hcd dX4_withU_27 (by decide) (fun c_9 => absurd c_9 (by decide)) (fun _ => ?_)
        refine lv_aload_n hx hcd dX4_withU_30 rfl (lv_at hl 0 rfl) ?_
        refine lv_iload_n hx hcd dX4_withU_31 rfl (lv_at hl 1 rfl) ?_
        refine k_Vi (As := [.int (nI (p))]) (rest := []) (b := eX V 500) G hC hB h (met_X4_bothHere l V M L hn4 hL60 hL t (by omega) (upd T (4 * t) (nI 3)) ((mtW L (kLs 14) ((a + 1) + 1)).2) (by omega) p (by omega)) mw_1879 kv_X4_bothHere ⟨rfl, rfl⟩ ⟨Nat.le_of_ble_eq_true rfl, Nat.le_of_ble_eq_true rfl⟩ (r_mV hC h) rfl rfl hl.1 (Nat.le_of_ble_eq_true rfl) dX4_withU_32 ⟨Nat.le_of_ble_eq_true rfl, Nat.le_of_ble_eq_true rfl⟩ (fun r u H locs hp h => ?_)
        obtain ⟨hr9, hu9⟩ := hp
        rw [hu9] at h
        have g_10 := bhM_le L p ((mtW L (kLs 14) ((a + 1) + 1)).2) (upd T (4 * t) (nI 3)) (by omega)
        rcases bsp ((bhM L p ((mtW L (kLs 14) ((a + 1) + 1)).2) (upd T (4 * t) (nI 3))).1) with cc_11 | cc_11
        · skip
          obtain rfl : r = nI 1 := hr9.trans (bz_t cc_11)
          refine lv_if_eq (tgt := 42) hx hcd dX4_withU_35 (by decide) (fun c_12 => absurd c_12 (by decide)) (fun _ => ?_)
          refine lv_iconst (v := nI 1) hx hcd dX4_withU_38 (by decide) ?_
          refine lv_goto (tgt := 43) hx hcd dX4_withU_39 (by decide) ?_
          exact k_retz hQ G hret hlocks h (Or.inr rfl) (by rw [show wuM L t p a T = (true, (bhM L p ((mtW L (kLs 14) ((a + 1) + 1)).2) (upd T (4 * t) (nI 3))).2.1, (bhM L p ((mtW L (kLs 14) ((a + 1) + 1)).2) (upd T (4 * t) (nI 3))).2.2) from by unfold wuM; rw [if_pos ⟨hs_1, hs_2⟩, if_pos ⟨hs_4, hs_5⟩, if_pos cc_8, if_pos cc_11]]; exact ⟨rfl, rfl⟩) (Nat.le_of_ble_eq_true rfl) (Nat.le_of_ble_eq_true rfl) dX4_withU_43
        · skip
          obtain rfl : r = nI 0 := hr9.trans (bz_f cc_11)
          refine lv_if_eq (tgt := 42) hx hcd dX4_withU_35 (by decide) (fun _ => ?_) (fun c_13 => absurd c_13 (by decide))
          refine lv_iconst (v := nI 0) hx hcd dX4_withU_42 (by decide) ?_
          exact k_retz hQ G hret hlocks h (Or.inl rfl) (by rw [show wuM L t p a T = (false, (bhM L p ((mtW L (kLs 14) ((a + 1) + 1)).2) (upd T (4 * t) (nI 3))).2.1, (bhM L p ((mtW L (kLs 14) ((a + 1) + 1)).2) (upd T (4 * t) (nI 3))).2.2) from by unfold wuM; rw [if_pos ⟨hs_1, hs_2⟩, if_pos ⟨hs_4, hs_5⟩, if_pos cc_8, if_neg (by rw [cc_11]; decide)]]; exact ⟨rfl, rfl⟩) (Nat.le_of_ble_eq_true rfl) (Nat.le_of_ble_eq_true rfl) dX4_withU_43
      · skip
        obtain rfl : r = nI 0 := hr9.trans (bz_f cc_8)
        refine lv_if_eq (tgt := 42) hx hcd dX4_withU_27 (by decide) (fun _ => ?_) (fun c_14 => absurd c_14 (by decide))
        refine lv_iconst (v := nI 0) hx hcd dX4_withU_42 (by decide) ?_
        exact k_retz hQ G hret hlocks h (Or.inl rfl) (by rw [show wuM L t p a T = (false, (mtW L (kLs 14) ((a + 1) + 1)).2, upd T (4 * t) (nI 3)) from by unfold wuM; rw [if_pos ⟨hs_1, hs_2⟩, if_pos ⟨hs_4, hs_5⟩, if_neg (by rw [cc_8]; decide)]]; exact ⟨rfl, rfl⟩) (Nat.le_of_ble_eq_true rfl) (Nat.le_of_ble_eq_true rfl) dX4_withU_43
    · skip
      rw [hu9] at h
      refine lv_if_eq (tgt := 44) hx hcd dX4_withU_17 (by decide) (fun _ => ?_) (fun c_15 => absurd c_15 (by decide))
      refine lv_aload_n hx hcd dX4_withU_44 rfl (lv_at hl 0 rfl) ?_
      refine lv_bipush (v := nI 112) hx hcd dX4_withU_45 (by decide) ?_
      refine k_Vi (As := [.int (nI 112)]) (rest := []) (b := eX V 500) G hC hB h (met_X4_skips l V (pW M (a + 1) t T) L hn4 hL60 hL (a + 1) rfl (by omega) 112 (by omega)) mw_1850 kv_X4_skips ⟨rfl, rfl⟩ ⟨Nat.le_of_ble_eq_true rfl, Nat.le_of_ble_eq_true rfl⟩ (r_mV hC h) rfl rfl hl.1 (Nat.le_of_ble_eq_true rfl) dX4_withU_47 ⟨Nat.le_of_ble_eq_true rfl, Nat.le_of_ble_eq_true rfl⟩ (fun r u H locs hp h => ?_)
      rcases hp with ⟨⟨hs_16, hs_17⟩, rfl, hu9⟩ | ⟨hs_16, rfl, hu9⟩
      · skip
        rw [hu9, pW_a] at h
        refine lv_if_eq (tgt := 76) hx hcd dX4_withU_50 (by decide) (fun c_18 => absurd c_18 (by decide)) (fun _ => ?_)
        refine lv_aload_n hx hcd dX4_withU_53 rfl (lv_at hl 0 rfl) ?_
        refine lv_iconst (v := nI 5) hx hcd dX4_withU_54 (by decide) ?_
        refine r_ldcS G hC 15 rfl dX4_withU_55 ?_
        refine k_Vi (As := [.int (nI 5), .ref (eX V (200 + 15))]) (rest := []) (b := eX V 500) G hC hB h (met_X4_isWord l V M L hn4 hL60 hL t (by omega) T ((a + 1) + 1) (by omega) 15 5 (by decide)) mw_1863 kv_X4_isWord ⟨rfl, rfl⟩ ⟨Nat.le_of_ble_eq_true rfl, Nat.le_of_ble_eq_true rfl⟩ (r_mV hC h) rfl rfl hl.1 (Nat.le_of_ble_eq_true rfl) dX4_withU_57 ⟨Nat.le_of_ble_eq_true rfl, Nat.le_of_ble_eq_true rfl⟩ (fun r u H locs hp h => ?_)
        obtain ⟨hr9, hu9⟩ := hp
        rw [hu9] at h
        have g_19 := mtW_le L (kLs 15) ((a + 1) + 1) (by omega)
        rcases bsp ((mtW L (kLs 15) ((a + 1) + 1)).1) with cc_20 | cc_20
        · skip
          obtain rfl : r = nI 1 := hr9.trans (bz_t cc_20)
          refine lv_if_eq (tgt := 76) hx hcd dX4_withU_60 (by decide) (fun c_21 => absurd c_21 (by decide)) (fun _ => ?_)
          refine lv_aload_n hx hcd dX4_withU_63 rfl (lv_at hl 0 rfl) ?_
          refine lv_iload_n hx hcd dX4_withU_64 rfl (lv_at hl 1 rfl) ?_
          refine lv_iconst (v := nI 2) hx hcd dX4_withU_65 (by decide) ?_
          refine k_Vi (As := [.int (nI (p)), .int (nI 2)]) (rest := []) (b := eX V 500) G hC hB h (met_X4_figures l V M L hn4 hL60 hL t (by omega) (upd T (4 * t) (nI 5)) ((mtW L (kLs 15) ((a + 1) + 1)).2) (by omega) p 2 (by omega) (by omega)) mw_1869 kv_X4_figures ⟨rfl, rfl⟩ ⟨Nat.le_of_ble_eq_true rfl, Nat.le_of_ble_eq_true rfl⟩ (r_mV hC h) rfl rfl hl.1 (Nat.le_of_ble_eq_true rfl) dX4_withU_66 ⟨Nat.le_of_ble_eq_true rfl, Nat.le_of_ble_eq_true rfl⟩ (fun r u H locs hp h => ?_)
          obtain ⟨hr9, hu9⟩ := hp
          rw [hu9] at h
          have g_22 := fgM_le L 2 p ((mtW L (kLs 15) ((a + 1) + 1)).2) (upd T (4 * t) (nI 5)) (by omega)
          rcases bsp ((fgM L 2 p ((mtW L (kLs 15) ((a + 1) + 1)).2) (upd T (4 * t) (nI 5))).1) with cc_23 | cc_23
          · skip
            obtain rfl : r = nI 1 := hr9.trans (bz_t cc_23)
            refine lv_if_eq (tgt := 76) hx hcd dX4_withU_69 (by decide) (fun c_24 => absurd c_24 (by decide)) (fun _ => ?_)
            refine lv_iconst (v := nI 1) hx hcd dX4_withU_72 (by decide) ?_
            refine lv_goto (tgt := 77) hx hcd dX4_withU_73 (by decide) ?_
            exact k_retz hQ G hret hlocks h (Or.inr rfl) (by rw [show wuM L t p a T = (true, (fgM L 2 p ((mtW L (kLs 15) ((a + 1) + 1)).2) (upd T (4 * t) (nI 5))).2.1, (fgM L 2 p ((mtW L (kLs 15) ((a + 1) + 1)).2) (upd T (4 * t) (nI 5))).2.2) from by unfold wuM; rw [if_pos ⟨hs_1, hs_2⟩, if_neg hs_4, if_pos ⟨hs_16, hs_17⟩, if_pos cc_20, if_pos cc_23]]; exact ⟨rfl, rfl⟩) (Nat.le_of_ble_eq_true rfl) (Nat.le_of_ble_eq_true rfl) dX4_withU_77
          · skip
            obtain rfl : r = nI 0 := hr9.trans (bz_f cc_23)
            refine lv_if_eq (tgt := 76) hx hcd dX4_withU_69 (by decide) (fun _ => ?_) (fun c_25 => absurd c_25 (by decide))
            refine lv_iconst (v := nI 0) hx hcd dX4_withU_76 (by decide) ?_
            exact k_retz hQ G hret hlocks h (Or.inl rfl) (by rw [show wuM L t p a T = (false, (fgM L 2 p ((mtW L (kLs 15) ((a + 1) + 1)).2) (upd T (4 * t) (nI 5))).2.1, (fgM L 2 p ((mtW L (kLs 15) ((a + 1) + 1)).2) (upd T (4 * t) (nI 5))).2.2) from by unfold wuM; rw [if_pos ⟨hs_1, hs_2⟩, if_neg hs_4, if_pos ⟨hs_16, hs_17⟩, if_pos cc_20, if_neg (by rw [cc_23]; decide)]]; exact ⟨rfl, rfl⟩) (Nat.le_of_ble_eq_true rfl) (Nat.le_of_ble_eq_true rfl) dX4_withU_77
        · skip
          obtain rfl : r = nI 0 := hr9.trans (bz_f cc_20)
          refine lv_if_eq (tgt := 76) hx hcd dX4_withU_60 (by decide) (fun _ => ?_) (fun c_26 => absurd c_26 (by decide))
          refine lv_iconst (v := nI 0) hx hcd dX4_withU_76 (by decide) ?_
          exact k_retz hQ G hret hlocks h (Or.inl rfl) (by rw [show wuM L t p a T = (false, (mtW L (kLs 15) ((a + 1) + 1)).2, upd T (4 * t) (nI 5)) from by unfold wuM; rw [if_pos ⟨hs_1, hs_2⟩, if_neg hs_4, if_pos ⟨hs_16, hs_17⟩, if_neg (by rw [cc_20]; decide)]]; exact ⟨rfl, rfl⟩) (Nat.le_of_ble_eq_true rfl) (Nat.le_of_ble_eq_true rfl) dX4_withU_77
      · skip
        rw [hu9] at h
        refine lv_if_eq (tgt := 76) hx hcd dX4_withU_50 (by decide) (fun _ => ?_) (fun c_27 => absurd c_27 (by decide))
        refine lv_iconst (v := nI 0) hx hcd dX4_withU_76 (by decide) ?_
        exact k_retz hQ G hret hlocks h (Or.inl rfl) (by rw [show wuM L t p a T = (false, a + 1, T) from by unfold wuM; rw [if_pos ⟨hs_1, hs_2⟩, if_neg hs_4, if_neg hs_16]]; exact ⟨rfl, rfl⟩) (Nat.le_of_ble_eq_true rfl) (Nat.le_of_ble_eq_true rfl) dX4_withU_77
  · skip
    rw [hu9] at h
    refine lv_if_ne (tgt := 11) hx hcd dX4_withU_6 (by decide) (fun c_28 => absurd c_28 (by decide)) (fun _ => ?_)
    refine lv_iconst (v := nI 0) hx hcd dX4_withU_9 (by decide) ?_
    exact k_retz hQ G hret hlocks h (Or.inl rfl) (by rw [show wuM L t p a T = (false, a, T) from by unfold wuM; rw [if_neg hs_1]]; exact ⟨rfl, rfl⟩) (Nat.le_of_ble_eq_true rfl) (Nat.le_of_ble_eq_true rfl) dX4_withU_10
set_option maxHeartbeats 4000000 in
set_option maxRecDepth 100000 in
/-- withS(p) -/
theorem met_X4_withS (l : Launch) (V : kEnv) (M : kMs) (L : List Nat) (hn4 : M.1 4 = nI L.length) (hL60 : L.length ≤ 60) (hL : ∀ j, j < L.length → M.2 4 j = nI (L.getD j 0) ∧ L.getD j 0 < 128) (t : Nat) (ht : t ≤ 30) (T : Nat → Int32) (a : Nat) (hal : a ≤ L.length) (p : Nat) (hp9 : p + 1 < 124) : kI l yX4_withS cX4_withS 2 (some .boolean) { frames := 5, cells := 0, slots := 0, locals := 108 } V (mWs V) [.ref (eX V 500), .int (nI (p))] (pW M a t T) (fun r u => r = bz (wtM L t p a T).1 ∧ u = pW M (wtM L t p a T).2.1 t (wtM L t p a T).2.2) 0 0 := by
  refine kI_of (by decide +kernel) (Nat.le_of_ble_eq_true rfl) ?_
  intro pg e s m args below meth c G hret hlocks hC hB h ls hl Q hQ
  have hl : lv_has ls 2 [(0, .ref (eX V 500)), (1, .int (nI (p)))] := hl
  have hx := G.1
  have hcd := G.2.1
  refine lv_aload_n hx hcd dX4_withS_0 rfl (lv_at hl 0 rfl) ?_
  refine lv_bipush (v := nI 116) hx hcd dX4_withS_1 (by decide) ?_
  refine k_Vi (As := [.int (nI 116)]) (rest := []) (b := eX V 500) G hC hB h (met_X4_skips l V (pW M a t T) L hn4 hL60 hL a rfl (by omega) 116 (by omega)) mw_1850 kv_X4_skips ⟨rfl, rfl⟩ ⟨Nat.le_of_ble_eq_true rfl, Nat.le_of_ble_eq_true rfl⟩ (r_mV hC h) rfl rfl hl.1 (Nat.le_of_ble_eq_true rfl) dX4_withS_3 ⟨Nat.le_of_ble_eq_true rfl, Nat.le_of_ble_eq_true rfl⟩ (fun r u H locs hp h => ?_)
  rcases hp with ⟨⟨hs_1, hs_2⟩, rfl, hu9⟩ | ⟨hs_1, rfl, hu9⟩
  · skip
    rw [hu9, pW_a] at h
    refine lv_if_ne (tgt := 11) hx hcd dX4_withS_6 (by decide) (fun _ => ?_) (fun c_3 => absurd c_3 (by decide))
    refine lv_aload_n hx hcd dX4_withS_11 rfl (lv_at hl 0 rfl) ?_
    refine lv_bipush (v := nI 111) hx hcd dX4_withS_12 (by decide) ?_
    refine k_Vi (As := [.int (nI 111)]) (rest := []) (b := eX V 500) G hC hB h (met_X4_skips l V (pW M (a + 1) t T) L hn4 hL60 hL (a + 1) rfl (by omega) 111 (by omega)) mw_1850 kv_X4_skips ⟨rfl, rfl⟩ ⟨Nat.le_of_ble_eq_true rfl, Nat.le_of_ble_eq_true rfl⟩ (r_mV hC h) rfl rfl hl.1 (Nat.le_of_ble_eq_true rfl) dX4_withS_14 ⟨Nat.le_of_ble_eq_true rfl, Nat.le_of_ble_eq_true rfl⟩ (fun r u H locs hp h => ?_)
    rcases hp with ⟨⟨hs_4, hs_5⟩, rfl, hu9⟩ | ⟨hs_4, rfl, hu9⟩
    · skip
      rw [hu9, pW_a] at h
      refine lv_if_eq (tgt := 45) hx hcd dX4_withS_17 (by decide) (fun c_6 => absurd c_6 (by decide)) (fun _ => ?_)
      refine lv_aload_n hx hcd dX4_withS_20 rfl (lv_at hl 0 rfl) ?_
      refine lv_iconst (v := nI 0) hx hcd dX4_withS_21 (by decide) ?_
      refine r_ldcS G hC 12 rfl dX4_withS_22 ?_
      refine k_Vi (As := [.int (nI 0), .ref (eX V (200 + 12))]) (rest := []) (b := eX V 500) G hC hB h (met_X4_isWord l V M L hn4 hL60 hL t (by omega) T ((a + 1) + 1) (by omega) 12 0 (by decide)) mw_1863 kv_X4_isWord ⟨rfl, rfl⟩ ⟨Nat.le_of_ble_eq_true rfl, Nat.le_of_ble_eq_true rfl⟩ (r_mV hC h) rfl rfl hl.1 (Nat.le_of_ble_eq_true rfl) dX4_withS_24 ⟨Nat.le_of_ble_eq_true rfl, Nat.le_of_ble_eq_true rfl⟩ (fun r u H locs hp h => ?_)
      obtain ⟨hr9, hu9⟩ := hp
      rw [hu9] at h
      have g_7 := mtW_le L (kLs 12) ((a + 1) + 1) (by omega)
      rcases bsp ((mtW L (kLs 12) ((a + 1) + 1)).1) with cc_8 | cc_8
      · skip
        obtain rfl : r = nI 1 := hr9.trans (bz_t cc_8)
        refine lv_if_eq (tgt := 43) hx hcd dX4_withS_27 (by decide) (fun c_9 => absurd c_9 (by decide)) (fun _ => ?_)
        refine lv_aload_n hx hcd dX4_withS_30 rfl (lv_at hl 0 rfl) ?_
        refine lv_iload_n hx hcd dX4_withS_31 rfl (lv_at hl 1 rfl) ?_
        refine lv_iconst (v := nI 2) hx hcd dX4_withS_32 (by decide) ?_
        refine k_Vi (As := [.int (nI (p)), .int (nI 2)]) (rest := []) (b := eX V 500) G hC hB h (met_X4_figures l V M L hn4 hL60 hL t (by omega) (upd T (4 * t) (nI 0)) ((mtW L (kLs 12) ((a + 1) + 1)).2) (by omega) p 2 (by omega) (by omega)) mw_1869 kv_X4_figures ⟨rfl, rfl⟩ ⟨Nat.le_of_ble_eq_true rfl, Nat.le_of_ble_eq_true rfl⟩ (r_mV hC h) rfl rfl hl.1 (Nat.le_of_ble_eq_true rfl) dX4_withS_33 ⟨Nat.le_of_ble_eq_true rfl, Nat.le_of_ble_eq_true rfl⟩ (fun r u H locs hp h => ?_)
        obtain ⟨hr9, hu9⟩ := hp
        rw [hu9] at h
        have g_10 := fgM_le L 2 p ((mtW L (kLs 12) ((a + 1) + 1)).2) (upd T (4 * t) (nI 0)) (by omega)
        rcases bsp ((fgM L 2 p ((mtW L (kLs 12) ((a + 1) + 1)).2) (upd T (4 * t) (nI 0))).1) with cc_11 | cc_11
        · skip
          obtain rfl : r = nI 1 := hr9.trans (bz_t cc_11)
          refine lv_if_eq (tgt := 43) hx hcd dX4_withS_36 (by decide) (fun c_12 => absurd c_12 (by decide)) (fun _ => ?_)
          refine lv_iconst (v := nI 1) hx hcd dX4_withS_39 (by decide) ?_
          refine lv_goto (tgt := 44) hx hcd dX4_withS_40 (by decide) ?_
          exact k_retz hQ G hret hlocks h (Or.inr rfl) (by rw [show wtM L t p a T = (true, (fgM L 2 p ((mtW L (kLs 12) ((a + 1) + 1)).2) (upd T (4 * t) (nI 0))).2.1, (fgM L 2 p ((mtW L (kLs 12) ((a + 1) + 1)).2) (upd T (4 * t) (nI 0))).2.2) from by unfold wtM; rw [if_pos ⟨hs_1, hs_2⟩, if_pos ⟨hs_4, hs_5⟩, if_pos cc_8, if_pos cc_11]]; exact ⟨rfl, rfl⟩) (Nat.le_of_ble_eq_true rfl) (Nat.le_of_ble_eq_true rfl) dX4_withS_44
        · skip
          obtain rfl : r = nI 0 := hr9.trans (bz_f cc_11)
          refine lv_if_eq (tgt := 43) hx hcd dX4_withS_36 (by decide) (fun _ => ?_) (fun c_13 => absurd c_13 (by decide))
          refine lv_iconst (v := nI 0) hx hcd dX4_withS_43 (by decide) ?_
          exact k_retz hQ G hret hlocks h (Or.inl rfl) (by rw [show wtM L t p a T = (false, (fgM L 2 p ((mtW L (kLs 12) ((a + 1) + 1)).2) (upd T (4 * t) (nI 0))).2.1, (fgM L 2 p ((mtW L (kLs 12) ((a + 1) + 1)).2) (upd T (4 * t) (nI 0))).2.2) from by unfold wtM; rw [if_pos ⟨hs_1, hs_2⟩, if_pos ⟨hs_4, hs_5⟩, if_pos cc_8, if_neg (by rw [cc_11]; decide)]]; exact ⟨rfl, rfl⟩) (Nat.le_of_ble_eq_true rfl) (Nat.le_of_ble_eq_true rfl) dX4_withS_44
      · skip
        obtain rfl : r = nI 0 := hr9.trans (bz_f cc_8)
        refine lv_if_eq (tgt := 43) hx hcd dX4_withS_27 (by decide) (fun _ => ?_) (fun c_14 => absurd c_14 (by decide))
        refine lv_iconst (v := nI 0) hx hcd dX4_withS_43 (by decide) ?_
        exact k_retz hQ G hret hlocks h (Or.inl rfl) (by rw [show wtM L t p a T = (false, (mtW L (kLs 12) ((a + 1) + 1)).2, upd T (4 * t) (nI 0)) from by unfold wtM; rw [if_pos ⟨hs_1, hs_2⟩, if_pos ⟨hs_4, hs_5⟩, if_neg (by rw [cc_8]; decide)]]; exact ⟨rfl, rfl⟩) (Nat.le_of_ble_eq_true rfl) (Nat.le_of_ble_eq_true rfl) dX4_withS_44
    · skip
      rw [hu9] at h
      refine lv_if_eq (tgt := 45) hx hcd dX4_withS_17 (by decide) (fun _ => ?_) (fun c_15 => absurd c_15 (by decide))
      refine lv_aload_n hx hcd dX4_withS_45 rfl (lv_at hl 0 rfl) ?_
      refine lv_bipush (v := nI 97) hx hcd dX4_withS_46 (by decide) ?_
      refine k_Vi (As := [.int (nI 97)]) (rest := []) (b := eX V 500) G hC hB h (met_X4_skips l V (pW M (a + 1) t T) L hn4 hL60 hL (a + 1) rfl (by omega) 97 (by omega)) mw_1850 kv_X4_skips ⟨rfl, rfl⟩ ⟨Nat.le_of_ble_eq_true rfl, Nat.le_of_ble_eq_true rfl⟩ (r_mV hC h) rfl rfl hl.1 (Nat.le_of_ble_eq_true rfl) dX4_withS_48 ⟨Nat.le_of_ble_eq_true rfl, Nat.le_of_ble_eq_true rfl⟩ (fun r u H locs hp h => ?_)
      rcases hp with ⟨⟨hs_16, hs_17⟩, rfl, hu9⟩ | ⟨hs_16, rfl, hu9⟩
      · skip
        rw [hu9, pW_a] at h
        refine lv_if_eq (tgt := 78) hx hcd dX4_withS_51 (by decide) (fun c_18 => absurd c_18 (by decide)) (fun _ => ?_)
        refine lv_aload_n hx hcd dX4_withS_54 rfl (lv_at hl 0 rfl) ?_
        refine lv_bipush (v := nI 6) hx hcd dX4_withS_55 (by decide) ?_
        refine r_ldcS G hC 13 rfl dX4_withS_57 ?_
        refine k_Vi (As := [.int (nI 6), .ref (eX V (200 + 13))]) (rest := []) (b := eX V 500) G hC hB h (met_X4_isWord l V M L hn4 hL60 hL t (by omega) T ((a + 1) + 1) (by omega) 13 6 (by decide)) mw_1863 kv_X4_isWord ⟨rfl, rfl⟩ ⟨Nat.le_of_ble_eq_true rfl, Nat.le_of_ble_eq_true rfl⟩ (r_mV hC h) rfl rfl hl.1 (Nat.le_of_ble_eq_true rfl) dX4_withS_59 ⟨Nat.le_of_ble_eq_true rfl, Nat.le_of_ble_eq_true rfl⟩ (fun r u H locs hp h => ?_)
        obtain ⟨hr9, hu9⟩ := hp
        rw [hu9] at h
        have g_19 := mtW_le L (kLs 13) ((a + 1) + 1) (by omega)
        rcases bsp ((mtW L (kLs 13) ((a + 1) + 1)).1) with cc_20 | cc_20
        · skip
          obtain rfl : r = nI 1 := hr9.trans (bz_t cc_20)
          refine lv_if_eq (tgt := 78) hx hcd dX4_withS_62 (by decide) (fun c_21 => absurd c_21 (by decide)) (fun _ => ?_)
          refine lv_aload_n hx hcd dX4_withS_65 rfl (lv_at hl 0 rfl) ?_
          refine lv_iload_n hx hcd dX4_withS_66 rfl (lv_at hl 1 rfl) ?_
          refine lv_iconst (v := nI 2) hx hcd dX4_withS_67 (by decide) ?_
          refine k_Vi (As := [.int (nI (p)), .int (nI 2)]) (rest := []) (b := eX V 500) G hC hB h (met_X4_figures l V M L hn4 hL60 hL t (by omega) (upd T (4 * t) (nI 6)) ((mtW L (kLs 13) ((a + 1) + 1)).2) (by omega) p 2 (by omega) (by omega)) mw_1869 kv_X4_figures ⟨rfl, rfl⟩ ⟨Nat.le_of_ble_eq_true rfl, Nat.le_of_ble_eq_true rfl⟩ (r_mV hC h) rfl rfl hl.1 (Nat.le_of_ble_eq_true rfl) dX4_withS_68 ⟨Nat.le_of_ble_eq_true rfl, Nat.le_of_ble_eq_true rfl⟩ (fun r u H locs hp h => ?_)
          obtain ⟨hr9, hu9⟩ := hp
          rw [hu9] at h
          have g_22 := fgM_le L 2 p ((mtW L (kLs 13) ((a + 1) + 1)).2) (upd T (4 * t) (nI 6)) (by omega)
          rcases bsp ((fgM L 2 p ((mtW L (kLs 13) ((a + 1) + 1)).2) (upd T (4 * t) (nI 6))).1) with cc_23 | cc_23
          · skip
            obtain rfl : r = nI 1 := hr9.trans (bz_t cc_23)
            refine lv_if_eq (tgt := 78) hx hcd dX4_withS_71 (by decide) (fun c_24 => absurd c_24 (by decide)) (fun _ => ?_)
            refine lv_iconst (v := nI 1) hx hcd dX4_withS_74 (by decide) ?_
            refine lv_goto (tgt := 79) hx hcd dX4_withS_75 (by decide) ?_
            exact k_retz hQ G hret hlocks h (Or.inr rfl) (by rw [show wtM L t p a T = (true, (fgM L 2 p ((mtW L (kLs 13) ((a + 1) + 1)).2) (upd T (4 * t) (nI 6))).2.1, (fgM L 2 p ((mtW L (kLs 13) ((a + 1) + 1)).2) (upd T (4 * t) (nI 6))).2.2) from by unfold wtM; rw [if_pos ⟨hs_1, hs_2⟩, if_neg hs_4, if_pos ⟨hs_16, hs_17⟩, if_pos cc_20, if_pos cc_23]]; exact ⟨rfl, rfl⟩) (Nat.le_of_ble_eq_true rfl) (Nat.le_of_ble_eq_true rfl) dX4_withS_79
          · skip
            obtain rfl : r = nI 0 := hr9.trans (bz_f cc_23)
            refine lv_if_eq (tgt := 78) hx hcd dX4_withS_71 (by decide) (fun _ => ?_) (fun c_25 => absurd c_25 (by decide))
            refine lv_iconst (v := nI 0) hx hcd dX4_withS_78 (by decide) ?_
            exact k_retz hQ G hret hlocks h (Or.inl rfl) (by rw [show wtM L t p a T = (false, (fgM L 2 p ((mtW L (kLs 13) ((a + 1) + 1)).2) (upd T (4 * t) (nI 6))).2.1, (fgM L 2 p ((mtW L (kLs 13) ((a + 1) + 1)).2) (upd T (4 * t) (nI 6))).2.2) from by unfold wtM; rw [if_pos ⟨hs_1, hs_2⟩, if_neg hs_4, if_pos ⟨hs_16, hs_17⟩, if_pos cc_20, if_neg (by rw [cc_23]; decide)]]; exact ⟨rfl, rfl⟩) (Nat.le_of_ble_eq_true rfl) (Nat.le_of_ble_eq_true rfl) dX4_withS_79
        · skip
          obtain rfl : r = nI 0 := hr9.trans (bz_f cc_20)
          refine lv_if_eq (tgt := 78) hx hcd dX4_withS_62 (by decide) (fun _ => ?_) (fun c_26 => absurd c_26 (by decide))
          refine lv_iconst (v := nI 0) hx hcd dX4_withS_78 (by decide) ?_
          exact k_retz hQ G hret hlocks h (Or.inl rfl) (by rw [show wtM L t p a T = (false, (mtW L (kLs 13) ((a + 1) + 1)).2, upd T (4 * t) (nI 6)) from by unfold wtM; rw [if_pos ⟨hs_1, hs_2⟩, if_neg hs_4, if_pos ⟨hs_16, hs_17⟩, if_neg (by rw [cc_20]; decide)]]; exact ⟨rfl, rfl⟩) (Nat.le_of_ble_eq_true rfl) (Nat.le_of_ble_eq_true rfl) dX4_withS_79
      · skip
        rw [hu9] at h
        refine lv_if_eq (tgt := 78) hx hcd dX4_withS_51 (by decide) (fun _ => ?_) (fun c_27 => absurd c_27 (by decide))
        refine lv_iconst (v := nI 0) hx hcd dX4_withS_78 (by decide) ?_
        exact k_retz hQ G hret hlocks h (Or.inl rfl) (by rw [show wtM L t p a T = (false, a + 1, T) from by unfold wtM; rw [if_pos ⟨hs_1, hs_2⟩, if_neg hs_4, if_neg hs_16]]; exact ⟨rfl, rfl⟩) (Nat.le_of_ble_eq_true rfl) (Nat.le_of_ble_eq_true rfl) dX4_withS_79
  · skip
    rw [hu9] at h
    refine lv_if_ne (tgt := 11) hx hcd dX4_withS_6 (by decide) (fun c_28 => absurd c_28 (by decide)) (fun _ => ?_)
    refine lv_iconst (v := nI 0) hx hcd dX4_withS_9 (by decide) ?_
    exact k_retz hQ G hret hlocks h (Or.inl rfl) (by rw [show wtM L t p a T = (false, a, T) from by unfold wtM; rw [if_neg hs_1]]; exact ⟨rfl, rfl⟩) (Nat.le_of_ble_eq_true rfl) (Nat.le_of_ble_eq_true rfl) dX4_withS_10
set_option maxHeartbeats 4000000 in
set_option maxRecDepth 100000 in
/-- commandHere() -/
theorem met_X4_commandHere (l : Launch) (V : kEnv) (M : kMs) (L : List Nat) (hn4 : M.1 4 = nI L.length) (hL60 : L.length ≤ 60) (hL : ∀ j, j < L.length → M.2 4 j = nI (L.getD j 0) ∧ L.getD j 0 < 128) (t : Nat) (ht : t ≤ 30) (T : Nat → Int32) (a : Nat) (hal : a ≤ L.length) : kI l yX4_commandHere cX4_commandHere 2 (some .boolean) { frames := 6, cells := 0, slots := 0, locals := 129 } V (mWs V) [.ref (eX V 500)] (pW M a t T) (fun r u => r = bz (cmM L t a T).1 ∧ u = pW M (cmM L t a T).2.1 t (cmM L t a T).2.2) 0 0 := by
  refine kI_of (by decide +kernel) (Nat.le_of_ble_eq_true rfl) ?_
  intro pg e s m args below meth c G hret hlocks hC hB h ls hl Q hQ
  have hl : lv_has ls 2 [(0, .ref (eX V 500))] := hl
  have hx := G.1
  have hcd := G.2.1
  refine lv_iconst (v := nI 4) hx hcd dX4_commandHere_0 (by decide) ?_
  refine lv_aload_n hx hcd dX4_commandHere_1 rfl (lv_at hl 0 rfl) ?_
  refine r_mN G hC h 9 (by decide) mw_1490 (x := nI (t)) rfl dX4_commandHere_2 ?_
  refine w_imul (v := nI (4 * t)) hx hcd dX4_commandHere_5 (pk_mul _ _) ?_
  refine lv_iconst (v := nI 1) hx hcd dX4_commandHere_6 (by decide) ?_
  refine w_iadd (v := nI ((4 * t) + 1)) hx hcd dX4_commandHere_7 (nI_add _ _) ?_
  refine lv_istore_n (lv' := [(1, .int (nI ((4 * t) + 1))), (0, .ref (eX V 500))]) hx hcd dX4_commandHere_8 rfl hl (by decide) rfl (fun ls hl => ?_)
  refine lv_aload_n hx hcd dX4_commandHere_9 rfl (lv_at hl 1 rfl) ?_
  refine lv_bipush (v := nI 115) hx hcd dX4_commandHere_10 (by decide) ?_
  refine k_Vi (As := [.int (nI 115)]) (rest := []) (b := eX V 500) G hC hB h (met_X4_skips l V (pW M a t T) L hn4 hL60 hL a rfl (by omega) 115 (by omega)) mw_1850 kv_X4_skips ⟨rfl, rfl⟩ ⟨Nat.le_of_ble_eq_true rfl, Nat.le_of_ble_eq_true rfl⟩ (r_mV hC h) rfl rfl hl.1 (Nat.le_of_ble_eq_true rfl) dX4_commandHere_12 ⟨Nat.le_of_ble_eq_true rfl, Nat.le_of_ble_eq_true rfl⟩ (fun r u H locs hp h => ?_)
  rcases hp with ⟨⟨hs_3, hs_4⟩, rfl, hu9⟩ | ⟨hs_3, rfl, hu9⟩
  · skip
    rw [hu9, pW_a] at h
    refine lv_if_eq (tgt := 24) hx hcd dX4_commandHere_15 (by decide) (fun c_5 => absurd c_5 (by decide)) (fun _ => ?_)
    refine lv_aload_n hx hcd dX4_commandHere_18 rfl (lv_at hl 1 rfl) ?_
    refine lv_iload_n hx hcd dX4_commandHere_19 rfl (lv_at hl 0 rfl) ?_
    refine k_Vi (As := [.int (nI ((4 * t) + 1))]) (rest := []) (b := eX V 500) G hC hB h (met_X4_withS l V M L hn4 hL60 hL t (by omega) T (a + 1) (by omega) ((4 * t) + 1) (by omega)) mw_1858 kv_X4_withS ⟨rfl, rfl⟩ ⟨Nat.le_of_ble_eq_true rfl, Nat.le_of_ble_eq_true rfl⟩ (r_mV hC h) rfl rfl hl.1 (Nat.le_of_ble_eq_true rfl) dX4_commandHere_20 ⟨Nat.le_of_ble_eq_true rfl, Nat.le_of_ble_eq_true rfl⟩ (fun r u H locs hp h => ?_)
    obtain ⟨hr9, hu9⟩ := hp
    rw [hu9] at h
    have g_6 := wtM_le L t ((4 * t) + 1) (a + 1) T (by omega)
    rcases bsp ((wtM L t ((4 * t) + 1) (a + 1) T).1) with cc_7 | cc_7
    · skip
      obtain rfl : r = nI 1 := hr9.trans (bz_t cc_7)
      exact k_retz hQ G hret hlocks h (Or.inr rfl) (by rw [show cmM L t a T = (true, (wtM L t ((4 * t) + 1) (a + 1) T).2.1, (wtM L t ((4 * t) + 1) (a + 1) T).2.2) from by unfold cmM; rw [if_pos ⟨hs_3, hs_4⟩, if_pos cc_7]]; exact ⟨rfl, rfl⟩) (Nat.le_of_ble_eq_true rfl) (Nat.le_of_ble_eq_true rfl) dX4_commandHere_23
    · skip
      obtain rfl : r = nI 0 := hr9.trans (bz_f cc_7)
      exact k_retz hQ G hret hlocks h (Or.inl rfl) (by rw [show cmM L t a T = (false, (wtM L t ((4 * t) + 1) (a + 1) T).2.1, (wtM L t ((4 * t) + 1) (a + 1) T).2.2) from by unfold cmM; rw [if_pos ⟨hs_3, hs_4⟩, if_neg (by rw [cc_7]; decide)]]; exact ⟨rfl, rfl⟩) (Nat.le_of_ble_eq_true rfl) (Nat.le_of_ble_eq_true rfl) dX4_commandHere_23
  · skip
    rw [hu9] at h
    refine lv_if_eq (tgt := 24) hx hcd dX4_commandHere_15 (by decide) (fun _ => ?_) (fun c_8 => absurd c_8 (by decide))
    refine lv_aload_n hx hcd dX4_commandHere_24 rfl (lv_at hl 1 rfl) ?_
    refine lv_bipush (v := nI 117) hx hcd dX4_commandHere_25 (by decide) ?_
    refine k_Vi (As := [.int (nI 117)]) (rest := []) (b := eX V 500) G hC hB h (met_X4_skips l V (pW M a t T) L hn4 hL60 hL a rfl (by omega) 117 (by omega)) mw_1850 kv_X4_skips ⟨rfl, rfl⟩ ⟨Nat.le_of_ble_eq_true rfl, Nat.le_of_ble_eq_true rfl⟩ (r_mV hC h) rfl rfl hl.1 (Nat.le_of_ble_eq_true rfl) dX4_commandHere_27 ⟨Nat.le_of_ble_eq_true rfl, Nat.le_of_ble_eq_true rfl⟩ (fun r u H locs hp h => ?_)
    rcases hp with ⟨⟨hs_9, hs_10⟩, rfl, hu9⟩ | ⟨hs_9, rfl, hu9⟩
    · skip
      rw [hu9, pW_a] at h
      refine lv_if_eq (tgt := 39) hx hcd dX4_commandHere_30 (by decide) (fun c_11 => absurd c_11 (by decide)) (fun _ => ?_)
      refine lv_aload_n hx hcd dX4_commandHere_33 rfl (lv_at hl 1 rfl) ?_
      refine lv_iload_n hx hcd dX4_commandHere_34 rfl (lv_at hl 0 rfl) ?_
      refine k_Vi (As := [.int (nI ((4 * t) + 1))]) (rest := []) (b := eX V 500) G hC hB h (met_X4_withU l V M L hn4 hL60 hL t (by omega) T (a + 1) (by omega) ((4 * t) + 1) (by omega)) mw_1874 kv_X4_withU ⟨rfl, rfl⟩ ⟨Nat.le_of_ble_eq_true rfl, Nat.le_of_ble_eq_true rfl⟩ (r_mV hC h) rfl rfl hl.1 (Nat.le_of_ble_eq_true rfl) dX4_commandHere_35 ⟨Nat.le_of_ble_eq_true rfl, Nat.le_of_ble_eq_true rfl⟩ (fun r u H locs hp h => ?_)
      obtain ⟨hr9, hu9⟩ := hp
      rw [hu9] at h
      have g_12 := wuM_le L t ((4 * t) + 1) (a + 1) T (by omega)
      rcases bsp ((wuM L t ((4 * t) + 1) (a + 1) T).1) with cc_13 | cc_13
      · skip
        obtain rfl : r = nI 1 := hr9.trans (bz_t cc_13)
        exact k_retz hQ G hret hlocks h (Or.inr rfl) (by rw [show cmM L t a T = (true, (wuM L t ((4 * t) + 1) (a + 1) T).2.1, (wuM L t ((4 * t) + 1) (a + 1) T).2.2) from by unfold cmM; rw [if_neg hs_3, if_pos ⟨hs_9, hs_10⟩, if_pos cc_13]]; exact ⟨rfl, rfl⟩) (Nat.le_of_ble_eq_true rfl) (Nat.le_of_ble_eq_true rfl) dX4_commandHere_38
      · skip
        obtain rfl : r = nI 0 := hr9.trans (bz_f cc_13)
        exact k_retz hQ G hret hlocks h (Or.inl rfl) (by rw [show cmM L t a T = (false, (wuM L t ((4 * t) + 1) (a + 1) T).2.1, (wuM L t ((4 * t) + 1) (a + 1) T).2.2) from by unfold cmM; rw [if_neg hs_3, if_pos ⟨hs_9, hs_10⟩, if_neg (by rw [cc_13]; decide)]]; exact ⟨rfl, rfl⟩) (Nat.le_of_ble_eq_true rfl) (Nat.le_of_ble_eq_true rfl) dX4_commandHere_38
    · skip
      rw [hu9] at h
      refine lv_if_eq (tgt := 39) hx hcd dX4_commandHere_30 (by decide) (fun _ => ?_) (fun c_14 => absurd c_14 (by decide))
      refine lv_aload_n hx hcd dX4_commandHere_39 rfl (lv_at hl 1 rfl) ?_
      refine lv_bipush (v := nI 98) hx hcd dX4_commandHere_40 (by decide) ?_
      refine k_Vi (As := [.int (nI 98)]) (rest := []) (b := eX V 500) G hC hB h (met_X4_skips l V (pW M a t T) L hn4 hL60 hL a rfl (by omega) 98 (by omega)) mw_1850 kv_X4_skips ⟨rfl, rfl⟩ ⟨Nat.le_of_ble_eq_true rfl, Nat.le_of_ble_eq_true rfl⟩ (r_mV hC h) rfl rfl hl.1 (Nat.le_of_ble_eq_true rfl) dX4_commandHere_42 ⟨Nat.le_of_ble_eq_true rfl, Nat.le_of_ble_eq_true rfl⟩ (fun r u H locs hp h => ?_)
      rcases hp with ⟨⟨hs_15, hs_16⟩, rfl, hu9⟩ | ⟨hs_15, rfl, hu9⟩
      · skip
        rw [hu9, pW_a] at h
        refine lv_if_eq (tgt := 72) hx hcd dX4_commandHere_45 (by decide) (fun c_17 => absurd c_17 (by decide)) (fun _ => ?_)
        refine lv_aload_n hx hcd dX4_commandHere_48 rfl (lv_at hl 1 rfl) ?_
        refine lv_iconst (v := nI 2) hx hcd dX4_commandHere_49 (by decide) ?_
        refine r_ldcS G hC 14 rfl dX4_commandHere_50 ?_
        refine k_Vi (As := [.int (nI 2), .ref (eX V (200 + 14))]) (rest := []) (b := eX V 500) G hC hB h (met_X4_isWord l V M L hn4 hL60 hL t (by omega) T (a + 1) (by omega) 14 2 (by decide)) mw_1863 kv_X4_isWord ⟨rfl, rfl⟩ ⟨Nat.le_of_ble_eq_true rfl, Nat.le_of_ble_eq_true rfl⟩ (r_mV hC h) rfl rfl hl.1 (Nat.le_of_ble_eq_true rfl) dX4_commandHere_52 ⟨Nat.le_of_ble_eq_true rfl, Nat.le_of_ble_eq_true rfl⟩ (fun r u H locs hp h => ?_)
        obtain ⟨hr9, hu9⟩ := hp
        rw [hu9] at h
        have g_18 := mtW_le L (kLs 14) (a + 1) (by omega)
        rcases bsp ((mtW L (kLs 14) (a + 1)).1) with cc_19 | cc_19
        · skip
          obtain rfl : r = nI 1 := hr9.trans (bz_t cc_19)
          refine lv_if_eq (tgt := 70) hx hcd dX4_commandHere_55 (by decide) (fun c_20 => absurd c_20 (by decide)) (fun _ => ?_)
          refine lv_aload_n hx hcd dX4_commandHere_58 rfl (lv_at hl 1 rfl) ?_
          refine lv_iload_n hx hcd dX4_commandHere_59 rfl (lv_at hl 0 rfl) ?_
          refine k_Vi (As := [.int (nI ((4 * t) + 1))]) (rest := []) (b := eX V 500) G hC hB h (met_X4_bothHere l V M L hn4 hL60 hL t (by omega) (upd T (4 * t) (nI 2)) ((mtW L (kLs 14) (a + 1)).2) (by omega) ((4 * t) + 1) (by omega)) mw_1879 kv_X4_bothHere ⟨rfl, rfl⟩ ⟨Nat.le_of_ble_eq_true rfl, Nat.le_of_ble_eq_true rfl⟩ (r_mV hC h) rfl rfl hl.1 (Nat.le_of_ble_eq_true rfl) dX4_commandHere_60 ⟨Nat.le_of_ble_eq_true rfl, Nat.le_of_ble_eq_true rfl⟩ (fun r u H locs hp h => ?_)
          obtain ⟨hr9, hu9⟩ := hp
          rw [hu9] at h
          have g_21 := bhM_le L ((4 * t) + 1) ((mtW L (kLs 14) (a + 1)).2) (upd T (4 * t) (nI 2)) (by omega)
          rcases bsp ((bhM L ((4 * t) + 1) ((mtW L (kLs 14) (a + 1)).2) (upd T (4 * t) (nI 2))).1) with cc_22 | cc_22
          · skip
            obtain rfl : r = nI 1 := hr9.trans (bz_t cc_22)
            refine lv_if_eq (tgt := 70) hx hcd dX4_commandHere_63 (by decide) (fun c_23 => absurd c_23 (by decide)) (fun _ => ?_)
            refine lv_iconst (v := nI 1) hx hcd dX4_commandHere_66 (by decide) ?_
            refine lv_goto (tgt := 71) hx hcd dX4_commandHere_67 (by decide) ?_
            exact k_retz hQ G hret hlocks h (Or.inr rfl) (by rw [show cmM L t a T = (true, (bhM L ((4 * t) + 1) ((mtW L (kLs 14) (a + 1)).2) (upd T (4 * t) (nI 2))).2.1, (bhM L ((4 * t) + 1) ((mtW L (kLs 14) (a + 1)).2) (upd T (4 * t) (nI 2))).2.2) from by unfold cmM; rw [if_neg hs_3, if_neg hs_9, if_pos ⟨hs_15, hs_16⟩, if_pos cc_19, if_pos cc_22]]; exact ⟨rfl, rfl⟩) (Nat.le_of_ble_eq_true rfl) (Nat.le_of_ble_eq_true rfl) dX4_commandHere_71
          · skip
            obtain rfl : r = nI 0 := hr9.trans (bz_f cc_22)
            refine lv_if_eq (tgt := 70) hx hcd dX4_commandHere_63 (by decide) (fun _ => ?_) (fun c_24 => absurd c_24 (by decide))
            refine lv_iconst (v := nI 0) hx hcd dX4_commandHere_70 (by decide) ?_
            exact k_retz hQ G hret hlocks h (Or.inl rfl) (by rw [show cmM L t a T = (false, (bhM L ((4 * t) + 1) ((mtW L (kLs 14) (a + 1)).2) (upd T (4 * t) (nI 2))).2.1, (bhM L ((4 * t) + 1) ((mtW L (kLs 14) (a + 1)).2) (upd T (4 * t) (nI 2))).2.2) from by unfold cmM; rw [if_neg hs_3, if_neg hs_9, if_pos ⟨hs_15, hs_16⟩, if_pos cc_19, if_neg (by rw [cc_22]; decide)]]; exact ⟨rfl, rfl⟩) (Nat.le_of_ble_eq_true rfl) (Nat.le_of_ble_eq_true rfl) dX4_commandHere_71
        · skip
          obtain rfl : r = nI 0 := hr9.trans (bz_f cc_19)
          refine lv_if_eq (tgt := 70) hx hcd dX4_commandHere_55 (by decide) (fun _ => ?_) (fun c_25 => absurd c_25 (by decide))
          refine lv_iconst (v := nI 0) hx hcd dX4_commandHere_70 (by decide) ?_
          exact k_retz hQ G hret hlocks h (Or.inl rfl) (by rw [show cmM L t a T = (false, (mtW L (kLs 14) (a + 1)).2, upd T (4 * t) (nI 2)) from by unfold cmM; rw [if_neg hs_3, if_neg hs_9, if_pos ⟨hs_15, hs_16⟩, if_neg (by rw [cc_19]; decide)]]; exact ⟨rfl, rfl⟩) (Nat.le_of_ble_eq_true rfl) (Nat.le_of_ble_eq_true rfl) dX4_commandHere_71
      · skip
        rw [hu9] at h
        refine lv_if_eq (tgt := 72) hx hcd dX4_commandHere_45 (by decide) (fun _ => ?_) (fun c_26 => absurd c_26 (by decide))
        refine lv_aload_n hx hcd dX4_commandHere_72 rfl (lv_at hl 1 rfl) ?_
        refine lv_bipush (v := nI 97) hx hcd dX4_commandHere_73 (by decide) ?_
        refine k_Vi (As := [.int (nI 97)]) (rest := []) (b := eX V 500) G hC hB h (met_X4_skips l V (pW M a t T) L hn4 hL60 hL a rfl (by omega) 97 (by omega)) mw_1850 kv_X4_skips ⟨rfl, rfl⟩ ⟨Nat.le_of_ble_eq_true rfl, Nat.le_of_ble_eq_true rfl⟩ (r_mV hC h) rfl rfl hl.1 (Nat.le_of_ble_eq_true rfl) dX4_commandHere_75 ⟨Nat.le_of_ble_eq_true rfl, Nat.le_of_ble_eq_true rfl⟩ (fun r u H locs hp h => ?_)
        rcases hp with ⟨⟨hs_27, hs_28⟩, rfl, hu9⟩ | ⟨hs_27, rfl, hu9⟩
        · skip
          rw [hu9, pW_a] at h
          refine lv_if_eq (tgt := 118) hx hcd dX4_commandHere_78 (by decide) (fun c_29 => absurd c_29 (by decide)) (fun _ => ?_)
          refine lv_aload_n hx hcd dX4_commandHere_81 rfl (lv_at hl 1 rfl) ?_
          refine lv_bipush (v := nI 7) hx hcd dX4_commandHere_82 (by decide) ?_
          refine r_ldcS G hC 16 rfl dX4_commandHere_84 ?_
          refine k_Vi (As := [.int (nI 7), .ref (eX V (200 + 16))]) (rest := []) (b := eX V 500) G hC hB h (met_X4_isWord l V M L hn4 hL60 hL t (by omega) T (a + 1) (by omega) 16 7 (by decide)) mw_1863 kv_X4_isWord ⟨rfl, rfl⟩ ⟨Nat.le_of_ble_eq_true rfl, Nat.le_of_ble_eq_true rfl⟩ (r_mV hC h) rfl rfl hl.1 (Nat.le_of_ble_eq_true rfl) dX4_commandHere_86 ⟨Nat.le_of_ble_eq_true rfl, Nat.le_of_ble_eq_true rfl⟩ (fun r u H locs hp h => ?_)
          obtain ⟨hr9, hu9⟩ := hp
          rw [hu9] at h
          have g_30 := mtW_le L (kLs 16) (a + 1) (by omega)
          rcases bsp ((mtW L (kLs 16) (a + 1)).1) with cc_31 | cc_31
          · skip
            obtain rfl : r = nI 1 := hr9.trans (bz_t cc_31)
            refine lv_if_eq (tgt := 116) hx hcd dX4_commandHere_89 (by decide) (fun c_32 => absurd c_32 (by decide)) (fun _ => ?_)
            refine lv_aload_n hx hcd dX4_commandHere_92 rfl (lv_at hl 1 rfl) ?_
            refine lv_iload_n hx hcd dX4_commandHere_93 rfl (lv_at hl 0 rfl) ?_
            refine lv_iconst (v := nI 2) hx hcd dX4_commandHere_94 (by decide) ?_
            refine k_Vi (As := [.int (nI ((4 * t) + 1)), .int (nI 2)]) (rest := []) (b := eX V 500) G hC hB h (met_X4_figures l V M L hn4 hL60 hL t (by omega) (upd T (4 * t) (nI 7)) ((mtW L (kLs 16) (a + 1)).2) (by omega) ((4 * t) + 1) 2 (by omega) (by omega)) mw_1869 kv_X4_figures ⟨rfl, rfl⟩ ⟨Nat.le_of_ble_eq_true rfl, Nat.le_of_ble_eq_true rfl⟩ (r_mV hC h) rfl rfl hl.1 (Nat.le_of_ble_eq_true rfl) dX4_commandHere_95 ⟨Nat.le_of_ble_eq_true rfl, Nat.le_of_ble_eq_true rfl⟩ (fun r u H locs hp h => ?_)
            obtain ⟨hr9, hu9⟩ := hp
            rw [hu9] at h
            have g_33 := fgM_le L 2 ((4 * t) + 1) ((mtW L (kLs 16) (a + 1)).2) (upd T (4 * t) (nI 7)) (by omega)
            rcases bsp ((fgM L 2 ((4 * t) + 1) ((mtW L (kLs 16) (a + 1)).2) (upd T (4 * t) (nI 7))).1) with cc_34 | cc_34
            · skip
              obtain rfl : r = nI 1 := hr9.trans (bz_t cc_34)
              refine lv_if_eq (tgt := 116) hx hcd dX4_commandHere_98 (by decide) (fun c_35 => absurd c_35 (by decide)) (fun _ => ?_)
              refine lv_aload_n hx hcd dX4_commandHere_101 rfl (lv_at hl 1 rfl) ?_
              refine lv_iload_n hx hcd dX4_commandHere_102 rfl (lv_at hl 0 rfl) ?_
              refine lv_iconst (v := nI 1) hx hcd dX4_commandHere_103 (by decide) ?_
              refine w_iadd (v := nI (((4 * t) + 1) + 1)) hx hcd dX4_commandHere_104 (nI_add _ _) ?_
              refine lv_iconst (v := nI 1) hx hcd dX4_commandHere_105 (by decide) ?_
              refine k_Vi (As := [.int (nI (((4 * t) + 1) + 1)), .int (nI 1)]) (rest := []) (b := eX V 500) G hC hB h (met_X4_figures l V M L hn4 hL60 hL t (by omega) ((fgM L 2 ((4 * t) + 1) ((mtW L (kLs 16) (a + 1)).2) (upd T (4 * t) (nI 7))).2.2) ((fgM L 2 ((4 * t) + 1) ((mtW L (kLs 16) (a + 1)).2) (upd T (4 * t) (nI 7))).2.1) (by omega) (((4 * t) + 1) + 1) 1 (by omega) (by omega)) mw_1869 kv_X4_figures ⟨rfl, rfl⟩ ⟨Nat.le_of_ble_eq_true rfl, Nat.le_of_ble_eq_true rfl⟩ (r_mV hC h) rfl rfl hl.1 (Nat.le_of_ble_eq_true rfl) dX4_commandHere_106 ⟨Nat.le_of_ble_eq_true rfl, Nat.le_of_ble_eq_true rfl⟩ (fun r u H locs hp h => ?_)
              obtain ⟨hr9, hu9⟩ := hp
              rw [hu9] at h
              have g_37 := fgM_le L 1 (((4 * t) + 1) + 1) ((fgM L 2 ((4 * t) + 1) ((mtW L (kLs 16) (a + 1)).2) (upd T (4 * t) (nI 7))).2.1) ((fgM L 2 ((4 * t) + 1) ((mtW L (kLs 16) (a + 1)).2) (upd T (4 * t) (nI 7))).2.2) (by omega)
              rcases bsp ((fgM L 1 (((4 * t) + 1) + 1) ((fgM L 2 ((4 * t) + 1) ((mtW L (kLs 16) (a + 1)).2) (upd T (4 * t) (nI 7))).2.1) ((fgM L 2 ((4 * t) + 1) ((mtW L (kLs 16) (a + 1)).2) (upd T (4 * t) (nI 7))).2.2)).1) with cc_38 | cc_38
              · skip
                obtain rfl : r = nI 1 := hr9.trans (bz_t cc_38)
                refine lv_if_eq (tgt := 116) hx hcd dX4_commandHere_109 (by decide) (fun c_39 => absurd c_39 (by decide)) (fun _ => ?_)
                refine lv_iconst (v := nI 1) hx hcd dX4_commandHere_112 (by decide) ?_
                refine lv_goto (tgt := 117) hx hcd dX4_commandHere_113 (by decide) ?_
                exact k_retz hQ G hret hlocks h (Or.inr rfl) (by rw [show cmM L t a T = (true, (fgM L 1 (((4 * t) + 1) + 1) ((fgM L 2 ((4 * t) + 1) ((mtW L (kLs 16) (a + 1)).2) (upd T (4 * t) (nI 7))).2.1) ((fgM L 2 ((4 * t) + 1) ((mtW L (kLs 16) (a + 1)).2) (upd T (4 * t) (nI 7))).2.2)).2.1, (fgM L 1 (((4 * t) + 1) + 1) ((fgM L 2 ((4 * t) + 1) ((mtW L (kLs 16) (a + 1)).2) (upd T (4 * t) (nI 7))).2.1) ((fgM L 2 ((4 * t) + 1) ((mtW L (kLs 16) (a + 1)).2) (upd T (4 * t) (nI 7))).2.2)).2.2) from by unfold cmM; rw [if_neg hs_3, if_neg hs_9, if_neg hs_15, if_pos ⟨hs_27, hs_28⟩, if_pos cc_31, if_pos cc_34, if_pos cc_38]]; exact ⟨rfl, rfl⟩) (Nat.le_of_ble_eq_true rfl) (Nat.le_of_ble_eq_true rfl) dX4_commandHere_117
              · skip
                obtain rfl : r = nI 0 := hr9.trans (bz_f cc_38)
                refine lv_if_eq (tgt := 116) hx hcd dX4_commandHere_109 (by decide) (fun _ => ?_) (fun c_40 => absurd c_40 (by decide))
                refine lv_iconst (v := nI 0) hx hcd dX4_commandHere_116 (by decide) ?_
                exact k_retz hQ G hret hlocks h (Or.inl rfl) (by rw [show cmM L t a T = (false, (fgM L 1 (((4 * t) + 1) + 1) ((fgM L 2 ((4 * t) + 1) ((mtW L (kLs 16) (a + 1)).2) (upd T (4 * t) (nI 7))).2.1) ((fgM L 2 ((4 * t) + 1) ((mtW L (kLs 16) (a + 1)).2) (upd T (4 * t) (nI 7))).2.2)).2.1, (fgM L 1 (((4 * t) + 1) + 1) ((fgM L 2 ((4 * t) + 1) ((mtW L (kLs 16) (a + 1)).2) (upd T (4 * t) (nI 7))).2.1) ((fgM L 2 ((4 * t) + 1) ((mtW L (kLs 16) (a + 1)).2) (upd T (4 * t) (nI 7))).2.2)).2.2) from by unfold cmM; rw [if_neg hs_3, if_neg hs_9, if_neg hs_15, if_pos ⟨hs_27, hs_28⟩, if_pos cc_31, if_pos cc_34, if_neg (by rw [cc_38]; decide)]]; exact ⟨rfl, rfl⟩) (Nat.le_of_ble_eq_true rfl) (Nat.le_of_ble_eq_true rfl) dX4_commandHere_117
            · skip
              obtain rfl : r = nI 0 := hr9.trans (bz_f cc_34)
              refine lv_if_eq (tgt := 116) hx hcd dX4_commandHere_98 (by decide) (fun _ => ?_) (fun c_41 => absurd c_41 (by decide))
              refine lv_iconst (v := nI 0) hx hcd dX4_commandHere_116 (by decide) ?_
              exact k_retz hQ G hret hlocks h (Or.inl rfl) (by rw [show cmM L t a T = (false, (fgM L 2 ((4 * t) + 1) ((mtW L (kLs 16) (a + 1)).2) (upd T (4 * t) (nI 7))).2.1, (fgM L 2 ((4 * t) + 1) ((mtW L (kLs 16) (a + 1)).2) (upd T (4 * t) (nI 7))).2.2) from by unfold cmM; rw [if_neg hs_3, if_neg hs_9, if_neg hs_15, if_pos ⟨hs_27, hs_28⟩, if_pos cc_31, if_neg (by rw [cc_34]; decide)]]; exact ⟨rfl, rfl⟩) (Nat.le_of_ble_eq_true rfl) (Nat.le_of_ble_eq_true rfl) dX4_commandHere_117
          · skip
            obtain rfl : r = nI 0 := hr9.trans (bz_f cc_31)
            refine lv_if_eq (tgt := 116) hx hcd dX4_commandHere_89 (by decide) (fun _ => ?_) (fun c_42 => absurd c_42 (by decide))
            refine lv_iconst (v := nI 0) hx hcd dX4_commandHere_116 (by decide) ?_
            exact k_retz hQ G hret hlocks h (Or.inl rfl) (by rw [show cmM L t a T = (false, (mtW L (kLs 16) (a + 1)).2, upd T (4 * t) (nI 7)) from by unfold cmM; rw [if_neg hs_3, if_neg hs_9, if_neg hs_15, if_pos ⟨hs_27, hs_28⟩, if_neg (by rw [cc_31]; decide)]]; exact ⟨rfl, rfl⟩) (Nat.le_of_ble_eq_true rfl) (Nat.le_of_ble_eq_true rfl) dX4_commandHere_117
        · skip
          rw [hu9] at h
          refine lv_if_eq (tgt := 118) hx hcd dX4_commandHere_78 (by decide) (fun _ => ?_) (fun c_43 => absurd c_43 (by decide))
          refine lv_aload_n hx hcd dX4_commandHere_118 rfl (lv_at hl 1 rfl) ?_
          refine lv_bipush (v := nI 102) hx hcd dX4_commandHere_119 (by decide) ?_
          refine k_Vi (As := [.int (nI 102)]) (rest := []) (b := eX V 500) G hC hB h (met_X4_skips l V (pW M a t T) L hn4 hL60 hL a rfl (by omega) 102 (by omega)) mw_1850 kv_X4_skips ⟨rfl, rfl⟩ ⟨Nat.le_of_ble_eq_true rfl, Nat.le_of_ble_eq_true rfl⟩ (r_mV hC h) rfl rfl hl.1 (Nat.le_of_ble_eq_true rfl) dX4_commandHere_121 ⟨Nat.le_of_ble_eq_true rfl, Nat.le_of_ble_eq_true rfl⟩ (fun r u H locs hp h => ?_)
          rcases hp with ⟨⟨hs_44, hs_45⟩, rfl, hu9⟩ | ⟨hs_44, rfl, hu9⟩
          · skip
            rw [hu9, pW_a] at h
            refine lv_if_eq (tgt := 153) hx hcd dX4_commandHere_124 (by decide) (fun c_46 => absurd c_46 (by decide)) (fun _ => ?_)
            refine lv_aload_n hx hcd dX4_commandHere_127 rfl (lv_at hl 1 rfl) ?_
            refine lv_bipush (v := nI 8) hx hcd dX4_commandHere_128 (by decide) ?_
            refine r_ldcS G hC 17 rfl dX4_commandHere_130 ?_
            refine k_Vi (As := [.int (nI 8), .ref (eX V (200 + 17))]) (rest := []) (b := eX V 500) G hC hB h (met_X4_isWord l V M L hn4 hL60 hL t (by omega) T (a + 1) (by omega) 17 8 (by decide)) mw_1863 kv_X4_isWord ⟨rfl, rfl⟩ ⟨Nat.le_of_ble_eq_true rfl, Nat.le_of_ble_eq_true rfl⟩ (r_mV hC h) rfl rfl hl.1 (Nat.le_of_ble_eq_true rfl) dX4_commandHere_132 ⟨Nat.le_of_ble_eq_true rfl, Nat.le_of_ble_eq_true rfl⟩ (fun r u H locs hp h => ?_)
            obtain ⟨hr9, hu9⟩ := hp
            rw [hu9] at h
            have g_47 := mtW_le L (kLs 17) (a + 1) (by omega)
            rcases bsp ((mtW L (kLs 17) (a + 1)).1) with cc_48 | cc_48
            · skip
              obtain rfl : r = nI 1 := hr9.trans (bz_t cc_48)
              refine lv_if_eq (tgt := 151) hx hcd dX4_commandHere_135 (by decide) (fun c_49 => absurd c_49 (by decide)) (fun _ => ?_)
              refine lv_aload_n hx hcd dX4_commandHere_138 rfl (lv_at hl 1 rfl) ?_
              refine lv_iload_n hx hcd dX4_commandHere_139 rfl (lv_at hl 0 rfl) ?_
              refine lv_iconst (v := nI 1) hx hcd dX4_commandHere_140 (by decide) ?_
              refine k_Vi (As := [.int (nI ((4 * t) + 1)), .int (nI 1)]) (rest := []) (b := eX V 500) G hC hB h (met_X4_figures l V M L hn4 hL60 hL t (by omega) (upd T (4 * t) (nI 8)) ((mtW L (kLs 17) (a + 1)).2) (by omega) ((4 * t) + 1) 1 (by omega) (by omega)) mw_1869 kv_X4_figures ⟨rfl, rfl⟩ ⟨Nat.le_of_ble_eq_true rfl, Nat.le_of_ble_eq_true rfl⟩ (r_mV hC h) rfl rfl hl.1 (Nat.le_of_ble_eq_true rfl) dX4_commandHere_141 ⟨Nat.le_of_ble_eq_true rfl, Nat.le_of_ble_eq_true rfl⟩ (fun r u H locs hp h => ?_)
              obtain ⟨hr9, hu9⟩ := hp
              rw [hu9] at h
              have g_50 := fgM_le L 1 ((4 * t) + 1) ((mtW L (kLs 17) (a + 1)).2) (upd T (4 * t) (nI 8)) (by omega)
              rcases bsp ((fgM L 1 ((4 * t) + 1) ((mtW L (kLs 17) (a + 1)).2) (upd T (4 * t) (nI 8))).1) with cc_51 | cc_51
              · skip
                obtain rfl : r = nI 1 := hr9.trans (bz_t cc_51)
                refine lv_if_eq (tgt := 151) hx hcd dX4_commandHere_144 (by decide) (fun c_52 => absurd c_52 (by decide)) (fun _ => ?_)
                refine lv_iconst (v := nI 1) hx hcd dX4_commandHere_147 (by decide) ?_
                refine lv_goto (tgt := 152) hx hcd dX4_commandHere_148 (by decide) ?_
                exact k_retz hQ G hret hlocks h (Or.inr rfl) (by rw [show cmM L t a T = (true, (fgM L 1 ((4 * t) + 1) ((mtW L (kLs 17) (a + 1)).2) (upd T (4 * t) (nI 8))).2.1, (fgM L 1 ((4 * t) + 1) ((mtW L (kLs 17) (a + 1)).2) (upd T (4 * t) (nI 8))).2.2) from by unfold cmM; rw [if_neg hs_3, if_neg hs_9, if_neg hs_15, if_neg hs_27, if_pos ⟨hs_44, hs_45⟩, if_pos cc_48, if_pos cc_51]]; exact ⟨rfl, rfl⟩) (Nat.le_of_ble_eq_true rfl) (Nat.le_of_ble_eq_true rfl) dX4_commandHere_152
              · skip
                obtain rfl : r = nI 0 := hr9.trans (bz_f cc_51)
                refine lv_if_eq (tgt := 151) hx hcd dX4_commandHere_144 (by decide) (fun _ => ?_) (fun c_53 => absurd c_53 (by decide))
                refine lv_iconst (v := nI 0) hx hcd dX4_commandHere_151 (by decide) ?_
                exact k_retz hQ G hret hlocks h (Or.inl rfl) (by rw [show cmM L t a T = (false, (fgM L 1 ((4 * t) + 1) ((mtW L (kLs 17) (a + 1)).2) (upd T (4 * t) (nI 8))).2.1, (fgM L 1 ((4 * t) + 1) ((mtW L (kLs 17) (a + 1)).2) (upd T (4 * t) (nI 8))).2.2) from by unfold cmM; rw [if_neg hs_3, if_neg hs_9, if_neg hs_15, if_neg hs_27, if_pos ⟨hs_44, hs_45⟩, if_pos cc_48, if_neg (by rw [cc_51]; decide)]]; exact ⟨rfl, rfl⟩) (Nat.le_of_ble_eq_true rfl) (Nat.le_of_ble_eq_true rfl) dX4_commandHere_152
            · skip
              obtain rfl : r = nI 0 := hr9.trans (bz_f cc_48)
              refine lv_if_eq (tgt := 151) hx hcd dX4_commandHere_135 (by decide) (fun _ => ?_) (fun c_54 => absurd c_54 (by decide))
              refine lv_iconst (v := nI 0) hx hcd dX4_commandHere_151 (by decide) ?_
              exact k_retz hQ G hret hlocks h (Or.inl rfl) (by rw [show cmM L t a T = (false, (mtW L (kLs 17) (a + 1)).2, upd T (4 * t) (nI 8)) from by unfold cmM; rw [if_neg hs_3, if_neg hs_9, if_neg hs_15, if_neg hs_27, if_pos ⟨hs_44, hs_45⟩, if_neg (by rw [cc_48]; decide)]]; exact ⟨rfl, rfl⟩) (Nat.le_of_ble_eq_true rfl) (Nat.le_of_ble_eq_true rfl) dX4_commandHere_152
          · skip
            rw [hu9] at h
            refine lv_if_eq (tgt := 153) hx hcd dX4_commandHere_124 (by decide) (fun _ => ?_) (fun c_55 => absurd c_55 (by decide))
            refine lv_aload_n hx hcd dX4_commandHere_153 rfl (lv_at hl 1 rfl) ?_
            refine lv_bipush (v := nI 101) hx hcd dX4_commandHere_154 (by decide) ?_
            refine k_Vi (As := [.int (nI 101)]) (rest := []) (b := eX V 500) G hC hB h (met_X4_skips l V (pW M a t T) L hn4 hL60 hL a rfl (by omega) 101 (by omega)) mw_1850 kv_X4_skips ⟨rfl, rfl⟩ ⟨Nat.le_of_ble_eq_true rfl, Nat.le_of_ble_eq_true rfl⟩ (r_mV hC h) rfl rfl hl.1 (Nat.le_of_ble_eq_true rfl) dX4_commandHere_156 ⟨Nat.le_of_ble_eq_true rfl, Nat.le_of_ble_eq_true rfl⟩ (fun r u H locs hp h => ?_)
            rcases hp with ⟨⟨hs_56, hs_57⟩, rfl, hu9⟩ | ⟨hs_56, rfl, hu9⟩
            · skip
              rw [hu9, pW_a] at h
              refine lv_if_eq (tgt := 171) hx hcd dX4_commandHere_159 (by decide) (fun c_58 => absurd c_58 (by decide)) (fun _ => ?_)
              refine lv_aload_n hx hcd dX4_commandHere_162 rfl (lv_at hl 1 rfl) ?_
              refine lv_bipush (v := nI 11) hx hcd dX4_commandHere_163 (by decide) ?_
              refine r_ldcS G hC 18 rfl dX4_commandHere_165 ?_
              refine k_Vi (As := [.int (nI 11), .ref (eX V (200 + 18))]) (rest := []) (b := eX V 500) G hC hB h (met_X4_isWord l V M L hn4 hL60 hL t (by omega) T (a + 1) (by omega) 18 11 (by decide)) mw_1863 kv_X4_isWord ⟨rfl, rfl⟩ ⟨Nat.le_of_ble_eq_true rfl, Nat.le_of_ble_eq_true rfl⟩ (r_mV hC h) rfl rfl hl.1 (Nat.le_of_ble_eq_true rfl) dX4_commandHere_167 ⟨Nat.le_of_ble_eq_true rfl, Nat.le_of_ble_eq_true rfl⟩ (fun r u H locs hp h => ?_)
              obtain ⟨hr9, hu9⟩ := hp
              rw [hu9] at h
              have g_59 := mtW_le L (kLs 18) (a + 1) (by omega)
              rcases bsp ((mtW L (kLs 18) (a + 1)).1) with cc_60 | cc_60
              · skip
                obtain rfl : r = nI 1 := hr9.trans (bz_t cc_60)
                exact k_retz hQ G hret hlocks h (Or.inr rfl) (by rw [show cmM L t a T = (true, (mtW L (kLs 18) (a + 1)).2, upd T (4 * t) (nI 11)) from by unfold cmM; rw [if_neg hs_3, if_neg hs_9, if_neg hs_15, if_neg hs_27, if_neg hs_44, if_pos ⟨hs_56, hs_57⟩, if_pos cc_60]]; exact ⟨rfl, rfl⟩) (Nat.le_of_ble_eq_true rfl) (Nat.le_of_ble_eq_true rfl) dX4_commandHere_170
              · skip
                obtain rfl : r = nI 0 := hr9.trans (bz_f cc_60)
                exact k_retz hQ G hret hlocks h (Or.inl rfl) (by rw [show cmM L t a T = (false, (mtW L (kLs 18) (a + 1)).2, upd T (4 * t) (nI 11)) from by unfold cmM; rw [if_neg hs_3, if_neg hs_9, if_neg hs_15, if_neg hs_27, if_neg hs_44, if_pos ⟨hs_56, hs_57⟩, if_neg (by rw [cc_60]; decide)]]; exact ⟨rfl, rfl⟩) (Nat.le_of_ble_eq_true rfl) (Nat.le_of_ble_eq_true rfl) dX4_commandHere_170
            · skip
              rw [hu9] at h
              refine lv_if_eq (tgt := 171) hx hcd dX4_commandHere_159 (by decide) (fun _ => ?_) (fun c_61 => absurd c_61 (by decide))
              refine lv_aload_n hx hcd dX4_commandHere_171 rfl (lv_at hl 1 rfl) ?_
              refine lv_bipush (v := nI 100) hx hcd dX4_commandHere_172 (by decide) ?_
              refine k_Vi (As := [.int (nI 100)]) (rest := []) (b := eX V 500) G hC hB h (met_X4_skips l V (pW M a t T) L hn4 hL60 hL a rfl (by omega) 100 (by omega)) mw_1850 kv_X4_skips ⟨rfl, rfl⟩ ⟨Nat.le_of_ble_eq_true rfl, Nat.le_of_ble_eq_true rfl⟩ (r_mV hC h) rfl rfl hl.1 (Nat.le_of_ble_eq_true rfl) dX4_commandHere_174 ⟨Nat.le_of_ble_eq_true rfl, Nat.le_of_ble_eq_true rfl⟩ (fun r u H locs hp h => ?_)
              rcases hp with ⟨⟨hs_62, hs_63⟩, rfl, hu9⟩ | ⟨hs_62, rfl, hu9⟩
              · skip
                rw [hu9, pW_a] at h
                refine lv_if_eq (tgt := 242) hx hcd dX4_commandHere_177 (by decide) (fun c_64 => absurd c_64 (by decide)) (fun _ => ?_)
                refine lv_aload_n hx hcd dX4_commandHere_180 rfl (lv_at hl 1 rfl) ?_
                refine lv_bipush (v := nI 101) hx hcd dX4_commandHere_181 (by decide) ?_
                refine k_Vi (As := [.int (nI 101)]) (rest := []) (b := eX V 500) G hC hB h (met_X4_skips l V (pW M (a + 1) t T) L hn4 hL60 hL (a + 1) rfl (by omega) 101 (by omega)) mw_1850 kv_X4_skips ⟨rfl, rfl⟩ ⟨Nat.le_of_ble_eq_true rfl, Nat.le_of_ble_eq_true rfl⟩ (r_mV hC h) rfl rfl hl.1 (Nat.le_of_ble_eq_true rfl) dX4_commandHere_183 ⟨Nat.le_of_ble_eq_true rfl, Nat.le_of_ble_eq_true rfl⟩ (fun r u H locs hp h => ?_)
                rcases hp with ⟨⟨hs_65, hs_66⟩, rfl, hu9⟩ | ⟨hs_65, rfl, hu9⟩
                · skip
                  rw [hu9, pW_a] at h
                  refine lv_if_eq (tgt := 216) hx hcd dX4_commandHere_186 (by decide) (fun c_67 => absurd c_67 (by decide)) (fun _ => ?_)
                  refine lv_aload_n hx hcd dX4_commandHere_189 rfl (lv_at hl 1 rfl) ?_
                  refine lv_iconst (v := nI 1) hx hcd dX4_commandHere_190 (by decide) ?_
                  refine r_ldcS G hC 19 rfl dX4_commandHere_191 ?_
                  refine k_Vi (As := [.int (nI 1), .ref (eX V (200 + 19))]) (rest := []) (b := eX V 500) G hC hB h (met_X4_isWord l V M L hn4 hL60 hL t (by omega) T ((a + 1) + 1) (by omega) 19 1 (by decide)) mw_1863 kv_X4_isWord ⟨rfl, rfl⟩ ⟨Nat.le_of_ble_eq_true rfl, Nat.le_of_ble_eq_true rfl⟩ (r_mV hC h) rfl rfl hl.1 (Nat.le_of_ble_eq_true rfl) dX4_commandHere_193 ⟨Nat.le_of_ble_eq_true rfl, Nat.le_of_ble_eq_true rfl⟩ (fun r u H locs hp h => ?_)
                  obtain ⟨hr9, hu9⟩ := hp
                  rw [hu9] at h
                  have g_68 := mtW_le L (kLs 19) ((a + 1) + 1) (by omega)
                  rcases bsp ((mtW L (kLs 19) ((a + 1) + 1)).1) with cc_69 | cc_69
                  · skip
                    obtain rfl : r = nI 1 := hr9.trans (bz_t cc_69)
                    refine lv_if_eq (tgt := 212) hx hcd dX4_commandHere_196 (by decide) (fun c_70 => absurd c_70 (by decide)) (fun _ => ?_)
                    refine lv_aload_n hx hcd dX4_commandHere_199 rfl (lv_at hl 1 rfl) ?_
                    refine lv_iload_n hx hcd dX4_commandHere_200 rfl (lv_at hl 0 rfl) ?_
                    refine lv_iconst (v := nI 1) hx hcd dX4_commandHere_201 (by decide) ?_
                    refine k_Vi (As := [.int (nI ((4 * t) + 1)), .int (nI 1)]) (rest := []) (b := eX V 500) G hC hB h (met_X4_figures l V M L hn4 hL60 hL t (by omega) (upd T (4 * t) (nI 1)) ((mtW L (kLs 19) ((a + 1) + 1)).2) (by omega) ((4 * t) + 1) 1 (by omega) (by omega)) mw_1869 kv_X4_figures ⟨rfl, rfl⟩ ⟨Nat.le_of_ble_eq_true rfl, Nat.le_of_ble_eq_true rfl⟩ (r_mV hC h) rfl rfl hl.1 (Nat.le_of_ble_eq_true rfl) dX4_commandHere_202 ⟨Nat.le_of_ble_eq_true rfl, Nat.le_of_ble_eq_true rfl⟩ (fun r u H locs hp h => ?_)
                    obtain ⟨hr9, hu9⟩ := hp
                    rw [hu9] at h
                    have g_71 := fgM_le L 1 ((4 * t) + 1) ((mtW L (kLs 19) ((a + 1) + 1)).2) (upd T (4 * t) (nI 1)) (by omega)
                    rcases bsp ((fgM L 1 ((4 * t) + 1) ((mtW L (kLs 19) ((a + 1) + 1)).2) (upd T (4 * t) (nI 1))).1) with cc_72 | cc_72
                    · skip
                      obtain rfl : r = nI 1 := hr9.trans (bz_t cc_72)
                      refine lv_if_eq (tgt := 212) hx hcd dX4_commandHere_205 (by decide) (fun c_73 => absurd c_73 (by decide)) (fun _ => ?_)
                      refine lv_iconst (v := nI 1) hx hcd dX4_commandHere_208 (by decide) ?_
                      refine lv_goto (tgt := 241) hx hcd dX4_commandHere_209 (by decide) ?_
                      exact k_retz hQ G hret hlocks h (Or.inr rfl) (by rw [show cmM L t a T = (true, (fgM L 1 ((4 * t) + 1) ((mtW L (kLs 19) ((a + 1) + 1)).2) (upd T (4 * t) (nI 1))).2.1, (fgM L 1 ((4 * t) + 1) ((mtW L (kLs 19) ((a + 1) + 1)).2) (upd T (4 * t) (nI 1))).2.2) from by unfold cmM; rw [if_neg hs_3, if_neg hs_9, if_neg hs_15, if_neg hs_27, if_neg hs_44, if_neg hs_56, if_pos ⟨hs_62, hs_63⟩, if_pos ⟨hs_65, hs_66⟩, if_pos cc_69, if_pos cc_72]]; exact ⟨rfl, rfl⟩) (Nat.le_of_ble_eq_true rfl) (Nat.le_of_ble_eq_true rfl) dX4_commandHere_241
                    · skip
                      obtain rfl : r = nI 0 := hr9.trans (bz_f cc_72)
                      refine lv_if_eq (tgt := 212) hx hcd dX4_commandHere_205 (by decide) (fun _ => ?_) (fun c_74 => absurd c_74 (by decide))
                      refine lv_iconst (v := nI 0) hx hcd dX4_commandHere_212 (by decide) ?_
                      refine lv_goto (tgt := 241) hx hcd dX4_commandHere_213 (by decide) ?_
                      exact k_retz hQ G hret hlocks h (Or.inl rfl) (by rw [show cmM L t a T = (false, (fgM L 1 ((4 * t) + 1) ((mtW L (kLs 19) ((a + 1) + 1)).2) (upd T (4 * t) (nI 1))).2.1, (fgM L 1 ((4 * t) + 1) ((mtW L (kLs 19) ((a + 1) + 1)).2) (upd T (4 * t) (nI 1))).2.2) from by unfold cmM; rw [if_neg hs_3, if_neg hs_9, if_neg hs_15, if_neg hs_27, if_neg hs_44, if_neg hs_56, if_pos ⟨hs_62, hs_63⟩, if_pos ⟨hs_65, hs_66⟩, if_pos cc_69, if_neg (by rw [cc_72]; decide)]]; exact ⟨rfl, rfl⟩) (Nat.le_of_ble_eq_true rfl) (Nat.le_of_ble_eq_true rfl) dX4_commandHere_241
                  · skip
                    obtain rfl : r = nI 0 := hr9.trans (bz_f cc_69)
                    refine lv_if_eq (tgt := 212) hx hcd dX4_commandHere_196 (by decide) (fun _ => ?_) (fun c_75 => absurd c_75 (by decide))
                    refine lv_iconst (v := nI 0) hx hcd dX4_commandHere_212 (by decide) ?_
                    refine lv_goto (tgt := 241) hx hcd dX4_commandHere_213 (by decide) ?_
                    exact k_retz hQ G hret hlocks h (Or.inl rfl) (by rw [show cmM L t a T = (false, (mtW L (kLs 19) ((a + 1) + 1)).2, upd T (4 * t) (nI 1)) from by unfold cmM; rw [if_neg hs_3, if_neg hs_9, if_neg hs_15, if_neg hs_27, if_neg hs_44, if_neg hs_56, if_pos ⟨hs_62, hs_63⟩, if_pos ⟨hs_65, hs_66⟩, if_neg (by rw [cc_69]; decide)]]; exact ⟨rfl, rfl⟩) (Nat.le_of_ble_eq_true rfl) (Nat.le_of_ble_eq_true rfl) dX4_commandHere_241
                · skip
                  rw [hu9] at h
                  refine lv_if_eq (tgt := 216) hx hcd dX4_commandHere_186 (by decide) (fun _ => ?_) (fun c_76 => absurd c_76 (by decide))
                  refine lv_aload_n hx hcd dX4_commandHere_216 rfl (lv_at hl 1 rfl) ?_
                  refine lv_bipush (v := nI 97) hx hcd dX4_commandHere_217 (by decide) ?_
                  refine k_Vi (As := [.int (nI 97)]) (rest := []) (b := eX V 500) G hC hB h (met_X4_skips l V (pW M (a + 1) t T) L hn4 hL60 hL (a + 1) rfl (by omega) 97 (by omega)) mw_1850 kv_X4_skips ⟨rfl, rfl⟩ ⟨Nat.le_of_ble_eq_true rfl, Nat.le_of_ble_eq_true rfl⟩ (r_mV hC h) rfl rfl hl.1 (Nat.le_of_ble_eq_true rfl) dX4_commandHere_219 ⟨Nat.le_of_ble_eq_true rfl, Nat.le_of_ble_eq_true rfl⟩ (fun r u H locs hp h => ?_)
                  rcases hp with ⟨⟨hs_77, hs_78⟩, rfl, hu9⟩ | ⟨hs_77, rfl, hu9⟩
                  · skip
                    rw [hu9, pW_a] at h
                    refine lv_if_eq (tgt := 240) hx hcd dX4_commandHere_222 (by decide) (fun c_79 => absurd c_79 (by decide)) (fun _ => ?_)
                    refine lv_aload_n hx hcd dX4_commandHere_225 rfl (lv_at hl 1 rfl) ?_
                    refine lv_bipush (v := nI 10) hx hcd dX4_commandHere_226 (by decide) ?_
                    refine r_ldcS G hC 20 rfl dX4_commandHere_228 ?_
                    refine k_Vi (As := [.int (nI 10), .ref (eX V (200 + 20))]) (rest := []) (b := eX V 500) G hC hB h (met_X4_isWord l V M L hn4 hL60 hL t (by omega) T ((a + 1) + 1) (by omega) 20 10 (by decide)) mw_1863 kv_X4_isWord ⟨rfl, rfl⟩ ⟨Nat.le_of_ble_eq_true rfl, Nat.le_of_ble_eq_true rfl⟩ (r_mV hC h) rfl rfl hl.1 (Nat.le_of_ble_eq_true rfl) dX4_commandHere_230 ⟨Nat.le_of_ble_eq_true rfl, Nat.le_of_ble_eq_true rfl⟩ (fun r u H locs hp h => ?_)
                    obtain ⟨hr9, hu9⟩ := hp
                    rw [hu9] at h
                    have g_80 := mtW_le L (kLs 20) ((a + 1) + 1) (by omega)
                    rcases bsp ((mtW L (kLs 20) ((a + 1) + 1)).1) with cc_81 | cc_81
                    · skip
                      obtain rfl : r = nI 1 := hr9.trans (bz_t cc_81)
                      refine lv_if_eq (tgt := 240) hx hcd dX4_commandHere_233 (by decide) (fun c_82 => absurd c_82 (by decide)) (fun _ => ?_)
                      refine lv_iconst (v := nI 1) hx hcd dX4_commandHere_236 (by decide) ?_
                      refine lv_goto (tgt := 241) hx hcd dX4_commandHere_237 (by decide) ?_
                      exact k_retz hQ G hret hlocks h (Or.inr rfl) (by rw [show cmM L t a T = (true, (mtW L (kLs 20) ((a + 1) + 1)).2, upd T (4 * t) (nI 10)) from by unfold cmM; rw [if_neg hs_3, if_neg hs_9, if_neg hs_15, if_neg hs_27, if_neg hs_44, if_neg hs_56, if_pos ⟨hs_62, hs_63⟩, if_neg hs_65, if_pos ⟨hs_77, hs_78⟩, if_pos cc_81]]; exact ⟨rfl, rfl⟩) (Nat.le_of_ble_eq_true rfl) (Nat.le_of_ble_eq_true rfl) dX4_commandHere_241
                    · skip
                      obtain rfl : r = nI 0 := hr9.trans (bz_f cc_81)
                      refine lv_if_eq (tgt := 240) hx hcd dX4_commandHere_233 (by decide) (fun _ => ?_) (fun c_83 => absurd c_83 (by decide))
                      refine lv_iconst (v := nI 0) hx hcd dX4_commandHere_240 (by decide) ?_
                      exact k_retz hQ G hret hlocks h (Or.inl rfl) (by rw [show cmM L t a T = (false, (mtW L (kLs 20) ((a + 1) + 1)).2, upd T (4 * t) (nI 10)) from by unfold cmM; rw [if_neg hs_3, if_neg hs_9, if_neg hs_15, if_neg hs_27, if_neg hs_44, if_neg hs_56, if_pos ⟨hs_62, hs_63⟩, if_neg hs_65, if_pos ⟨hs_77, hs_78⟩, if_neg (by rw [cc_81]; decide)]]; exact ⟨rfl, rfl⟩) (Nat.le_of_ble_eq_true rfl) (Nat.le_of_ble_eq_true rfl) dX4_commandHere_241
                  · skip
                    rw [hu9] at h
                    refine lv_if_eq (tgt := 240) hx hcd dX4_commandHere_222 (by decide) (fun _ => ?_) (fun c_84 => absurd c_84 (by decide))
                    refine lv_iconst (v := nI 0) hx hcd dX4_commandHere_240 (by decide) ?_
                    exact k_retz hQ G hret hlocks h (Or.inl rfl) (by rw [show cmM L t a T = (false, a + 1, T) from by unfold cmM; rw [if_neg hs_3, if_neg hs_9, if_neg hs_15, if_neg hs_27, if_neg hs_44, if_neg hs_56, if_pos ⟨hs_62, hs_63⟩, if_neg hs_65, if_neg hs_77]]; exact ⟨rfl, rfl⟩) (Nat.le_of_ble_eq_true rfl) (Nat.le_of_ble_eq_true rfl) dX4_commandHere_241
              · skip
                rw [hu9] at h
                refine lv_if_eq (tgt := 242) hx hcd dX4_commandHere_177 (by decide) (fun _ => ?_) (fun c_85 => absurd c_85 (by decide))
                refine lv_aload_n hx hcd dX4_commandHere_242 rfl (lv_at hl 1 rfl) ?_
                refine lv_bipush (v := nI 112) hx hcd dX4_commandHere_243 (by decide) ?_
                refine k_Vi (As := [.int (nI 112)]) (rest := []) (b := eX V 500) G hC hB h (met_X4_skips l V (pW M a t T) L hn4 hL60 hL a rfl (by omega) 112 (by omega)) mw_1850 kv_X4_skips ⟨rfl, rfl⟩ ⟨Nat.le_of_ble_eq_true rfl, Nat.le_of_ble_eq_true rfl⟩ (r_mV hC h) rfl rfl hl.1 (Nat.le_of_ble_eq_true rfl) dX4_commandHere_245 ⟨Nat.le_of_ble_eq_true rfl, Nat.le_of_ble_eq_true rfl⟩ (fun r u H locs hp h => ?_)
                rcases hp with ⟨⟨hs_86, hs_87⟩, rfl, hu9⟩ | ⟨hs_86, rfl, hu9⟩
                · skip
                  rw [hu9, pW_a] at h
                  refine lv_if_ne (tgt := 253) hx hcd dX4_commandHere_248 (by decide) (fun _ => ?_) (fun c_88 => absurd c_88 (by decide))
                  refine lv_aload_n hx hcd dX4_commandHere_253 rfl (lv_at hl 1 rfl) ?_
                  refine lv_bipush (v := nI 108) hx hcd dX4_commandHere_254 (by decide) ?_
                  refine k_Vi (As := [.int (nI 108)]) (rest := []) (b := eX V 500) G hC hB h (met_X4_skips l V (pW M (a + 1) t T) L hn4 hL60 hL (a + 1) rfl (by omega) 108 (by omega)) mw_1850 kv_X4_skips ⟨rfl, rfl⟩ ⟨Nat.le_of_ble_eq_true rfl, Nat.le_of_ble_eq_true rfl⟩ (r_mV hC h) rfl rfl hl.1 (Nat.le_of_ble_eq_true rfl) dX4_commandHere_256 ⟨Nat.le_of_ble_eq_true rfl, Nat.le_of_ble_eq_true rfl⟩ (fun r u H locs hp h => ?_)
                  rcases hp with ⟨⟨hs_89, hs_90⟩, rfl, hu9⟩ | ⟨hs_89, rfl, hu9⟩
                  · skip
                    rw [hu9, pW_a] at h
                    refine lv_if_eq (tgt := 287) hx hcd dX4_commandHere_259 (by decide) (fun c_91 => absurd c_91 (by decide)) (fun _ => ?_)
                    refine lv_aload_n hx hcd dX4_commandHere_262 rfl (lv_at hl 1 rfl) ?_
                    refine lv_iconst (v := nI 4) hx hcd dX4_commandHere_263 (by decide) ?_
                    refine r_ldcS G hC 21 rfl dX4_commandHere_264 ?_
                    refine k_Vi (As := [.int (nI 4), .ref (eX V (200 + 21))]) (rest := []) (b := eX V 500) G hC hB h (met_X4_isWord l V M L hn4 hL60 hL t (by omega) T ((a + 1) + 1) (by omega) 21 4 (by decide)) mw_1863 kv_X4_isWord ⟨rfl, rfl⟩ ⟨Nat.le_of_ble_eq_true rfl, Nat.le_of_ble_eq_true rfl⟩ (r_mV hC h) rfl rfl hl.1 (Nat.le_of_ble_eq_true rfl) dX4_commandHere_266 ⟨Nat.le_of_ble_eq_true rfl, Nat.le_of_ble_eq_true rfl⟩ (fun r u H locs hp h => ?_)
                    obtain ⟨hr9, hu9⟩ := hp
                    rw [hu9] at h
                    have g_92 := mtW_le L (kLs 21) ((a + 1) + 1) (by omega)
                    rcases bsp ((mtW L (kLs 21) ((a + 1) + 1)).1) with cc_93 | cc_93
                    · skip
                      obtain rfl : r = nI 1 := hr9.trans (bz_t cc_93)
                      refine lv_if_eq (tgt := 285) hx hcd dX4_commandHere_269 (by decide) (fun c_94 => absurd c_94 (by decide)) (fun _ => ?_)
                      refine lv_aload_n hx hcd dX4_commandHere_272 rfl (lv_at hl 1 rfl) ?_
                      refine lv_iload_n hx hcd dX4_commandHere_273 rfl (lv_at hl 0 rfl) ?_
                      refine lv_iconst (v := nI 2) hx hcd dX4_commandHere_274 (by decide) ?_
                      refine k_Vi (As := [.int (nI ((4 * t) + 1)), .int (nI 2)]) (rest := []) (b := eX V 500) G hC hB h (met_X4_figures l V M L hn4 hL60 hL t (by omega) (upd T (4 * t) (nI 4)) ((mtW L (kLs 21) ((a + 1) + 1)).2) (by omega) ((4 * t) + 1) 2 (by omega) (by omega)) mw_1869 kv_X4_figures ⟨rfl, rfl⟩ ⟨Nat.le_of_ble_eq_true rfl, Nat.le_of_ble_eq_true rfl⟩ (r_mV hC h) rfl rfl hl.1 (Nat.le_of_ble_eq_true rfl) dX4_commandHere_275 ⟨Nat.le_of_ble_eq_true rfl, Nat.le_of_ble_eq_true rfl⟩ (fun r u H locs hp h => ?_)
                      obtain ⟨hr9, hu9⟩ := hp
                      rw [hu9] at h
                      have g_95 := fgM_le L 2 ((4 * t) + 1) ((mtW L (kLs 21) ((a + 1) + 1)).2) (upd T (4 * t) (nI 4)) (by omega)
                      rcases bsp ((fgM L 2 ((4 * t) + 1) ((mtW L (kLs 21) ((a + 1) + 1)).2) (upd T (4 * t) (nI 4))).1) with cc_96 | cc_96
                      · skip
                        obtain rfl : r = nI 1 := hr9.trans (bz_t cc_96)
                        refine lv_if_eq (tgt := 285) hx hcd dX4_commandHere_278 (by decide) (fun c_97 => absurd c_97 (by decide)) (fun _ => ?_)
                        refine lv_iconst (v := nI 1) hx hcd dX4_commandHere_281 (by decide) ?_
                        refine lv_goto (tgt := 286) hx hcd dX4_commandHere_282 (by decide) ?_
                        exact k_retz hQ G hret hlocks h (Or.inr rfl) (by rw [show cmM L t a T = (true, (fgM L 2 ((4 * t) + 1) ((mtW L (kLs 21) ((a + 1) + 1)).2) (upd T (4 * t) (nI 4))).2.1, (fgM L 2 ((4 * t) + 1) ((mtW L (kLs 21) ((a + 1) + 1)).2) (upd T (4 * t) (nI 4))).2.2) from by unfold cmM; rw [if_neg hs_3, if_neg hs_9, if_neg hs_15, if_neg hs_27, if_neg hs_44, if_neg hs_56, if_neg hs_62, if_pos ⟨hs_86, hs_87⟩, if_pos ⟨hs_89, hs_90⟩, if_pos cc_93, if_pos cc_96]]; exact ⟨rfl, rfl⟩) (Nat.le_of_ble_eq_true rfl) (Nat.le_of_ble_eq_true rfl) dX4_commandHere_286
                      · skip
                        obtain rfl : r = nI 0 := hr9.trans (bz_f cc_96)
                        refine lv_if_eq (tgt := 285) hx hcd dX4_commandHere_278 (by decide) (fun _ => ?_) (fun c_98 => absurd c_98 (by decide))
                        refine lv_iconst (v := nI 0) hx hcd dX4_commandHere_285 (by decide) ?_
                        exact k_retz hQ G hret hlocks h (Or.inl rfl) (by rw [show cmM L t a T = (false, (fgM L 2 ((4 * t) + 1) ((mtW L (kLs 21) ((a + 1) + 1)).2) (upd T (4 * t) (nI 4))).2.1, (fgM L 2 ((4 * t) + 1) ((mtW L (kLs 21) ((a + 1) + 1)).2) (upd T (4 * t) (nI 4))).2.2) from by unfold cmM; rw [if_neg hs_3, if_neg hs_9, if_neg hs_15, if_neg hs_27, if_neg hs_44, if_neg hs_56, if_neg hs_62, if_pos ⟨hs_86, hs_87⟩, if_pos ⟨hs_89, hs_90⟩, if_pos cc_93, if_neg (by rw [cc_96]; decide)]]; exact ⟨rfl, rfl⟩) (Nat.le_of_ble_eq_true rfl) (Nat.le_of_ble_eq_true rfl) dX4_commandHere_286
                    · skip
                      obtain rfl : r = nI 0 := hr9.trans (bz_f cc_93)
                      refine lv_if_eq (tgt := 285) hx hcd dX4_commandHere_269 (by decide) (fun _ => ?_) (fun c_99 => absurd c_99 (by decide))
                      refine lv_iconst (v := nI 0) hx hcd dX4_commandHere_285 (by decide) ?_
                      exact k_retz hQ G hret hlocks h (Or.inl rfl) (by rw [show cmM L t a T = (false, (mtW L (kLs 21) ((a + 1) + 1)).2, upd T (4 * t) (nI 4)) from by unfold cmM; rw [if_neg hs_3, if_neg hs_9, if_neg hs_15, if_neg hs_27, if_neg hs_44, if_neg hs_56, if_neg hs_62, if_pos ⟨hs_86, hs_87⟩, if_pos ⟨hs_89, hs_90⟩, if_neg (by rw [cc_93]; decide)]]; exact ⟨rfl, rfl⟩) (Nat.le_of_ble_eq_true rfl) (Nat.le_of_ble_eq_true rfl) dX4_commandHere_286
                  · skip
                    rw [hu9] at h
                    refine lv_if_eq (tgt := 287) hx hcd dX4_commandHere_259 (by decide) (fun _ => ?_) (fun c_100 => absurd c_100 (by decide))
                    refine lv_aload_n hx hcd dX4_commandHere_287 rfl (lv_at hl 1 rfl) ?_
                    refine lv_bipush (v := nI 111) hx hcd dX4_commandHere_288 (by decide) ?_
                    refine k_Vi (As := [.int (nI 111)]) (rest := []) (b := eX V 500) G hC hB h (met_X4_skips l V (pW M (a + 1) t T) L hn4 hL60 hL (a + 1) rfl (by omega) 111 (by omega)) mw_1850 kv_X4_skips ⟨rfl, rfl⟩ ⟨Nat.le_of_ble_eq_true rfl, Nat.le_of_ble_eq_true rfl⟩ (r_mV hC h) rfl rfl hl.1 (Nat.le_of_ble_eq_true rfl) dX4_commandHere_290 ⟨Nat.le_of_ble_eq_true rfl, Nat.le_of_ble_eq_true rfl⟩ (fun r u H locs hp h => ?_)
                    rcases hp with ⟨⟨hs_101, hs_102⟩, rfl, hu9⟩ | ⟨hs_101, rfl, hu9⟩
                    · skip
                      rw [hu9, pW_a] at h
                      refine lv_if_eq (tgt := 319) hx hcd dX4_commandHere_293 (by decide) (fun c_103 => absurd c_103 (by decide)) (fun _ => ?_)
                      refine lv_aload_n hx hcd dX4_commandHere_296 rfl (lv_at hl 1 rfl) ?_
                      refine lv_bipush (v := nI 9) hx hcd dX4_commandHere_297 (by decide) ?_
                      refine r_ldcS G hC 22 rfl dX4_commandHere_299 ?_
                      refine k_Vi (As := [.int (nI 9), .ref (eX V (200 + 22))]) (rest := []) (b := eX V 500) G hC hB h (met_X4_isWord l V M L hn4 hL60 hL t (by omega) T ((a + 1) + 1) (by omega) 22 9 (by decide)) mw_1863 kv_X4_isWord ⟨rfl, rfl⟩ ⟨Nat.le_of_ble_eq_true rfl, Nat.le_of_ble_eq_true rfl⟩ (r_mV hC h) rfl rfl hl.1 (Nat.le_of_ble_eq_true rfl) dX4_commandHere_301 ⟨Nat.le_of_ble_eq_true rfl, Nat.le_of_ble_eq_true rfl⟩ (fun r u H locs hp h => ?_)
                      obtain ⟨hr9, hu9⟩ := hp
                      rw [hu9] at h
                      have g_104 := mtW_le L (kLs 22) ((a + 1) + 1) (by omega)
                      rcases bsp ((mtW L (kLs 22) ((a + 1) + 1)).1) with cc_105 | cc_105
                      · skip
                        obtain rfl : r = nI 1 := hr9.trans (bz_t cc_105)
                        refine lv_if_eq (tgt := 319) hx hcd dX4_commandHere_304 (by decide) (fun c_106 => absurd c_106 (by decide)) (fun _ => ?_)
                        refine lv_aload_n hx hcd dX4_commandHere_307 rfl (lv_at hl 1 rfl) ?_
                        refine lv_iload_n hx hcd dX4_commandHere_308 rfl (lv_at hl 0 rfl) ?_
                        refine k_Vi (As := [.int (nI ((4 * t) + 1))]) (rest := []) (b := eX V 500) G hC hB h (met_X4_bothHere l V M L hn4 hL60 hL t (by omega) (upd T (4 * t) (nI 9)) ((mtW L (kLs 22) ((a + 1) + 1)).2) (by omega) ((4 * t) + 1) (by omega)) mw_1879 kv_X4_bothHere ⟨rfl, rfl⟩ ⟨Nat.le_of_ble_eq_true rfl, Nat.le_of_ble_eq_true rfl⟩ (r_mV hC h) rfl rfl hl.1 (Nat.le_of_ble_eq_true rfl) dX4_commandHere_309 ⟨Nat.le_of_ble_eq_true rfl, Nat.le_of_ble_eq_true rfl⟩ (fun r u H locs hp h => ?_)
                        obtain ⟨hr9, hu9⟩ := hp
                        rw [hu9] at h
                        have g_107 := bhM_le L ((4 * t) + 1) ((mtW L (kLs 22) ((a + 1) + 1)).2) (upd T (4 * t) (nI 9)) (by omega)
                        rcases bsp ((bhM L ((4 * t) + 1) ((mtW L (kLs 22) ((a + 1) + 1)).2) (upd T (4 * t) (nI 9))).1) with cc_108 | cc_108
                        · skip
                          obtain rfl : r = nI 1 := hr9.trans (bz_t cc_108)
                          refine lv_if_eq (tgt := 319) hx hcd dX4_commandHere_312 (by decide) (fun c_109 => absurd c_109 (by decide)) (fun _ => ?_)
                          refine lv_iconst (v := nI 1) hx hcd dX4_commandHere_315 (by decide) ?_
                          refine lv_goto (tgt := 320) hx hcd dX4_commandHere_316 (by decide) ?_
                          exact k_retz hQ G hret hlocks h (Or.inr rfl) (by rw [show cmM L t a T = (true, (bhM L ((4 * t) + 1) ((mtW L (kLs 22) ((a + 1) + 1)).2) (upd T (4 * t) (nI 9))).2.1, (bhM L ((4 * t) + 1) ((mtW L (kLs 22) ((a + 1) + 1)).2) (upd T (4 * t) (nI 9))).2.2) from by unfold cmM; rw [if_neg hs_3, if_neg hs_9, if_neg hs_15, if_neg hs_27, if_neg hs_44, if_neg hs_56, if_neg hs_62, if_pos ⟨hs_86, hs_87⟩, if_neg hs_89, if_pos ⟨hs_101, hs_102⟩, if_pos cc_105, if_pos cc_108]]; exact ⟨rfl, rfl⟩) (Nat.le_of_ble_eq_true rfl) (Nat.le_of_ble_eq_true rfl) dX4_commandHere_320
                        · skip
                          obtain rfl : r = nI 0 := hr9.trans (bz_f cc_108)
                          refine lv_if_eq (tgt := 319) hx hcd dX4_commandHere_312 (by decide) (fun _ => ?_) (fun c_110 => absurd c_110 (by decide))
                          refine lv_iconst (v := nI 0) hx hcd dX4_commandHere_319 (by decide) ?_
                          exact k_retz hQ G hret hlocks h (Or.inl rfl) (by rw [show cmM L t a T = (false, (bhM L ((4 * t) + 1) ((mtW L (kLs 22) ((a + 1) + 1)).2) (upd T (4 * t) (nI 9))).2.1, (bhM L ((4 * t) + 1) ((mtW L (kLs 22) ((a + 1) + 1)).2) (upd T (4 * t) (nI 9))).2.2) from by unfold cmM; rw [if_neg hs_3, if_neg hs_9, if_neg hs_15, if_neg hs_27, if_neg hs_44, if_neg hs_56, if_neg hs_62, if_pos ⟨hs_86, hs_87⟩, if_neg hs_89, if_pos ⟨hs_101, hs_102⟩, if_pos cc_105, if_neg (by rw [cc_108]; decide)]]; exact ⟨rfl, rfl⟩) (Nat.le_of_ble_eq_true rfl) (Nat.le_of_ble_eq_true rfl) dX4_commandHere_320
                      · skip
                        obtain rfl : r = nI 0 := hr9.trans (bz_f cc_105)
                        refine lv_if_eq (tgt := 319) hx hcd dX4_commandHere_304 (by decide) (fun _ => ?_) (fun c_111 => absurd c_111 (by decide))
                        refine lv_iconst (v := nI 0) hx hcd dX4_commandHere_319 (by decide) ?_
                        exact k_retz hQ G hret hlocks h (Or.inl rfl) (by rw [show cmM L t a T = (false, (mtW L (kLs 22) ((a + 1) + 1)).2, upd T (4 * t) (nI 9)) from by unfold cmM; rw [if_neg hs_3, if_neg hs_9, if_neg hs_15, if_neg hs_27, if_neg hs_44, if_neg hs_56, if_neg hs_62, if_pos ⟨hs_86, hs_87⟩, if_neg hs_89, if_pos ⟨hs_101, hs_102⟩, if_neg (by rw [cc_105]; decide)]]; exact ⟨rfl, rfl⟩) (Nat.le_of_ble_eq_true rfl) (Nat.le_of_ble_eq_true rfl) dX4_commandHere_320
                    · skip
                      rw [hu9] at h
                      refine lv_if_eq (tgt := 319) hx hcd dX4_commandHere_293 (by decide) (fun _ => ?_) (fun c_112 => absurd c_112 (by decide))
                      refine lv_iconst (v := nI 0) hx hcd dX4_commandHere_319 (by decide) ?_
                      exact k_retz hQ G hret hlocks h (Or.inl rfl) (by rw [show cmM L t a T = (false, a + 1, T) from by unfold cmM; rw [if_neg hs_3, if_neg hs_9, if_neg hs_15, if_neg hs_27, if_neg hs_44, if_neg hs_56, if_neg hs_62, if_pos ⟨hs_86, hs_87⟩, if_neg hs_89, if_neg hs_101]]; exact ⟨rfl, rfl⟩) (Nat.le_of_ble_eq_true rfl) (Nat.le_of_ble_eq_true rfl) dX4_commandHere_320
                · skip
                  rw [hu9] at h
                  refine lv_if_ne (tgt := 253) hx hcd dX4_commandHere_248 (by decide) (fun c_113 => absurd c_113 (by decide)) (fun _ => ?_)
                  refine lv_iconst (v := nI 0) hx hcd dX4_commandHere_251 (by decide) ?_
                  exact k_retz hQ G hret hlocks h (Or.inl rfl) (by rw [show cmM L t a T = (false, a, T) from by unfold cmM; rw [if_neg hs_3, if_neg hs_9, if_neg hs_15, if_neg hs_27, if_neg hs_44, if_neg hs_56, if_neg hs_62, if_neg hs_86]]; exact ⟨rfl, rfl⟩) (Nat.le_of_ble_eq_true rfl) (Nat.le_of_ble_eq_true rfl) dX4_commandHere_252
set_option maxHeartbeats 4000000 in
set_option maxRecDepth 100000 in
/-- isText() -/
theorem met_X4_isText (l : Launch) (V : kEnv) (M : kMs) (L : List Nat) (hn4 : M.1 4 = nI L.length) (hL60 : L.length ≤ 60) (hL : ∀ j, j < L.length → M.2 4 j = nI (L.getD j 0) ∧ L.getD j 0 < 128) : kI l yX4_isText cX4_isText 1 (some .boolean) { frames := 7, cells := 0, slots := 0, locals := 150 } V (mWs V) [.ref (eX V 500)] (M) (fun r u => r = bz (txM L 61 0 0 (M.2 8)).1 ∧ u = pW M (txM L 61 0 0 (M.2 8)).2.1 (txM L 61 0 0 (M.2 8)).2.2.1 (txM L 61 0 0 (M.2 8)).2.2.2) 0 0 := by
  refine kI_of (by decide +kernel) (Nat.le_of_ble_eq_true rfl) ?_
  intro pg e s m args below meth c G hret hlocks hC hB h ls hl Q hQ
  have hl : lv_has ls 1 [(0, .ref (eX V 500))] := hl
  have hx := G.1
  have hcd := G.2.1
  refine lv_aload_n hx hcd dX4_isText_0 rfl (lv_at hl 0 rfl) ?_
  refine lv_iconst (v := nI 0) hx hcd dX4_isText_1 (by decide) ?_
  refine r_mP G hC h 8 (by decide) mw_1488 (fun z => absurd z (by decide)) rfl dX4_isText_2 (fun H locs h => ?_)
  refine lv_aload_n hx hcd dX4_isText_5 rfl (lv_at hl 0 rfl) ?_
  refine lv_iconst (v := nI 0) hx hcd dX4_isText_6 (by decide) ?_
  refine r_mP G hC h 9 (by decide) mw_1490 (fun z => absurd z (by decide)) rfl dX4_isText_7 (fun H locs h => ?_)
  have L_1 : ∀ (fu_3 : Nat) (t9 : Nat) (a9 : Nat) (T9 : Nat → Int32) (hta : 2 * t9 ≤ a9) (hal : a9 ≤ L.length) (hx9 : txM L 61 0 0 (M.2 8) = txM L (61 - t9) t9 a9 T9), 61 - a9 < fu_3 → ∀ (H : Heap) (locs : List Loc), cH V s H locs (mWs V (pW M a9 t9 T9)) → ∀ ls : Array Slot, lv_has ls 1 [(0, .ref (eX V 500))] → W pg l e { frames := 7, cells := 0, slots := 0, locals := 150 } s m args below meth c H locs 0 0 Q (F0 m 10 ls []) := by
    intro fu_3
    induction fu_3 with
    | zero => intro t9 a9 T9 hta hal hx9 hmz; exact absurd hmz (Nat.not_lt_zero _)
    | succ fu_3 ih_2 =>
      intro t9 a9 T9 hta hal hx9 hmz H locs h ls hl
      refine lv_aload_n hx hcd dX4_isText_10 rfl (lv_at hl 0 rfl) ?_
      refine k_Vi (As := []) (rest := []) (b := eX V 500) G hC hB h (met_X4_commandHere l V M L hn4 hL60 hL t9 (by omega) T9 a9 (by omega)) mw_1846 kv_X4_commandHere ⟨rfl, rfl⟩ ⟨Nat.le_of_ble_eq_true rfl, Nat.le_of_ble_eq_true rfl⟩ (r_mV hC h) rfl rfl hl.1 (Nat.le_of_ble_eq_true rfl) dX4_isText_11 ⟨Nat.le_of_ble_eq_true rfl, Nat.le_of_ble_eq_true rfl⟩ (fun r u H locs hp h => ?_)
      obtain ⟨hr9, hu9⟩ := hp
      rw [hu9] at h
      have g_4 := cmM_le L t9 a9 T9 (by omega)
      rcases bsp ((cmM L t9 a9 T9).1) with cc_5 | cc_5
      · skip
        obtain rfl : r = nI 1 := hr9.trans (bz_t cc_5)
        refine lv_if_ne (tgt := 19) hx hcd dX4_isText_14 (by decide) (fun _ => ?_) (fun c_6 => absurd c_6 (by decide))
        have g_ok := (cmM_le L t9 a9 T9 hal).2.2 cc_5
        refine lv_aload_n hx hcd dX4_isText_19 rfl (lv_at hl 0 rfl) ?_
        refine lv_dup hx hcd dX4_isText_20 rfl ?_
        refine r_mN G hC h 9 (by decide) mw_1490 (x := nI (t9)) rfl dX4_isText_21 ?_
        refine lv_iconst (v := nI 1) hx hcd dX4_isText_24 (by decide) ?_
        refine w_iadd (v := nI (t9 + 1)) hx hcd dX4_isText_25 (nI_add _ _) ?_
        refine r_mP G hC h 9 (by decide) mw_1490 (fun z => absurd z (by decide)) (pW_t _ _ _ _ _) dX4_isText_26 (fun H locs h => ?_)
        refine lv_aload_n hx hcd dX4_isText_29 rfl (lv_at hl 0 rfl) ?_
        refine lv_bipush (v := nI 59) hx hcd dX4_isText_30 (by decide) ?_
        refine k_Vi (As := [.int (nI 59)]) (rest := []) (b := eX V 500) G hC hB h (met_X4_skips l V (pW M ((cmM L t9 a9 T9).2.1) (t9 + 1) ((cmM L t9 a9 T9).2.2)) L hn4 hL60 hL ((cmM L t9 a9 T9).2.1) rfl (by omega) 59 (by omega)) mw_1850 kv_X4_skips ⟨rfl, rfl⟩ ⟨Nat.le_of_ble_eq_true rfl, Nat.le_of_ble_eq_true rfl⟩ (r_mV hC h) rfl rfl hl.1 (Nat.le_of_ble_eq_true rfl) dX4_isText_32 ⟨Nat.le_of_ble_eq_true rfl, Nat.le_of_ble_eq_true rfl⟩ (fun r u H locs hp h => ?_)
        rcases hp with ⟨⟨hs_8, hs_9⟩, rfl, hu9⟩ | ⟨hs_8, rfl, hu9⟩
        · skip
          rw [hu9, pW_a] at h
          refine lv_if_ne (tgt := 10) hx hcd dX4_isText_35 (by decide) (fun _ => ?_) (fun c_10 => absurd c_10 (by decide))
          exact ih_2 (t9 + 1) ((cmM L t9 a9 T9).2.1 + 1) ((cmM L t9 a9 T9).2.2) (by have := g_ok; omega) (by omega) (by rw [hx9, show 61 - t9 = (61 - (t9 + 1)) + 1 by omega, txM, if_pos cc_5, if_pos ⟨hs_8, hs_9⟩]) (by omega) _ _ h _ (lv_sub hl [0] rfl)
        · skip
          rw [hu9] at h
          refine lv_if_ne (tgt := 10) hx hcd dX4_isText_35 (by decide) (fun c_11 => absurd c_11 (by decide)) (fun _ => ?_)
          refine lv_aload_n hx hcd dX4_isText_38 rfl (lv_at hl 0 rfl) ?_
          refine r_mN G hC h 8 (by decide) mw_1488 (x := nI ((cmM L t9 a9 T9).2.1)) rfl dX4_isText_39 ?_
          refine lv_aload_n hx hcd dX4_isText_42 rfl (lv_at hl 0 rfl) ?_
          refine r_mN G hC h 4 (by decide) mw_1481 (x := nI (L.length)) hn4 dX4_isText_43 ?_
          refine lv_icmp_ne (tgt := 53) hx hcd dX4_isText_46 (by decide) (fun c_12 => ?_) (fun c_12 => ?_)
          · have c_12 := cNe (tN (n := (cmM L t9 a9 T9).2.1) (by omega)) (tN (n := L.length) (by omega)) c_12
            refine lv_iconst (v := nI 0) hx hcd dX4_isText_53 (by decide) ?_
            exact k_retz hQ G hret hlocks h (Or.inl rfl) (by rw [hx9, show 61 - t9 = (60 - t9) + 1 by omega, txM, if_pos cc_5, if_neg hs_8, show decide ((cmM L t9 a9 T9).2.1 = L.length) = false from decide_eq_false (by omega)]; exact ⟨rfl, rfl⟩) (Nat.le_of_ble_eq_true rfl) (Nat.le_of_ble_eq_true rfl) dX4_isText_54
          · have c_12 := cEq (tN (n := (cmM L t9 a9 T9).2.1) (by omega)) (tN (n := L.length) (by omega)) c_12
            refine lv_iconst (v := nI 1) hx hcd dX4_isText_49 (by decide) ?_
            refine lv_goto (tgt := 54) hx hcd dX4_isText_50 (by decide) ?_
            exact k_retz hQ G hret hlocks h (Or.inr rfl) (by rw [hx9, show 61 - t9 = (60 - t9) + 1 by omega, txM, if_pos cc_5, if_neg hs_8, show decide ((cmM L t9 a9 T9).2.1 = L.length) = true from decide_eq_true (by omega)]; exact ⟨rfl, rfl⟩) (Nat.le_of_ble_eq_true rfl) (Nat.le_of_ble_eq_true rfl) dX4_isText_54
      · skip
        obtain rfl : r = nI 0 := hr9.trans (bz_f cc_5)
        refine lv_if_ne (tgt := 19) hx hcd dX4_isText_14 (by decide) (fun c_13 => absurd c_13 (by decide)) (fun _ => ?_)
        refine lv_iconst (v := nI 0) hx hcd dX4_isText_17 (by decide) ?_
        exact k_retz hQ G hret hlocks h (Or.inl rfl) (by rw [hx9, show 61 - t9 = (60 - t9) + 1 by omega, txM, if_neg (by rw [cc_5]; decide)]; exact ⟨rfl, rfl⟩) (Nat.le_of_ble_eq_true rfl) (Nat.le_of_ble_eq_true rfl) dX4_isText_18
  exact L_1 (61 + 1) 0 0 (M.2 8) (by omega) (by omega) rfl (by omega) _ _ (by first | exact h | (rw [pW_0] at h; exact h)) _ (lv_sub hl [0] rfl)
