/-! THE REFERENCE'S COMMANDS WITHIN A TEXT: what they come to is what the class's come to. -/
theorem nI_same {a b : Nat} (ha : a < 2147483648) (hb : b < 2147483648) (h : nI a = nI b) : a = b := by
  have h1 := congrArg Int32.toInt h
  rw [tN ha, tN hb] at h1
  omega
theorem kpW1 (M : kMs) (c0 : Nat) : kpW (nPut M 3 (nI 0)) 0 1 c0 = nPut M 3 (nI 0) := by
  unfold kpW
  rw [if_pos rfl]
  exact Prod.ext (upup _ _ _ _) rfl
theorem inS_2 {n m a b : Nat} (ha : a < 100) (hb : b < 100) (h : (inS n (nI a) && inS m (nI b)) = false) : ¬ (a < n ∧ b < m) := by
  rintro ⟨h1, h2⟩
  rw [inS_nI (by omega), inS_nI (by omega), decide_eq_true h1, decide_eq_true h2] at h
  exact Bool.noConfusion h
theorem inS_1 {n a : Nat} (ha : a < 100) (h : inS n (nI a) = false) : ¬ a < n := by
  intro h1
  rw [inS_nI (by omega), decide_eq_true h1] at h
  exact Bool.noConfusion h
theorem ff {b : Bool} (h : b = true → False) : b = false := Bool.eq_false_iff.mpr h
/-- what a command comes to -/
def carP (M : kMs) (B : kBd) (k a b : Nat) (u : kMs) : Prop := (alw B k a b = true ∧ bA (cry B k a b) ∧ u = setG (nPut M 3 (nI 0)) (cry B k a b)) ∨ (alw B k a b = false ∧ ∃ c, 1 ≤ c ∧ c ≤ 4 ∧ u = nPut M 3 (nI c))
theorem alw0 {B : kBd} {a b : Nat} : alw B 0 a b = true ↔ isEst (nI a : Int32).toInt = true ∧ B.2 0 < 16 := by simp [alw]
theorem alw1 {B : kBd} {a b : Nat} : alw B 1 a b = true ↔ (1 ≤ (nI a : Int32).toInt ∧ (nI a : Int32).toInt ≤ 4) ∧ B.2 1 < 4 := by simp [alw]
theorem alw2 {B : kBd} {a b : Nat} : alw B 2 a b = true ↔ (((((a < B.2 0 ∧ b < B.2 0) ∧ a ≠ b) ∧ (B.1 2 a).testBit b = false) ∧ B.1 1 a ≠ 0) ∧ fnd B b a = false) := by simp [alw]
theorem alw3 {B : kBd} {a b : Nat} : alw B 3 a b = true ↔ (a < B.2 0 ∧ b < B.2 0) ∧ (B.1 2 a).testBit b = true := by simp [alw]
theorem alw4 {B : kBd} {a b : Nat} : alw B 4 a b = true ↔ (a < B.2 0 ∧ (B.2 2).testBit a = false) ∧ B.1 1 a ≠ 0 := by simp [alw]
theorem alw5 {B : kBd} {a b : Nat} : alw B 5 a b = true ↔ (a < B.2 0 ∧ (B.2 2).testBit a = true) ∧ asgOf B a = 0 := by simp [alw]
theorem alw6 {B : kBd} {a b : Nat} : alw B 6 a b = true ↔ ((1 ≤ (nI a : Int32).toInt ∧ (nI a : Int32).toInt ≤ 10) ∧ B.2 3 = 0) ∧ B.2 7 < 9 := by simp [alw]
theorem alw7 {B : kBd} {a b : Nat} : alw B 7 a b = true ↔ ((((B.2 3 ≠ 0 ∧ (a < B.2 0 ∧ (B.2 2).testBit a = true)) ∧ B.1 1 a ≠ 0) ∧ asgOf B a = 0) ∧ b < B.2 1) ∧ B.1 4 b = 0 := by simp [alw]
theorem alw8 {B : kBd} {a b : Nat} : alw B 8 a b = true ↔ a < B.2 1 ∧ B.1 4 a ≠ 0 := by simp [alw]
theorem alw9 {B : kBd} {a b : Nat} : alw B 9 a b = true ↔ (a < B.2 0 ∧ isEst (nI b : Int32).toInt = true) ∧ B.1 1 a ≠ 0 := by simp [alw]
theorem alw10 {B : kBd} {a b : Nat} : alw B 10 a b = true ↔ B.2 3 ≠ 0 ∧ B.2 5 < B.2 4 := by simp [alw]
theorem alw11 {B : kBd} {a b : Nat} : alw B 11 a b = true ↔ B.2 3 ≠ 0 := by simp [alw]
theorem car_0 {M u : kMs} {B : kBd} {a b c0 : Nat} {r : Int32} (hA : bA B) (ha : a < 100) (hp : (∃ q, isEst (nI q : Int32).toInt = true ∧ q ≤ 13 ∧ (nI a : Int32) = nI q ∧ B.2 0 < 16 ∧ r = nI (B.2 0) ∧ u = setG (kpW (nPut M 3 (nI 0)) 0 1 c0) (addB B q)) ∨ (isEst (nI a : Int32).toInt = false ∧ r = nI 0 ∧ u = nPut M 3 (nI 1)) ∨ (∃ q, isEst (nI q : Int32).toInt = true ∧ (nI a : Int32) = nI q ∧ B.2 0 = 16 ∧ r = nI 0 ∧ u = nPut M 3 (nI 2))) : carP M B 0 a b u := by
  rcases hp with ⟨q, h1, h2, h3, h4, h5, h6⟩ | ⟨h1, h2, h3⟩ | ⟨q, h1, h2, h3, h4, h5⟩
  · have e : a = q := nI_same (by omega) (by omega) h3
    subst e
    exact Or.inl ⟨alw0.mpr ⟨h1, h4⟩, bA_add hA h2 h4, by rw [h6, kpW1]; rfl⟩
  · exact Or.inr ⟨ff (fun z => by have := (alw0.mp z).1; rw [h1] at this; exact Bool.noConfusion this), 1, by decide, by decide, h3⟩
  · exact Or.inr ⟨ff (fun z => by have := (alw0.mp z).2; omega), 2, by decide, by decide, h5⟩
theorem car_1 {M u : kMs} {B : kBd} {a b c0 : Nat} {r : Int32} (hA : bA B) (ha : a < 100) (hp : (∃ q, 1 ≤ q ∧ q ≤ 4 ∧ (nI a : Int32) = nI q ∧ B.2 1 < 4 ∧ r = nI (B.2 1) ∧ u = setG (kpW (nPut M 3 (nI 0)) 0 1 c0) (devB B q)) ∨ (¬ (1 ≤ (nI a : Int32).toInt ∧ (nI a : Int32).toInt ≤ 4) ∧ r = nI 0 ∧ u = nPut M 3 (nI 1)) ∨ (∃ q, 1 ≤ q ∧ q ≤ 4 ∧ (nI a : Int32) = nI q ∧ B.2 1 = 4 ∧ r = nI 0 ∧ u = nPut M 3 (nI 2))) : carP M B 1 a b u := by
  rcases hp with ⟨q, h1, h2, h3, h4, h5, h6⟩ | ⟨h1, h2, h3⟩ | ⟨q, h1, h2, h3, h4, h5, h6⟩
  · have e : a = q := nI_same (by omega) (by omega) h3
    subst e
    exact Or.inl ⟨alw1.mpr ⟨by rw [tN (n := a) (by omega)]; omega, h4⟩, bA_dev hA h1 h2 h4, by rw [h6, kpW1]; rfl⟩
  · exact Or.inr ⟨ff (fun z => h1 (alw1.mp z).1), 1, by decide, by decide, h3⟩
  · exact Or.inr ⟨ff (fun z => by have := (alw1.mp z).2; omega), 2, by decide, by decide, h6⟩
theorem car_2 {M u : kMs} {B : kBd} {a b c0 : Nat} {r : Int32} (hA : bA B) (ha : a < 100) (hb : b < 100) (hp : (∃ j k, j < B.2 0 ∧ k < B.2 0 ∧ (nI a : Int32) = nI j ∧ (nI b : Int32) = nI k ∧ j ≠ k ∧ (B.1 2 j).testBit k = false ∧ B.1 1 j ≠ 0 ∧ (und B k).testBit j = false ∧ r = nI (brS (blkB B j k) j) ∧ u = setG (kpW (nPut M 3 (nI 0)) 0 1 c0) (blkB B j k)) ∨ ((inS (B.2 0) (nI a : Int32) && inS (B.2 0) (nI b : Int32)) = false ∧ r = nI 0 ∧ u = nPut M 3 (nI 1)) ∨ (∃ j k, j < B.2 0 ∧ k < B.2 0 ∧ (nI a : Int32) = nI j ∧ (nI b : Int32) = nI k ∧ j = k ∧ r = nI 0 ∧ u = nPut M 3 (nI 2)) ∨ (∃ j k, j < B.2 0 ∧ k < B.2 0 ∧ (nI a : Int32) = nI j ∧ (nI b : Int32) = nI k ∧ j ≠ k ∧ ((B.1 2 j).testBit k = true ∨ B.1 1 j = 0) ∧ r = nI 0 ∧ u = nPut M 3 (nI 3)) ∨ (∃ j k, j < B.2 0 ∧ k < B.2 0 ∧ (nI a : Int32) = nI j ∧ (nI b : Int32) = nI k ∧ j ≠ k ∧ (B.1 2 j).testBit k = false ∧ B.1 1 j ≠ 0 ∧ (und B k).testBit j = true ∧ r = nI 0 ∧ u = nPut M 3 (nI 4))) : carP M B 2 a b u := by
  have hn := hA.1.2.2.1
  rcases hp with ⟨j, k, h1, h2, h3, h4, h5, h6, h7, h8, h9, h10⟩ | ⟨h1, h2, h3⟩ | ⟨j, k, h1, h2, h3, h4, h5, h6, h7⟩ | ⟨j, k, h1, h2, h3, h4, h5, h6, h7, h8⟩ | ⟨j, k, h1, h2, h3, h4, h5, h6, h7, h8, h9, h10⟩
  · have ej : a = j := nI_same (by omega) (by omega) h3
    have ek : b = k := nI_same (by omega) (by omega) h4
    subst ej; subst ek
    have hf : fnd B b a = false := by rw [← und_fnd hA h2 h1]; exact h8
    refine Or.inl ⟨alw2.mpr ⟨⟨⟨⟨⟨h1, h2⟩, h5⟩, h6⟩, h7⟩, hf⟩, bA_blk hA h1 h2 h5 (fun z => ?_), by rw [h10, kpW1]; rfl⟩
    have := (und_ok hA.1.1 hA.2.2.2.2.1 b a).mpr z
    rw [h8] at this; exact Bool.noConfusion this
  · exact Or.inr ⟨ff (fun z => inS_2 ha hb h1 (alw2.mp z).1.1.1.1), 1, by decide, by decide, h3⟩
  · have ej : a = j := nI_same (by omega) (by omega) h3
    have ek : b = k := nI_same (by omega) (by omega) h4
    subst ej; subst ek
    exact Or.inr ⟨ff (fun z => (alw2.mp z).1.1.1.2 h5), 2, by decide, by decide, h7⟩
  · have ej : a = j := nI_same (by omega) (by omega) h3
    have ek : b = k := nI_same (by omega) (by omega) h4
    subst ej; subst ek
    refine Or.inr ⟨ff (fun z => ?_), 3, by decide, by decide, h8⟩
    rcases h6 with h6 | h6
    · have := (alw2.mp z).1.1.2; rw [h6] at this; exact Bool.noConfusion this
    · exact (alw2.mp z).1.2 h6
  · have ej : a = j := nI_same (by omega) (by omega) h3
    have ek : b = k := nI_same (by omega) (by omega) h4
    subst ej; subst ek
    refine Or.inr ⟨ff (fun z => ?_), 4, by decide, by decide, h10⟩
    have := (alw2.mp z).2
    rw [← und_fnd hA h2 h1, h8] at this; exact Bool.noConfusion this
theorem car_3 {M u : kMs} {B : kBd} {a b c0 : Nat} {r : Int32} (hA : bA B) (ha : a < 100) (hb : b < 100) (hp : (∃ j k, j < B.2 0 ∧ k < B.2 0 ∧ (nI a : Int32) = nI j ∧ (nI b : Int32) = nI k ∧ (B.1 2 j).testBit k = true ∧ r = nI (brS (bSet B 2 j (andn (B.1 2 j) (2 ^ k))) j) ∧ u = setG (kpW (nPut M 3 (nI 0)) 0 1 c0) (bSet B 2 j (andn (B.1 2 j) (2 ^ k)))) ∨ ((inS (B.2 0) (nI a : Int32) && inS (B.2 0) (nI b : Int32)) = false ∧ r = nI 0 ∧ u = nPut M 3 (nI 1)) ∨ (∃ j k, j < B.2 0 ∧ k < B.2 0 ∧ (nI a : Int32) = nI j ∧ (nI b : Int32) = nI k ∧ (B.1 2 j).testBit k = false ∧ r = nI 0 ∧ u = nPut M 3 (nI 2))) : carP M B 3 a b u := by
  have hn := hA.1.2.2.1
  rcases hp with ⟨j, k, h1, h2, h3, h4, h5, h6, h7⟩ | ⟨h1, h2, h3⟩ | ⟨j, k, h1, h2, h3, h4, h5, h6, h7⟩
  · have ej : a = j := nI_same (by omega) (by omega) h3
    have ek : b = k := nI_same (by omega) (by omega) h4
    subst ej; subst ek
    exact Or.inl ⟨alw3.mpr ⟨⟨h1, h2⟩, h5⟩, bA_ubl hA h1, by rw [h7, kpW1]; rfl⟩
  · exact Or.inr ⟨ff (fun z => inS_2 ha hb h1 (alw3.mp z).1), 1, by decide, by decide, h3⟩
  · have ej : a = j := nI_same (by omega) (by omega) h3
    have ek : b = k := nI_same (by omega) (by omega) h4
    subst ej; subst ek
    exact Or.inr ⟨ff (fun z => by have := (alw3.mp z).2; rw [h5] at this; exact Bool.noConfusion this), 2, by decide, by decide, h7⟩
theorem car_4 {M u : kMs} {B : kBd} {a b c0 : Nat} {r : Int32} (hA : bA B) (ha : a < 100) (hp : (∃ k, k < B.2 0 ∧ (nI a : Int32) = nI k ∧ ((B.2 2).testBit k = false ∧ B.1 1 k ≠ 0) ∧ r = nI (plS (bPut B 2 (B.2 2 ||| 2 ^ k)) 0) ∧ u = setG (kpW (nPut M 3 (nI 0)) 0 1 c0) (bPut B 2 (B.2 2 ||| 2 ^ k))) ∨ (inS (B.2 0) (nI a : Int32) = false ∧ r = nI 0 ∧ u = nPut M 3 (nI 1)) ∨ (∃ k, k < B.2 0 ∧ (nI a : Int32) = nI k ∧ ¬ ((B.2 2).testBit k = false ∧ B.1 1 k ≠ 0) ∧ r = nI 0 ∧ u = nPut M 3 (nI 2))) : carP M B 4 a b u := by
  have hn := hA.1.2.2.1
  rcases hp with ⟨k, h1, h2, h3, h4, h5⟩ | ⟨h1, h2, h3⟩ | ⟨k, h1, h2, h3, h4, h5⟩
  · have e : a = k := nI_same (by omega) (by omega) h2
    subst e
    exact Or.inl ⟨alw4.mpr ⟨⟨h1, h3.1⟩, h3.2⟩, bA_pl hA h1, by rw [h5, kpW1]; rfl⟩
  · exact Or.inr ⟨ff (fun z => inS_1 ha h1 (alw4.mp z).1.1), 1, by decide, by decide, h3⟩
  · have e : a = k := nI_same (by omega) (by omega) h2
    subst e
    exact Or.inr ⟨ff (fun z => h3 ⟨(alw4.mp z).1.2, (alw4.mp z).2⟩), 2, by decide, by decide, h5⟩
theorem car_5 {M u : kMs} {B : kBd} {a b c0 : Nat} {r : Int32} (hA : bA B) (ha : a < 100) (hp : (∃ k, k < B.2 0 ∧ (nI a : Int32) = nI k ∧ ((B.2 2).testBit k = true ∧ asgOf B k = 0) ∧ r = nI (plS (bPut B 2 (andn (B.2 2) (2 ^ k))) 0) ∧ u = setG (kpW (nPut M 3 (nI 0)) 0 1 c0) (bPut B 2 (andn (B.2 2) (2 ^ k)))) ∨ (inS (B.2 0) (nI a : Int32) = false ∧ r = nI 0 ∧ u = nPut M 3 (nI 1)) ∨ (∃ k, k < B.2 0 ∧ (nI a : Int32) = nI k ∧ ¬ ((B.2 2).testBit k = true ∧ asgOf B k = 0) ∧ r = nI 0 ∧ u = nPut M 3 (nI 2))) : carP M B 5 a b u := by
  have hn := hA.1.2.2.1
  rcases hp with ⟨k, h1, h2, h3, h4, h5⟩ | ⟨h1, h2, h3⟩ | ⟨k, h1, h2, h3, h4, h5⟩
  · have e : a = k := nI_same (by omega) (by omega) h2
    subst e
    exact Or.inl ⟨alw5.mpr ⟨⟨h1, h3.1⟩, h3.2⟩, bA_unpl hA, by rw [h5, kpW1]; rfl⟩
  · exact Or.inr ⟨ff (fun z => inS_1 ha h1 (alw5.mp z).1.1), 1, by decide, by decide, h3⟩
  · have e : a = k := nI_same (by omega) (by omega) h2
    subst e
    exact Or.inr ⟨ff (fun z => h3 ⟨(alw5.mp z).1.2, (alw5.mp z).2⟩), 2, by decide, by decide, h5⟩
theorem car_6 {M u : kMs} {B : kBd} {a b c0 : Nat} {r : Int32} (hA : bA B) (ha : a < 100) (hp : (∃ q, 1 ≤ q ∧ q ≤ 10 ∧ (nI a : Int32) = nI q ∧ B.2 3 = 0 ∧ B.2 7 < 9 ∧ r = nI (B.2 7) ∧ u = setG (kpW (nPut M 3 (nI 0)) 0 1 c0) (begS B q)) ∨ (¬ (1 ≤ (nI a : Int32).toInt ∧ (nI a : Int32).toInt ≤ 10) ∧ r = nI 0 ∧ u = nPut M 3 (nI 1)) ∨ (∃ q, 1 ≤ q ∧ q ≤ 10 ∧ (nI a : Int32) = nI q ∧ ¬ (B.2 3 = 0 ∧ B.2 7 < 9) ∧ r = nI 0 ∧ u = nPut M 3 (nI 2))) : carP M B 6 a b u := by
  have hn := hA.1.2.2.1
  rcases hp with ⟨q, h1, h2, h3, h4, h5, h6, h7⟩ | ⟨h1, h2, h3⟩ | ⟨q, h1, h2, h3, h4, h5, h6⟩
  · have e : a = q := nI_same (by omega) (by omega) h3
    subst e
    exact Or.inl ⟨alw6.mpr ⟨⟨by rw [tN (n := a) (by omega)]; omega, h4⟩, h5⟩, bA_beg hA h1 h2 h5, by rw [h7, kpW1, beg_S hn hA.2.2.2.2.2.1]; rfl⟩
  · exact Or.inr ⟨ff (fun z => h1 (alw6.mp z).1.1), 1, by decide, by decide, h3⟩
  · exact Or.inr ⟨ff (fun z => h4 ⟨(alw6.mp z).1.2, (alw6.mp z).2⟩), 2, by decide, by decide, h6⟩
theorem car_7 {M u : kMs} {B : kBd} {a b c0 : Nat} {r : Int32} (hA : bA B) (ha : a < 100) (hb : b < 100) (hp : (∃ k d, k < B.2 0 ∧ d < B.2 1 ∧ (nI a : Int32) = nI k ∧ (nI b : Int32) = nI d ∧ B.2 3 ≠ 0 ∧ ((B.2 2).testBit k = true ∧ B.1 1 k ≠ 0 ∧ asgOf B k = 0 ∧ B.1 4 d = 0) ∧ r = bz (decide (0 < opS (bSet B 4 d (k + 1)) k)) ∧ u = setG (kpW (nPut M 3 (nI 0)) 0 1 c0) (bSet B 4 d (k + 1))) ∨ ((inS (B.2 0) (nI a : Int32) && inS (B.2 1) (nI b : Int32)) = false ∧ r = nI 0 ∧ u = nPut M 3 (nI 1)) ∨ (∃ k d, k < B.2 0 ∧ d < B.2 1 ∧ (nI a : Int32) = nI k ∧ (nI b : Int32) = nI d ∧ B.2 3 = 0 ∧ r = nI 0 ∧ u = nPut M 3 (nI 2)) ∨ (∃ k d, k < B.2 0 ∧ d < B.2 1 ∧ (nI a : Int32) = nI k ∧ (nI b : Int32) = nI d ∧ B.2 3 ≠ 0 ∧ ¬ ((B.2 2).testBit k = true ∧ B.1 1 k ≠ 0 ∧ asgOf B k = 0 ∧ B.1 4 d = 0) ∧ r = nI 0 ∧ u = nPut M 3 (nI 3))) : carP M B 7 a b u := by
  have hn := hA.1.2.2.1
  have hm := hA.1.2.2.2.1
  rcases hp with ⟨k, d, h1, h2, h3, h4, h5, h6, h7, h8⟩ | ⟨h1, h2, h3⟩ | ⟨k, d, h1, h2, h3, h4, h5, h6, h7⟩ | ⟨k, d, h1, h2, h3, h4, h5, h6, h7, h8⟩
  · have ek : a = k := nI_same (by omega) (by omega) h3
    have ed : b = d := nI_same (by omega) (by omega) h4
    subst ek; subst ed
    obtain ⟨g1, g2, g3, g4⟩ := h6
    exact Or.inl ⟨alw7.mpr ⟨⟨⟨⟨⟨h5, h1, g1⟩, g2⟩, g3⟩, h2⟩, g4⟩, bA_asg hA h1 h2 g3, by rw [h8, kpW1]; rfl⟩
  · exact Or.inr ⟨ff (fun z => inS_2 ha hb h1 ⟨(alw7.mp z).1.1.1.1.2.1, (alw7.mp z).1.2⟩), 1, by decide, by decide, h3⟩
  · have ek : a = k := nI_same (by omega) (by omega) h3
    have ed : b = d := nI_same (by omega) (by omega) h4
    subst ek; subst ed
    exact Or.inr ⟨ff (fun z => (alw7.mp z).1.1.1.1.1 h5), 2, by decide, by decide, h7⟩
  · have ek : a = k := nI_same (by omega) (by omega) h3
    have ed : b = d := nI_same (by omega) (by omega) h4
    subst ek; subst ed
    exact Or.inr ⟨ff (fun z => h6 ⟨(alw7.mp z).1.1.1.1.2.2, (alw7.mp z).1.1.1.2, (alw7.mp z).1.1.2, (alw7.mp z).2⟩), 3, by decide, by decide, h8⟩
theorem car_8 {M u : kMs} {B : kBd} {a b c0 : Nat} {r : Int32} (hA : bA B) (ha : a < 100) (hp : (∃ d, d < B.2 1 ∧ (nI a : Int32) = nI d ∧ B.1 4 d ≠ 0 ∧ r = nI (B.1 4 d) - 1 ∧ u = setG (kpW (nPut M 3 (nI 0)) 0 1 c0) (bSet B 4 d 0)) ∨ (inS (B.2 1) (nI a : Int32) = false ∧ r = nI 0 ∧ u = nPut M 3 (nI 1)) ∨ (∃ d, d < B.2 1 ∧ (nI a : Int32) = nI d ∧ B.1 4 d = 0 ∧ r = nI 0 ∧ u = nPut M 3 (nI 2))) : carP M B 8 a b u := by
  have hm := hA.1.2.2.2.1
  rcases hp with ⟨d, h1, h2, h3, h4, h5⟩ | ⟨h1, h2, h3⟩ | ⟨d, h1, h2, h3, h4, h5⟩
  · have e : a = d := nI_same (by omega) (by omega) h2
    subst e
    exact Or.inl ⟨alw8.mpr ⟨h1, h3⟩, bA_free hA (by omega), by rw [h5, kpW1]; rfl⟩
  · exact Or.inr ⟨ff (fun z => inS_1 ha h1 (alw8.mp z).1), 1, by decide, by decide, h3⟩
  · have e : a = d := nI_same (by omega) (by omega) h2
    subst e
    exact Or.inr ⟨ff (fun z => (alw8.mp z).2 h3), 2, by decide, by decide, h5⟩
theorem car_9 {M u : kMs} {B : kBd} {a b c0 : Nat} {r : Int32} (hA : bA B) (ha : a < 100) (hb : b < 100) (hp : (∃ k q, k < B.2 0 ∧ isEst (nI q : Int32).toInt = true ∧ q ≤ 13 ∧ (nI a : Int32) = nI k ∧ (nI b : Int32) = nI q ∧ B.1 1 k ≠ 0 ∧ r = nI ((reB B k q).1 1 k) ∧ u = setG (kpW (nPut M 3 (nI 0)) 0 1 c0) (reB B k q)) ∨ (inS (B.2 0) (nI a : Int32) = false ∧ r = nI 0 ∧ u = nPut M 3 (nI 1)) ∨ (∃ k, k < B.2 0 ∧ (nI a : Int32) = nI k ∧ isEst (nI b : Int32).toInt = false ∧ r = nI 0 ∧ u = nPut M 3 (nI 2)) ∨ (∃ k q, k < B.2 0 ∧ isEst (nI q : Int32).toInt = true ∧ (nI a : Int32) = nI k ∧ (nI b : Int32) = nI q ∧ B.1 1 k = 0 ∧ r = nI 0 ∧ u = nPut M 3 (nI 3))) : carP M B 9 a b u := by
  have hn := hA.1.2.2.1
  rcases hp with ⟨k, q, h1, h2, h3, h4, h5, h6, h7, h8⟩ | ⟨h1, h2, h3⟩ | ⟨k, h1, h2, h3, h4, h5⟩ | ⟨k, q, h1, h2, h3, h4, h5, h6, h7⟩
  · have ek : a = k := nI_same (by omega) (by omega) h4
    have eq : b = q := nI_same (by omega) (by omega) h5
    subst ek; subst eq
    exact Or.inl ⟨alw9.mpr ⟨⟨h1, h2⟩, h6⟩, bA_re hA h1 h3, by rw [h8, kpW1]; rfl⟩
  · exact Or.inr ⟨ff (fun z => inS_1 ha h1 (alw9.mp z).1.1), 1, by decide, by decide, h3⟩
  · exact Or.inr ⟨ff (fun z => by have := (alw9.mp z).1.2; rw [h3] at this; exact Bool.noConfusion this), 2, by decide, by decide, h5⟩
  · have ek : a = k := nI_same (by omega) (by omega) h3
    subst ek
    exact Or.inr ⟨ff (fun z => (alw9.mp z).2 h5), 3, by decide, by decide, h7⟩
theorem car_10 {M u : kMs} {B : kBd} {a b c0 : Nat} {r : Int32} (hA : bA B) (hp : (B.2 3 ≠ 0 ∧ B.2 5 ≠ B.2 4 ∧ r = nI (wkM B (B.2 1)).2 ∧ u = setG (kpW (nPut M 3 (nI 0)) 0 1 c0) (dayS B)) ∨ ((B.2 3 = 0 ∨ B.2 5 = B.2 4) ∧ r = nI 0 ∧ u = nPut M 3 (nI 1))) : carP M B 10 a b u := by
  have h54 := hA.1.2.2.2.2.2.1
  rcases hp with ⟨h1, h2, h3, h4⟩ | ⟨h1, h2, h3⟩
  · exact Or.inl ⟨alw10.mpr ⟨h1, by omega⟩, bA_day hA (by omega), by rw [h4, kpW1, day_S hA]; rfl⟩
  · refine Or.inr ⟨ff (fun z => ?_), 1, by decide, by decide, h3⟩
    have := alw10.mp z
    rcases h1 with h1 | h1
    · exact this.1 h1
    · omega
theorem car_11 {M u : kMs} {B : kBd} {a b c0 : Nat} {r : Int32} (hA : bA B) (hp : (B.2 3 ≠ 0 ∧ r = nI (pfS B (B.2 0)) ∧ u = setG (kpW (nPut M 3 (nI 0)) 0 1 c0) (endS B)) ∨ (B.2 3 = 0 ∧ r = nI 0 ∧ u = nPut M 3 (nI 1))) : carP M B 11 a b u := by
  rcases hp with ⟨h1, h2, h3⟩ | ⟨h1, h2, h3⟩
  · exact Or.inl ⟨alw11.mpr h1, bA_end hA (hA.1.2.2.2.2.2.2.2.2.2.2.2.1 h1), by rw [h3, kpW1, end_S hA]; rfl⟩
  · exact Or.inr ⟨ff (fun z => (alw11.mp z) h1), 1, by decide, by decide, h3⟩
