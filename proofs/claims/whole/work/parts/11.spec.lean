/-! WHAT THE BOARD'S METHODS ANSWER: functions of a board's value. -/
/-- small numbers everywhere -/
def kSm (B : kBd) : Prop := (∀ c k, B.1 c k < 65536) ∧ ∀ f, B.2 f < 65536
def orUp (f : Nat → Nat) : Nat → Nat
  | 0 => 0
  | k + 1 => orUp f k ||| f k
def sumUp (f : Nat → Nat) : Nat → Nat
  | 0 => 0
  | k + 1 => sumUp f k + f k
theorem orUp_lt {f : Nat → Nat} (h : ∀ k, f k < 65536) : ∀ n, orUp f n < 65536
  | 0 => by show 0 < 65536; decide
  | n + 1 => by
    have h1 := orUp_lt h n
    exact Nat.or_lt_two_pow (n := 16) h1 (h n)
theorem sumUp_le {f : Nat → Nat} {c : Nat} (h : ∀ k, f k ≤ c) : ∀ n, sumUp f n ≤ n * c
  | 0 => by simp [sumUp]
  | n + 1 => by
    have h1 := sumUp_le h n
    have h2 := h n
    rw [sumUp, Nat.succ_mul]
    omega
theorem sumUp_cong {f g : Nat → Nat} : ∀ {n : Nat}, (∀ k, k < n → f k = g k) → sumUp f n = sumUp g n
  | 0, _ => rfl
  | n + 1, h => by rw [sumUp, sumUp, sumUp_cong (fun k hk => h k (by omega)), h n (by omega)]
theorem orUp_cong {f g : Nat → Nat} : ∀ {n : Nat}, (∀ k, k < n → f k = g k) → orUp f n = orUp g n
  | 0, _ => rfl
  | n + 1, h => by rw [orUp, orUp, orUp_cong (fun k hk => h k (by omega)), h n (by omega)]
theorem orUp_bit (f : Nat → Nat) (i : Nat) : ∀ n, (orUp f n).testBit i = true ↔ ∃ k, k < n ∧ (f k).testBit i = true
  | 0 => by simp [orUp]
  | n + 1 => by
    rw [orUp, Nat.testBit_or, Bool.or_eq_true, orUp_bit f i n]
    constructor
    · rintro (⟨k, h1, h2⟩ | h)
      · exact ⟨k, by omega, h2⟩
      · exact ⟨n, by omega, h⟩
    · rintro ⟨k, h1, h2⟩
      by_cases hk : k = n
      · subst hk; exact Or.inr h2
      · exact Or.inl ⟨k, by omega, h2⟩
def isEst (z : Int) : Bool := decide (z = 1 ∨ z = 2 ∨ z = 3 ∨ z = 5 ∨ z = 8 ∨ z = 13)
/-- the set of the unfinished -/
def unf (B : kBd) : Nat := orUp (fun k => if 0 < B.1 1 k then 2 ^ k else 0) 16
/-- all blockers of a set -/
def boa (B : kBd) (s : Nat) : Nat := orUp (fun k => if s.testBit k then B.1 2 k else 0) 16
/-- how many of a set -/
def pcn (m : Nat) : Nat := sumUp (fun k => if m.testBit k then 1 else 0) 16
/-- the sum of the planned -/
def psum (B : kBd) (c : Nat) : Nat := sumUp (fun k => if (B.2 2).testBit k then B.1 c k else 0) 16
def pwork (B : kBd) : Nat := sumUp (fun k => if (B.2 2).testBit k then B.1 0 k - B.1 1 k else 0) 16
def pfin (B : kBd) : Nat := sumUp (fun k => if (B.2 2).testBit k ∧ B.1 1 k = 0 then B.1 0 k else 0) 16
/-- a story's developer, one up -/
def asgOf (B : kBd) (j : Nat) : Nat := if B.1 4 0 = j + 1 then 1 else if B.1 4 1 = j + 1 then 2 else if B.1 4 2 = j + 1 then 3 else if B.1 4 3 = j + 1 then 4 else 0
theorem asgOf_le (B : kBd) (j : Nat) : asgOf B j ≤ 4 := by
  unfold asgOf
  split <;> (try split) <;> (try split) <;> (try split) <;> omega
theorem unf_lt (B : kBd) : unf B < 65536 := by
  have h : ∀ n, n ≤ 16 → orUp (fun k => if 0 < B.1 1 k then 2 ^ k else 0) n < 65536 := by
    intro n
    induction n with
    | zero => intro _; show 0 < 65536; decide
    | succ n ih =>
      intro hn
      refine Nat.or_lt_two_pow (n := 16) (ih (by omega)) ?_
      show (if 0 < B.1 1 n then 2 ^ n else 0) < 2 ^ 16
      split
      · exact Nat.pow_lt_pow_right (by decide) (by omega)
      · decide
  exact h 16 (by omega)
theorem boa_lt {B : kBd} (hz : kSm B) (s : Nat) : boa B s < 65536 := orUp_lt (fun k => by split <;> first | exact hz.1 2 k | decide) 16
theorem pcn_le (m : Nat) : pcn m ≤ 16 := by
  have := sumUp_le (f := fun k => if m.testBit k then 1 else 0) (c := 1) (fun k => by split <;> omega) 16
  simpa [pcn] using this
theorem tb_f {m j : Nat} (h : ((m / 2 ^ j % 2 : Nat) : Int) = 0) : m.testBit j = false := by
  rw [Nat.testBit_eq_decide_div_mod_eq]
  exact decide_eq_false (by omega)
theorem tb_t {m j : Nat} (h : ((m / 2 ^ j % 2 : Nat) : Int) ≠ 0) : m.testBit j = true := by
  rw [Nat.testBit_eq_decide_div_mod_eq]
  exact decide_eq_true (by omega)
theorem n_and1' (m : Nat) : nI m &&& nI 1 = nI (m % 2) := n_and1 m
theorem p2 {j : Nat} (h : j < 31) : 2 ^ j < 2147483648 := Nat.pow_lt_pow_right (a := 2) (n := 31) (by decide) h
theorem p16 {j : Nat} (h : j < 16) : 2 ^ j < 65536 := Nat.pow_lt_pow_right (a := 2) (n := 16) (by decide) h
/-- a set without one of it -/
def bclr (m j : Nat) : Nat := m &&& (65535 ^^^ 2 ^ j)
theorem n_bclr {m j : Nat} (hm : m < 65536) (hj : j < 16) : nI m &&& (nI (2 ^ j) ^^^ (-1)) = nI (bclr m j) := by
  unfold bclr
  rw [← n_and, ← n_xor]
  have h1 : ∀ j : Fin 16, (nI (2 ^ j.val) ^^^ (-1) : Int32) = (nI 65535 ^^^ nI (2 ^ j.val)) ||| (nI 65536 * (-1)) := by decide +kernel
  rw [h1 ⟨j, hj⟩]
  apply Int32.toBitVec_inj.mp
  show (nI m).toBitVec &&& ((nI 65535 ^^^ nI (2 ^ j)).toBitVec ||| (nI 65536 * (-1)).toBitVec) = (nI m).toBitVec &&& (nI 65535 ^^^ nI (2 ^ j)).toBitVec
  have h2 : (nI m).toBitVec &&& (nI 65536 * (-1)).toBitVec = 0#32 := by
    have e : (nI 65536 * (-1)).toBitVec = ~~~(65535#32) := by decide
    rw [e]
    apply BitVec.eq_of_toNat_eq
    have hm2 : (nI m).toBitVec.toNat = m := pk_tn (by omega)
    apply Nat.eq_of_testBit_eq
    intro i
    simp only [BitVec.toNat_and, BitVec.toNat_not, hm2, Nat.testBit_and]
    rcases Nat.lt_or_ge i 16 with hi | hi
    · have : (2 ^ 32 - 1 - BitVec.toNat 65535#32).testBit i = false := by
        have : ∀ i : Fin 16, (2 ^ 32 - 1 - BitVec.toNat 65535#32).testBit i.val = false := by decide +kernel
        exact this ⟨i, hi⟩
      rw [this]; simp
    · have : m.testBit i = false := Nat.testBit_lt_two_pow (Nat.lt_of_lt_of_le (show m < 2 ^ 16 from hm) (Nat.pow_le_pow_right (by decide) hi))
      rw [this]; simp
  rw [BitVec.and_or_distrib_left, h2, BitVec.or_zero]
theorem band_t {a b : Bool} (h1 : a = true) (h2 : b = true) : (a && b) = true := by rw [h1, h2]; rfl
theorem band_f1 {a b : Bool} (h1 : a = false) : (a && b) = false := by rw [h1]; rfl
theorem band_f2 {a b : Bool} (h2 : b = false) : (a && b) = false := by rw [h2, Bool.and_false]
theorem band_l {a b : Bool} (h : (a && b) = true) : a = true := by cases a <;> simp_all
theorem band_r {a b : Bool} (h : (a && b) = true) : b = true := by cases a <;> simp_all
