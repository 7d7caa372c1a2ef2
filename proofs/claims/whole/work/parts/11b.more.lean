theorem mwc_916 : Jvm.Cond.constant "java/lang/Integer" 265 1431655765 ∈ LW := lwm 916 (by decide +kernel) rfl
theorem mwc_917 : Jvm.Cond.constant "java/lang/Integer" 266 858993459 ∈ LW := lwm 917 (by decide +kernel) rfl
theorem mwc_918 : Jvm.Cond.constant "java/lang/Integer" 267 252645135 ∈ LW := lwm 918 (by decide +kernel) rfl
theorem mwc_201 : Jvm.Cond.constant "java/lang/StringUTF16" 20 1073741823 ∈ LW := lwm 201 (by decide +kernel) rfl
theorem mwc_367 : Jvm.Cond.constant "jdk/internal/util/ArraysSupport" 200 2147483639 ∈ LW := lwm 367 (by decide +kernel) rfl
theorem mwc_371 : Jvm.Cond.constant "java/lang/AbstractStringBuilder" 39 2147483647 ∈ LW := lwm 371 (by decide +kernel) rfl
theorem nb_t {b : Bool} (h : b = false) : (!b) = true := by rw [h]; rfl
theorem nb_f {b : Bool} (h : b = true) : (!b) = false := by rw [h]; rfl
theorem nb_i {b : Bool} (h : (!b) = true) : b = false := by cases b <;> simp_all
theorem n_min {a b : Nat} (ha : a < 2147483648) (hb : b < 2147483648) : (if nI b < nI a then nI b else nI a) = nI (min a b) := by
  by_cases h : b < a
  · rw [if_pos (nI_lt h ha), Nat.min_eq_right (by omega)]
  · rw [if_neg (nI_nlt (by omega) hb), Nat.min_eq_left (by omega)]
theorem n_max {a b : Nat} (ha : a < 2147483648) (hb : b < 2147483648) : (if nI a < nI b then nI b else nI a) = nI (max a b) := by
  by_cases h : a < b
  · rw [if_pos (nI_lt h hb), Nat.max_eq_right (by omega)]
  · rw [if_neg (nI_nlt (by omega) ha), Nat.max_eq_left (by omega)]
theorem n_max0 {a b : Nat} (ha : a < 1073741824) (hb : b < 1073741824) : (if nI a - nI b < nI 0 then nI 0 else nI a - nI b) = nI (a - b) := by
  by_cases h : a < b
  · rw [if_pos (show nI a - nI b < nI 0 from pk_sneg hb h), show a - b = 0 by omega]
  · rw [pk_sub (by omega), if_neg (nI_nlt (by omega) (by omega))]
/-- a set without another -/
def andn (m q : Nat) : Nat := m &&& (65535 ^^^ q)
theorem n_andn {m q : Nat} (hm : m < 65536) (hq : q < 65536) : nI m &&& (nI q ^^^ (-1)) = nI (andn m q) := by
  unfold andn
  apply Int32.toBitVec_inj.mp
  apply BitVec.eq_of_toNat_eq
  have e1 : (nI m &&& (nI q ^^^ (-1))).toBitVec = (nI m).toBitVec &&& ((nI q).toBitVec ^^^ (-1 : Int32).toBitVec) := rfl
  have hx : 65535 ^^^ q < 65536 := Nat.xor_lt_two_pow (n := 16) (by decide) hq
  have hy : m &&& (65535 ^^^ q) < 65536 := Nat.and_lt_two_pow (n := 16) _ hx
  rw [e1, BitVec.toNat_and, BitVec.toNat_xor, pk_tn (n := m) (by omega), pk_tn (n := q) (by omega), pk_tn (n := m &&& (65535 ^^^ q)) (by omega)]
  apply Nat.eq_of_testBit_eq
  intro i
  rw [Nat.testBit_and, Nat.testBit_and, Nat.testBit_xor, Nat.testBit_xor]
  rcases Nat.lt_or_ge i 16 with hi | hi
  · have h1 : ((-1 : Int32).toBitVec.toNat).testBit i = true := by
      have : ∀ i : Fin 16, ((-1 : Int32).toBitVec.toNat).testBit i.val = true := by decide +kernel
      exact this ⟨i, hi⟩
    have h2 : (65535).testBit i = true := by
      have : ∀ i : Fin 16, (65535).testBit i.val = true := by decide +kernel
      exact this ⟨i, hi⟩
    rw [h1, h2, Bool.xor_comm]
  · have : m.testBit i = false := Nat.testBit_lt_two_pow (Nat.lt_of_lt_of_le (show m < 2 ^ 16 from hm) (Nat.pow_le_pow_right (by decide) hi))
    rw [this]; simp
theorem andn_lt {m q : Nat} (hm : m < 65536) : andn m q < 65536 := Nat.lt_of_le_of_lt Nat.and_le_left hm
theorem or16 {a b : Nat} (ha : a < 65536) (hb : b < 65536) : a ||| b < 65536 := Nat.or_lt_two_pow (n := 16) ha hb
theorem or31 {a b : Nat} (ha : a < 2147483648) (hb : b < 2147483648) : a ||| b < 2147483648 := Nat.or_lt_two_pow (n := 31) ha hb
theorem andl31 {a b : Nat} (ha : a < 2147483648) : a &&& b < 2147483648 := Nat.lt_of_le_of_lt Nat.and_le_left ha
theorem and16 {a b : Nat} (ha : a < 65536) : a &&& b < 65536 := Nat.lt_of_le_of_lt Nat.and_le_left ha
/-- how many bits, as Integer.bitCount counts them -/
def bitc (x : Int32) : Int32 :=
  let i1 := x - ((x.toUInt32 >>> ((nI 1).toUInt32 &&& Int32.toUInt32 31)).toInt32 &&& 1431655765)
  let i2 := (i1 &&& 858993459) + ((i1.toUInt32 >>> ((nI 2).toUInt32 &&& Int32.toUInt32 31)).toInt32 &&& 858993459)
  let i3 := (i2 + (i2.toUInt32 >>> ((nI 4).toUInt32 &&& Int32.toUInt32 31)).toInt32) &&& 252645135
  let i4 := i3 + (i3.toUInt32 >>> ((nI 8).toUInt32 &&& Int32.toUInt32 31)).toInt32
  let i5 := i4 + (i4.toUInt32 >>> ((nI 16).toUInt32 &&& Int32.toUInt32 31)).toInt32
  i5 &&& nI 63
def bP (x : Nat) : Nat := sumUp (fun k => if x.testBit k then 1 else 0) 8
def bt1 (x : Nat) : Nat := x - (x / 2 &&& 85)
def bt2 (y : Nat) : Nat := (y &&& 51) + (y / 4 &&& 51)
theorem and_split (x M : Nat) : x &&& M = 256 * (x / 256 &&& M / 256) + (x % 256 &&& M % 256) := by
  have h1 : (x &&& M) / 256 = x / 256 &&& M / 256 := Nat.and_div_two_pow (n := 8)
  have h2 : (x &&& M) % 256 = (x % 256) &&& (M % 256) := Nat.and_mod_two_pow (n := 8)
  rw [← h1, ← h2]
  omega
theorem bq1 : ∀ c : Fin 2, ∀ b : Fin 256, (b.val / 2 + 128 * c.val &&& 85) = (b.val / 2 &&& 85) := by decide +kernel
theorem bq2 : ∀ c : Fin 4, ∀ y : Fin 256, (y.val / 4 + 64 * c.val &&& 51) = (y.val / 4 &&& 51) := by decide +kernel
theorem bq3 : ∀ x : Fin 256, (x.val / 2 &&& 85) ≤ x.val ∧ bt2 (bt1 x.val) % 16 ≤ 4 ∧ bt2 (bt1 x.val) / 16 ≤ 4 ∧ bt2 (bt1 x.val) % 16 + bt2 (bt1 x.val) / 16 = bP x.val ∧ bP x.val ≤ 8 := by decide +kernel
theorem pcn_split {a b : Nat} (hb : b < 256) : pcn (256 * a + b) = bP a + bP b := by
  have h1 : ∀ k, k < 8 → (256 * a + b).testBit k = b.testBit k := fun k hk => by
    have := Nat.testBit_two_pow_mul_add a (i := 8) (b := b) hb k
    rw [show (2 : Nat) ^ 8 = 256 from rfl] at this
    rw [this, if_pos hk]
  have h2 : ∀ k, k < 8 → (256 * a + b).testBit (k + 8) = a.testBit k := fun k hk => by
    have := Nat.testBit_two_pow_mul_add a (i := 8) (b := b) hb (k + 8)
    rw [show (2 : Nat) ^ 8 = 256 from rfl] at this
    rw [this, if_neg (by omega), show k + 8 - 8 = k by omega]
  unfold pcn bP
  simp only [sumUp]
  rw [h1 0 (by omega), h1 1 (by omega), h1 2 (by omega), h1 3 (by omega), h1 4 (by omega), h1 5 (by omega), h1 6 (by omega), h1 7 (by omega)]
  rw [h2 0 (by omega), h2 1 (by omega), h2 2 (by omega), h2 3 (by omega), h2 4 (by omega), h2 5 (by omega), h2 6 (by omega), h2 7 (by omega)]
  omega
theorem bitc_nI {m : Nat} (hm : m < 65536) : bitc (nI m) = nI (pcn m) := by
  obtain ⟨a, b, ha, hb, rfl⟩ : ∃ a b, a < 256 ∧ b < 256 ∧ m = 256 * a + b := ⟨m / 256, m % 256, by omega, by omega, by omega⟩
  obtain ⟨a1, a2, a3, a4, a5⟩ := bq3 ⟨a, ha⟩
  obtain ⟨b1, b2, b3, b4, b5⟩ := bq3 ⟨b, hb⟩
  simp only at a1 a2 a3 a4 a5 b1 b2 b3 b4 b5
  have e1 : ((256 * a + b) / 2 &&& 1431655765) = 256 * (a / 2 &&& 85) + (b / 2 &&& 85) := by
    rw [and_split, show (256 * a + b) / 2 / 256 = a / 2 by omega, show (256 * a + b) / 2 % 256 = b / 2 + 128 * (a % 2) by omega, show 1431655765 % 256 = 85 from rfl, bq1 ⟨a % 2, by omega⟩ ⟨b, hb⟩]
    congr 2
    rw [and_split (a / 2) (1431655765 / 256), show a / 2 / 256 = 0 by omega, Nat.zero_and, show a / 2 % 256 = a / 2 by omega, show 1431655765 / 256 % 256 = 85 from rfl]
    omega
  have s1 : (256 * a + b) - ((256 * a + b) / 2 &&& 1431655765) = 256 * bt1 a + bt1 b := by
    rw [e1]
    unfold bt1
    omega
  have hA : bt1 a < 256 := by unfold bt1; omega
  have hB : bt1 b < 256 := by unfold bt1; omega
  have m51 : ∀ x, x < 256 → (x &&& 858993459 / 256) = (x &&& 51) := fun x hx => by
    rw [and_split x (858993459 / 256), show x / 256 = 0 by omega, Nat.zero_and, show x % 256 = x by omega, show 858993459 / 256 % 256 = 51 from rfl]
    omega
  have e2 : (256 * bt1 a + bt1 b &&& 858993459) + ((256 * bt1 a + bt1 b) / 4 &&& 858993459) = 256 * bt2 (bt1 a) + bt2 (bt1 b) := by
    rw [and_split (256 * bt1 a + bt1 b), show (256 * bt1 a + bt1 b) / 256 = bt1 a by omega, show (256 * bt1 a + bt1 b) % 256 = bt1 b by omega]
    rw [and_split ((256 * bt1 a + bt1 b) / 4), show (256 * bt1 a + bt1 b) / 4 / 256 = bt1 a / 4 by omega, show (256 * bt1 a + bt1 b) / 4 % 256 = bt1 b / 4 + 64 * (bt1 a % 4) by omega]
    rw [show 858993459 % 256 = 51 from rfl, show (bt1 b / 4 + 64 * (bt1 a % 4) &&& 51) = (bt1 b / 4 &&& 51) from bq2 ⟨bt1 a % 4, by omega⟩ ⟨bt1 b, hB⟩, m51 _ hA, m51 _ (by omega)]
    unfold bt2
    omega
  generalize hu : bt2 (bt1 a) = u at *
  generalize hv : bt2 (bt1 b) = v at *
  have e3 : (256 * u + v + (256 * u + v) / 16 &&& 252645135) = 256 * bP a + bP b := by
    rw [and_split]
    have f1 : (256 * u + v + (256 * u + v) / 16) / 256 = u + u / 16 := by omega
    have f2 : (256 * u + v + (256 * u + v) / 16) % 256 % 16 = bP b := by omega
    rw [f1, show 252645135 % 256 = 15 from rfl]
    have g1 : ∀ x, (x &&& 15) = x % 16 := fun x => Nat.and_two_pow_sub_one_eq_mod x 4
    rw [g1, f2, and_split (u + u / 16), show (u + u / 16) / 256 = 0 by omega, Nat.zero_and, show (u + u / 16) % 256 = u + u / 16 by omega, show 252645135 / 256 % 256 = 15 from rfl, g1]
    omega
  have r1 : (nI (256 * a + b) - (((nI (256 * a + b)).toUInt32 >>> ((nI 1).toUInt32 &&& Int32.toUInt32 31)).toInt32 &&& 1431655765)) = nI (256 * bt1 a + bt1 b) := by
    rw [n_ushr (by omega) (by decide), show (1431655765 : Int32) = nI 1431655765 from rfl, n_and, pk_sub (by rw [show (2 : Nat) ^ 1 = 2 from rfl, e1]; omega), show (2 : Nat) ^ 1 = 2 from rfl, s1]
  have r2 : (nI (256 * bt1 a + bt1 b) &&& 858993459) + (((nI (256 * bt1 a + bt1 b)).toUInt32 >>> ((nI 2).toUInt32 &&& Int32.toUInt32 31)).toInt32 &&& 858993459) = nI (256 * u + v) := by
    rw [n_ushr (by omega) (by decide), show (858993459 : Int32) = nI 858993459 from rfl, n_and, n_and, nI_add, show (2 : Nat) ^ 2 = 4 from rfl, e2]
  have r3 : (nI (256 * u + v) + ((nI (256 * u + v)).toUInt32 >>> ((nI 4).toUInt32 &&& Int32.toUInt32 31)).toInt32) &&& 252645135 = nI (256 * bP a + bP b) := by
    rw [n_ushr (by omega) (by decide), nI_add, show (252645135 : Int32) = nI 252645135 from rfl, n_and, show (2 : Nat) ^ 4 = 16 from rfl, e3]
  have r4 : nI (256 * bP a + bP b) + ((nI (256 * bP a + bP b)).toUInt32 >>> ((nI 8).toUInt32 &&& Int32.toUInt32 31)).toInt32 = nI (256 * bP a + bP b + bP a) := by
    rw [n_ushr (by omega) (by decide), nI_add, show (2 : Nat) ^ 8 = 256 from rfl, show (256 * bP a + bP b) / 256 = bP a by omega]
  have r5 : nI (256 * bP a + bP b + bP a) + ((nI (256 * bP a + bP b + bP a)).toUInt32 >>> ((nI 16).toUInt32 &&& Int32.toUInt32 31)).toInt32 = nI (256 * bP a + bP b + bP a) := by
    rw [n_ushr (by omega) (by decide), nI_add, show (2 : Nat) ^ 16 = 65536 from rfl, show (256 * bP a + bP b + bP a) / 65536 = 0 by omega, Nat.add_zero]
  unfold bitc
  simp only [r1, r2, r3, r4, r5]
  rw [n_and, show 63 = 2 ^ 6 - 1 from rfl, Nat.and_two_pow_sub_one_eq_mod, pcn_split hb]
  congr 1
  omega
theorem bset_1 (B : kBd) (f j v : Nat) : (bSet B f j v).1 f j = v := by simp [bSet, va_up]
theorem kSm_put {B : kBd} (hz : kSm B) (f : Nat) {v : Nat} (hv : v < 65536) : kSm (bPut B f v) := by
  refine ⟨hz.1, fun g => ?_⟩
  show va_up B.2 f v g < 65536
  unfold va_up
  split
  · exact hv
  · exact hz.2 g
theorem kSm_set {B : kBd} (hz : kSm B) (f j : Nat) {v : Nat} (hv : v < 65536) : kSm (bSet B f j v) := by
  refine ⟨fun g k => ?_, hz.2⟩
  show va_up B.1 f (va_up (B.1 f) j v) g k < 65536
  unfold va_up
  split
  · show (if k = j then v else B.1 f k) < 65536
    split
    · exact hv
    · exact hz.1 f k
  · exact hz.1 g k
theorem orUp_t {f : Nat → Nat} {i acc v : Nat} (ha : acc = orUp f i) (hv : f i = v) : acc ||| v = orUp f (i + 1) := by rw [ha, ← hv]; rfl
theorem orUp_z {f : Nat → Nat} {i acc : Nat} (ha : acc = orUp f i) (hv : f i = 0) : acc = orUp f (i + 1) := by rw [ha, orUp, hv, Nat.or_zero]
theorem sumUp_t {f : Nat → Nat} {i acc v : Nat} (ha : acc = sumUp f i) (hv : f i = v) : acc + v = sumUp f (i + 1) := by rw [ha, ← hv]; rfl
theorem sumUp_z {f : Nat → Nat} {i acc : Nat} (ha : acc = sumUp f i) (hv : f i = 0) : acc = sumUp f (i + 1) := by rw [ha, sumUp, hv, Nat.add_zero]
theorem acc_up {a i : Nat} (h : a ≤ i * 65536) : a ≤ (i + 1) * 65536 := Nat.le_trans h (Nat.mul_le_mul_right _ (Nat.le_succ i))
theorem acc_in {a i v : Nat} (h : a ≤ i * 65536) (hv : v < 65536) : a + v ≤ (i + 1) * 65536 := by rw [Nat.succ_mul]; exact Nat.add_le_add h (Nat.le_of_lt hv)
