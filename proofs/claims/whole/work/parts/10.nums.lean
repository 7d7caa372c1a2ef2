/-! NUMBERS: comparisons as facts of Int, arithmetic with its answer named. -/
def bz (b : Bool) : Int32 := if b then 1 else 0
theorem bz0 {b : Bool} (h : bz b = 0) : b = false := by
  cases b
  · rfl
  · exact absurd h (by decide)
theorem bz1 {b : Bool} (h : ¬ bz b = 0) : b = true := by
  cases b
  · exact absurd rfl h
  · rfl
theorem bz01 (b : Bool) : bz b = 0 ∨ bz b = 1 := by cases b <;> simp [bz]
theorem bz_t {b : Bool} (h : b = true) : bz b = 1 := by rw [h]; rfl
theorem bz_f {b : Bool} (h : b = false) : bz b = 0 := by rw [h]; rfl
theorem cLt {x y : Int32} {a b : Int} (hx : x.toInt = a) (hy : y.toInt = b) (h : x < y) : a < b := by rw [← hx, ← hy]; exact Int32.lt_iff_toInt_lt.mp h
theorem cNlt {x y : Int32} {a b : Int} (hx : x.toInt = a) (hy : y.toInt = b) (h : ¬ x < y) : b ≤ a := by rw [← hx, ← hy]; exact Int.not_lt.mp (fun z => h (Int32.lt_iff_toInt_lt.mpr z))
theorem cLe {x y : Int32} {a b : Int} (hx : x.toInt = a) (hy : y.toInt = b) (h : x ≤ y) : a ≤ b := by rw [← hx, ← hy]; exact Int32.le_iff_toInt_le.mp h
theorem cNle {x y : Int32} {a b : Int} (hx : x.toInt = a) (hy : y.toInt = b) (h : ¬ x ≤ y) : b < a := by rw [← hx, ← hy]; exact Int.not_le.mp (fun z => h (Int32.le_iff_toInt_le.mpr z))
theorem cEq {x y : Int32} {a b : Int} (hx : x.toInt = a) (hy : y.toInt = b) (h : x = y) : a = b := by rw [← hx, ← hy, h]
theorem cNe {x y : Int32} {a b : Int} (hx : x.toInt = a) (hy : y.toInt = b) (h : ¬ x = y) : a ≠ b := by rw [← hx, ← hy]; exact fun z => h (Int32.toInt_inj.mp z)
theorem t0 : (0 : Int32).toInt = 0 := rfl
theorem tm1 : (-1 : Int32).toInt = -1 := rfl
theorem tN {n : Nat} (h : n < 2147483648) : (nI n).toInt = (n : Int) := nI_toInt h
/-- an assignment's number: one down -/
theorem tA {n : Nat} (h : n < 2147483648) : (nI n - 1).toInt = (n : Int) - 1 := by
  have := pk_sub_toInt (a := n) (b := 1)
  rcases Nat.lt_or_ge n 1073741824 with q | q
  · exact pk_sub_toInt q (by decide)
  · have e : nI n - 1 = nI (n - 1) := pk_sub (a := n) (b := 1) (by omega)
    rw [e, nI_toInt (by omega)]
    omega
theorem aOf {n : Nat} : nI (n + 1) - 1 = nI n := nI_pred n
theorem a0 : nI 0 - 1 = -1 := by decide
theorem of_toInt {x : Int32} {n : Nat} (h : x.toInt = (n : Int)) (hn : n < 2147483648) : x = nI n := Int32.toInt_inj.mp (by rw [h, nI_toInt hn])
/-- a number of a range -/
def inR (n : Nat) (x : Int32) : Bool := decide (0 ≤ x.toInt ∧ x.toInt < n)
theorem inR_t {n : Nat} {x : Int32} (h : inR n x = true) : 0 ≤ x.toInt ∧ x.toInt < n := of_decide_eq_true h
theorem inR_f {n : Nat} {x : Int32} (h : inR n x = false) : ¬ (0 ≤ x.toInt ∧ x.toInt < n) := of_decide_eq_false h
theorem inR_ex {n : Nat} {x : Int32} (hn : n ≤ 2147483647) (h : inR n x = true) : ∃ j : Nat, j < n ∧ x = nI j := by
  obtain ⟨h1, h2⟩ := inR_t h
  exact ⟨x.toInt.toNat, by omega, of_toInt (by omega) (by omega)⟩
theorem inR_nI {n j : Nat} (hj : j < 2147483648) : inR n (nI j) = decide (j < n) := by
  unfold inR
  rw [nI_toInt hj]
  by_cases h : j < n
  · rw [decide_eq_true (by omega), decide_eq_true h]
  · rw [decide_eq_false (by omega), decide_eq_false h]
section KA
variable {p : Program} {l : Launch} {e : Env} {R : Room} {s : State} {m : MethodId} {args : Array Value} {below : List Frame} {meth : Method} {c : Code} {H : Heap} {locs : List Loc} {cells slots : Nat} {Q : State → Prop}
variable {cc : ByteArray} {pc : Nat} {ls : Array Slot} {rest : List Value} {x y v : Int32}
theorem w_iadd (hx : p.tables.exec = Jvm.exec) (hb : c.code = cc) (hd : decode cc pc = .ok (.iadd, 1)) (hv : x + y = v) (k : W p l e R s m args below meth c H locs cells slots Q (F0 m (pc + 1) ls (.int v :: rest))) : W p l e R s m args below meth c H locs cells slots Q (F0 m pc ls (.int y :: .int x :: rest)) := lv_iadd hx hb hd (by rw [hv]; exact k)
theorem w_isub (hx : p.tables.exec = Jvm.exec) (hb : c.code = cc) (hd : decode cc pc = .ok (.isub, 1)) (hv : x - y = v) (k : W p l e R s m args below meth c H locs cells slots Q (F0 m (pc + 1) ls (.int v :: rest))) : W p l e R s m args below meth c H locs cells slots Q (F0 m pc ls (.int y :: .int x :: rest)) := lv_isub hx hb hd (by rw [hv]; exact k)
theorem w_imul (hx : p.tables.exec = Jvm.exec) (hb : c.code = cc) (hd : decode cc pc = .ok (.imul, 1)) (hv : x * y = v) (k : W p l e R s m args below meth c H locs cells slots Q (F0 m (pc + 1) ls (.int v :: rest))) : W p l e R s m args below meth c H locs cells slots Q (F0 m pc ls (.int y :: .int x :: rest)) := lv_imul hx hb hd (by rw [hv]; exact k)
theorem w_idiv (hx : p.tables.exec = Jvm.exec) (hb : c.code = cc) (hd : decode cc pc = .ok (.idiv, 1)) (hne : ¬ y = 0) (hv : x / y = v) (k : W p l e R s m args below meth c H locs cells slots Q (F0 m (pc + 1) ls (.int v :: rest))) : W p l e R s m args below meth c H locs cells slots Q (F0 m pc ls (.int y :: .int x :: rest)) := lv_idiv hx hb hd hne (by rw [hv]; exact k)
theorem w_irem (hx : p.tables.exec = Jvm.exec) (hb : c.code = cc) (hd : decode cc pc = .ok (.irem, 1)) (hne : ¬ y = 0) (hv : x - x / y * y = v) (k : W p l e R s m args below meth c H locs cells slots Q (F0 m (pc + 1) ls (.int v :: rest))) : W p l e R s m args below meth c H locs cells slots Q (F0 m pc ls (.int y :: .int x :: rest)) := lv_irem hx hb hd hne (by rw [hv]; exact k)
theorem w_iand (hx : p.tables.exec = Jvm.exec) (hb : c.code = cc) (hd : decode cc pc = .ok (.iand, 1)) (hv : x &&& y = v) (k : W p l e R s m args below meth c H locs cells slots Q (F0 m (pc + 1) ls (.int v :: rest))) : W p l e R s m args below meth c H locs cells slots Q (F0 m pc ls (.int y :: .int x :: rest)) := lv_iand hx hb hd (by rw [hv]; exact k)
theorem w_ior (hx : p.tables.exec = Jvm.exec) (hb : c.code = cc) (hd : decode cc pc = .ok (.ior, 1)) (hv : x ||| y = v) (k : W p l e R s m args below meth c H locs cells slots Q (F0 m (pc + 1) ls (.int v :: rest))) : W p l e R s m args below meth c H locs cells slots Q (F0 m pc ls (.int y :: .int x :: rest)) := lv_ior hx hb hd (by rw [hv]; exact k)
theorem w_ixor (hx : p.tables.exec = Jvm.exec) (hb : c.code = cc) (hd : decode cc pc = .ok (.ixor, 1)) (hv : x ^^^ y = v) (k : W p l e R s m args below meth c H locs cells slots Q (F0 m (pc + 1) ls (.int v :: rest))) : W p l e R s m args below meth c H locs cells slots Q (F0 m pc ls (.int y :: .int x :: rest)) := lv_ixor hx hb hd (by rw [hv]; exact k)
theorem w_ishl (hx : p.tables.exec = Jvm.exec) (hb : c.code = cc) (hd : decode cc pc = .ok (.ishl, 1)) (hv : x <<< (y &&& 31) = v) (k : W p l e R s m args below meth c H locs cells slots Q (F0 m (pc + 1) ls (.int v :: rest))) : W p l e R s m args below meth c H locs cells slots Q (F0 m pc ls (.int y :: .int x :: rest)) := lv_ishl hx hb hd (by rw [hv]; exact k)
theorem w_ishr (hx : p.tables.exec = Jvm.exec) (hb : c.code = cc) (hd : decode cc pc = .ok (.ishr, 1)) (hv : x >>> (y &&& 31) = v) (k : W p l e R s m args below meth c H locs cells slots Q (F0 m (pc + 1) ls (.int v :: rest))) : W p l e R s m args below meth c H locs cells slots Q (F0 m pc ls (.int y :: .int x :: rest)) := lv_ishr hx hb hd (by rw [hv]; exact k)
end KA
/-! bits -/
theorem n_or (a b : Nat) : nI a ||| nI b = nI (a ||| b) := by
  apply Int32.toBitVec_inj.mp
  show (nI a).toBitVec ||| (nI b).toBitVec = (nI (a ||| b)).toBitVec
  have h : ∀ n, (nI n).toBitVec = BitVec.ofNat 32 n := fun n => rfl
  rw [h, h, h]
  exact (BitVec.ofNat_or ..).symm
theorem n_and (a b : Nat) : nI a &&& nI b = nI (a &&& b) := by
  apply Int32.toBitVec_inj.mp
  show (nI a).toBitVec &&& (nI b).toBitVec = (nI (a &&& b)).toBitVec
  have h : ∀ n, (nI n).toBitVec = BitVec.ofNat 32 n := fun n => rfl
  rw [h, h, h]
  exact (BitVec.ofNat_and ..).symm
theorem n_xor (a b : Nat) : nI a ^^^ nI b = nI (a ^^^ b) := by
  apply Int32.toBitVec_inj.mp
  show (nI a).toBitVec ^^^ (nI b).toBitVec = (nI (a ^^^ b)).toBitVec
  have h : ∀ n, (nI n).toBitVec = BitVec.ofNat 32 n := fun n => rfl
  rw [h, h, h]
  exact (BitVec.ofNat_xor ..).symm
theorem n_shl1 {j : Nat} (h : j < 31) : (1 : Int32) <<< (nI j &&& 31) = nI (2 ^ j) := by
  have : ∀ j : Fin 31, (1 : Int32) <<< (nI j.val &&& 31) = nI (2 ^ j.val) := by decide +kernel
  exact this ⟨j, h⟩
theorem n_ushr_s : ∀ j : Fin 31, (((nI j.val).toUInt32 &&& Int32.toUInt32 31).toBitVec % 32).toNat = j.val := by decide +kernel
theorem n_shr_s : ∀ j : Fin 31, ((nI j.val &&& 31).toBitVec.smod 32).toNat = j.val := by decide +kernel
theorem n_ushr {m j : Nat} (hm : m < 2147483648) (hj : j < 31) : ((nI m).toUInt32 >>> ((nI j).toUInt32 &&& Int32.toUInt32 31)).toInt32 = nI (m / 2 ^ j) := pk_ushrN (by omega) _ j (n_ushr_s ⟨j, hj⟩)
theorem n_shr {m j : Nat} (hm : m < 2147483648) (hj : j < 31) : nI m >>> (nI j &&& 31) = nI (m / 2 ^ j) := pk_shrN hm _ j (n_shr_s ⟨j, hj⟩)
theorem n_and1 (m : Nat) : nI m &&& 1 = nI (m % 2) := by
  have := n_and m 1
  rw [Nat.and_one_is_mod] at this
  exact this
theorem n_bit (m j : Nat) : m / 2 ^ j % 2 = if m.testBit j then 1 else 0 := by
  rw [Nat.testBit_eq_decide_div_mod_eq]
  have := Nat.mod_two_eq_zero_or_one (m / 2 ^ j)
  split <;> simp_all <;> omega
