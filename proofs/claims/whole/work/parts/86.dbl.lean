/-! THE LAW: the two cases with a double. -/
theorem n64_nat {x : UInt64} (h : vf_n64 x) : x.toNat % 2 ^ 63 ≤ 2047 * 2 ^ 52 := by
  unfold vf_n64 at h
  have h1 := UInt64.le_iff_toNat_le.mp h
  rw [UInt64.toNat_and] at h1
  have e1 : (0x7fffffffffffffff : UInt64).toNat = 2 ^ 63 - 1 := by decide
  have e2 : (0x7ff0000000000000 : UInt64).toNat = 2047 * 2 ^ 52 := by decide
  rw [e1, e2, Nat.and_two_pow_sub_one_eq_mod] at h1
  exact h1
theorem dat_nn {x : UInt64} (h : vf_n64 x) : FP.Core.decode FP.Core.b64 x.toNat ≠ .nan := by
  have h1 := n64_nat h
  unfold FP.Core.decode
  have hE : FP.Core.fieldE FP.Core.b64 x.toNat = x.toNat / 2 ^ 52 % 2 ^ 11 := rfl
  have hT : FP.Core.fieldT FP.Core.b64 x.toNat = x.toNat % 2 ^ 52 := rfl
  have hX : FP.Core.b64.exps - 1 = 2047 := rfl
  rw [hE, hT, hX]
  by_cases c1 : x.toNat / 2 ^ 52 % 2 ^ 11 = 2047
  · rw [if_pos c1, if_pos (by omega)]
    exact fun z => by cases z
  · rw [if_neg c1]
    split
    · exact fun z => by cases z
    · exact fun z => by cases z
theorem cmp_s (a : Int) : compare a a = Ordering.eq := by simp [compare, compareOfLessAndEq]
theorem ord_s {d : FP.Core.Datum} (h : d ≠ .nan) : FP.Core.order d d = some .eq := by
  cases d with
  | nan => exact absurd rfl h
  | inf => exact congrArg some (cmp_s _)
  | fin s c q => exact congrArg some (cmp_s _)
theorem dcmp_s {x : UInt64} (h : vf_n64 x) (op : CmpOp) : Op.cmpValue (FP.dcmp x x) op = 0 := by
  have e : FP.dcmp x x = some .eq := ord_s (dat_nn h)
  rw [e]
  cases op <;> rfl
