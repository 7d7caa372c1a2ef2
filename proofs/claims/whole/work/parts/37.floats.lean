/-! FLOATS: no answer of idealBurnDown or meanVelocity is NaN (tried one by one in the numbers' own arithmetic). -/
def fok (r : UInt32) : Bool := decide (r &&& 0x7fffffff ≤ 0x7f800000) && decide (FP.f2d r &&& 0x7fffffffffffffff ≤ 0x7ff0000000000000)
def dok (r : UInt64) : Bool := decide (r &&& 0x7fffffffffffffff ≤ 0x7ff0000000000000)
set_option maxRecDepth 100000 in
theorem fl_mul : ((List.range 209).all fun a => (List.range 11).all fun d => decide (FP.fmul (FP.i2f (nI a)) (FP.i2f (nI d)) = FP.i2f (nI (a * d)))) = true := by decide +kernel
set_option maxRecDepth 100000 in
theorem fl_div : ((List.range 10).all fun c => (List.range 2081).all fun a => fok (FP.fdiv (FP.i2f (nI a)) (FP.i2f (nI (c + 1))))) = true := by decide +kernel
set_option maxRecDepth 100000 in
theorem fl_num : ((List.range 2081).all fun a => fok (FP.i2f (nI a))) = true := by decide +kernel
set_option maxRecDepth 100000 in
theorem dl_div : ((List.range 9).all fun c => (List.range 1873).all fun a => dok (FP.ddiv (FP.i2d (nI a)) (FP.i2d (nI (c + 1))))) = true := by decide +kernel
