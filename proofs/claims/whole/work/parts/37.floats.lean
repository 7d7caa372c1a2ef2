/-! FLOATS: no answer of idealBurnDown or meanVelocity is NaN (tried one by one in the numbers' own arithmetic). -/
def fok (r : UInt32) : Bool := decide (r &&& 0x7fffffff ≤ 0x7f800000) && decide (FP.f2d r &&& 0x7fffffffffffffff ≤ 0x7ff0000000000000)
def dok (r : UInt64) : Bool := decide (r &&& 0x7fffffffffffffff ≤ 0x7ff0000000000000)
set_option maxRecDepth 100000 in
theorem fl_mul : ((List.range 209).all fun a => (List.range 11).all fun d => decide (FP.fmul (FP.i2f (nI a)) (FP.i2f (nI d)) = FP.i2f (nI (a * d)))) = true := by decide +kernel
set_option maxRecDepth 100000 in
theorem fl_div_1 : ((List.range 209).all fun a => fok (FP.fdiv (FP.i2f (nI a)) (FP.i2f (nI 1)))) = true := by decide +kernel
set_option maxRecDepth 100000 in
theorem fl_div_2 : ((List.range 417).all fun a => fok (FP.fdiv (FP.i2f (nI a)) (FP.i2f (nI 2)))) = true := by decide +kernel
set_option maxRecDepth 100000 in
theorem fl_div_3 : ((List.range 625).all fun a => fok (FP.fdiv (FP.i2f (nI a)) (FP.i2f (nI 3)))) = true := by decide +kernel
set_option maxRecDepth 100000 in
theorem fl_div_4 : ((List.range 833).all fun a => fok (FP.fdiv (FP.i2f (nI a)) (FP.i2f (nI 4)))) = true := by decide +kernel
set_option maxRecDepth 100000 in
theorem fl_div_5 : ((List.range 1041).all fun a => fok (FP.fdiv (FP.i2f (nI a)) (FP.i2f (nI 5)))) = true := by decide +kernel
set_option maxRecDepth 100000 in
theorem fl_div_6 : ((List.range 1249).all fun a => fok (FP.fdiv (FP.i2f (nI a)) (FP.i2f (nI 6)))) = true := by decide +kernel
set_option maxRecDepth 100000 in
theorem fl_div_7 : ((List.range 1457).all fun a => fok (FP.fdiv (FP.i2f (nI a)) (FP.i2f (nI 7)))) = true := by decide +kernel
set_option maxRecDepth 100000 in
theorem fl_div_8 : ((List.range 1665).all fun a => fok (FP.fdiv (FP.i2f (nI a)) (FP.i2f (nI 8)))) = true := by decide +kernel
set_option maxRecDepth 100000 in
theorem fl_div_9 : ((List.range 1873).all fun a => fok (FP.fdiv (FP.i2f (nI a)) (FP.i2f (nI 9)))) = true := by decide +kernel
set_option maxRecDepth 100000 in
theorem fl_div_10 : ((List.range 2081).all fun a => fok (FP.fdiv (FP.i2f (nI a)) (FP.i2f (nI 10)))) = true := by decide +kernel
set_option maxRecDepth 100000 in
theorem fl_num : ((List.range 2081).all fun a => fok (FP.i2f (nI a))) = true := by decide +kernel
set_option maxRecDepth 100000 in
theorem dl_div_1 : ((List.range 209).all fun a => dok (FP.ddiv (FP.i2d (nI a)) (FP.i2d (nI 1)))) = true := by decide +kernel
set_option maxRecDepth 100000 in
theorem dl_div_2 : ((List.range 417).all fun a => dok (FP.ddiv (FP.i2d (nI a)) (FP.i2d (nI 2)))) = true := by decide +kernel
set_option maxRecDepth 100000 in
theorem dl_div_3 : ((List.range 625).all fun a => dok (FP.ddiv (FP.i2d (nI a)) (FP.i2d (nI 3)))) = true := by decide +kernel
set_option maxRecDepth 100000 in
theorem dl_div_4 : ((List.range 833).all fun a => dok (FP.ddiv (FP.i2d (nI a)) (FP.i2d (nI 4)))) = true := by decide +kernel
set_option maxRecDepth 100000 in
theorem dl_div_5 : ((List.range 1041).all fun a => dok (FP.ddiv (FP.i2d (nI a)) (FP.i2d (nI 5)))) = true := by decide +kernel
set_option maxRecDepth 100000 in
theorem dl_div_6 : ((List.range 1249).all fun a => dok (FP.ddiv (FP.i2d (nI a)) (FP.i2d (nI 6)))) = true := by decide +kernel
set_option maxRecDepth 100000 in
theorem dl_div_7 : ((List.range 1457).all fun a => dok (FP.ddiv (FP.i2d (nI a)) (FP.i2d (nI 7)))) = true := by decide +kernel
set_option maxRecDepth 100000 in
theorem dl_div_8 : ((List.range 1665).all fun a => dok (FP.ddiv (FP.i2d (nI a)) (FP.i2d (nI 8)))) = true := by decide +kernel
set_option maxRecDepth 100000 in
theorem dl_div_9 : ((List.range 1873).all fun a => dok (FP.ddiv (FP.i2d (nI a)) (FP.i2d (nI 9)))) = true := by decide +kernel
theorem rng_at {n : Nat} {P : Nat → Bool} (h : ((List.range n).all P) = true) {k : Nat} (hk : k < n) : P k = true := List.all_eq_true.mp h k (List.mem_range.mpr hk)
theorem fl_div : ∀ c a : Nat, 1 ≤ c → c ≤ 10 → a ≤ 208 * c → fok (FP.fdiv (FP.i2f (nI a)) (FP.i2f (nI c))) = true := by
  intro c a h1 hc ha
  rcases (by omega : c = 1 ∨ c = 2 ∨ c = 3 ∨ c = 4 ∨ c = 5 ∨ c = 6 ∨ c = 7 ∨ c = 8 ∨ c = 9 ∨ c = 10) with rfl | rfl | rfl | rfl | rfl | rfl | rfl | rfl | rfl | rfl
  · exact rng_at fl_div_1 (by omega)
  · exact rng_at fl_div_2 (by omega)
  · exact rng_at fl_div_3 (by omega)
  · exact rng_at fl_div_4 (by omega)
  · exact rng_at fl_div_5 (by omega)
  · exact rng_at fl_div_6 (by omega)
  · exact rng_at fl_div_7 (by omega)
  · exact rng_at fl_div_8 (by omega)
  · exact rng_at fl_div_9 (by omega)
  · exact rng_at fl_div_10 (by omega)
theorem dl_div : ∀ c a : Nat, 1 ≤ c → c ≤ 9 → a ≤ 208 * c → dok (FP.ddiv (FP.i2d (nI a)) (FP.i2d (nI c))) = true := by
  intro c a h1 hc ha
  rcases (by omega : c = 1 ∨ c = 2 ∨ c = 3 ∨ c = 4 ∨ c = 5 ∨ c = 6 ∨ c = 7 ∨ c = 8 ∨ c = 9) with rfl | rfl | rfl | rfl | rfl | rfl | rfl | rfl | rfl
  · exact rng_at dl_div_1 (by omega)
  · exact rng_at dl_div_2 (by omega)
  · exact rng_at dl_div_3 (by omega)
  · exact rng_at dl_div_4 (by omega)
  · exact rng_at dl_div_5 (by omega)
  · exact rng_at dl_div_6 (by omega)
  · exact rng_at dl_div_7 (by omega)
  · exact rng_at dl_div_8 (by omega)
  · exact rng_at dl_div_9 (by omega)
