/-! WHAT HOLDS OF EVERY BOARD, beside bI: kept by every command. -/
/-- blockers are stories that are there -/
def bQ (B : kBd) : Prop := ∀ k j, (B.1 2 k).testBit j = true → k < B.2 0 ∧ j < B.2 0
/-- what is planned is there -/
def bP9 (B : kBd) : Prop := ∀ k, (B.2 2).testBit k = true → k < B.2 0
def bY (B : kBd) : Prop := ∀ k, B.1 6 k ≤ 208
def bZ (B : kBd) : Prop := B.2 3 ≠ 0 → 1 ≤ B.2 4
/-- no cycles: a height -/
def bC (B : kBd) : Prop := ∃ rk : Nat → Nat, ∀ k j, (B.1 2 k).testBit j = true → rk j < rk k
def bA (B : kBd) : Prop := bI B ∧ bU B ∧ bV B ∧ bW B ∧ bQ B ∧ bP9 B ∧ bY B ∧ bZ B ∧ bC B
theorem bU_sub {B C : kBd} (h : bU B) (hs : ∀ d, C.1 4 d = B.1 4 d ∨ C.1 4 d = 0) : bU C := by
  intro a b ha hb h1 h2
  rcases hs a with e | e
  · rcases hs b with e2 | e2
    · rw [e] at h1 h2; rw [e2] at h2; exact h a b ha hb h1 h2
    · rw [e2] at h2; exact absurd h2 h1
  · exact absurd e h1
theorem bV_sub {B C : kBd} (h : bV B) (hn : C.2 1 = B.2 1) (hs : ∀ d, C.1 4 d = B.1 4 d ∨ C.1 4 d = 0) : bV C := by
  intro d hd
  rw [hn] at hd
  rcases hs d with e | e
  · rw [e]; exact h d hd
  · exact e
theorem bit0 (k : Nat) : (0 : Nat).testBit k = false := Nat.zero_testBit k
theorem or2 {a k j : Nat} (h : (a ||| 2 ^ k).testBit j = true) : a.testBit j = true ∨ j = k := by
  rw [Nat.testBit_or, Bool.or_eq_true] at h
  rcases h with h | h
  · exact Or.inl h
  · refine Or.inr ?_
    by_cases e : j = k
    · exact e
    · rw [Nat.testBit_two_pow_of_ne (fun z => e z.symm)] at h; exact Bool.noConfusion h
theorem andn_l {a q j : Nat} (h : (andn a q).testBit j = true) : a.testBit j = true := by
  unfold andn at h
  rw [Nat.testBit_and, Bool.and_eq_true] at h
  exact h.1
theorem bA_add {B : kBd} (h : bA B) {p : Nat} (hp : p ≤ 13) (hn : B.2 0 < 16) : bA (addB B p) := by
  obtain ⟨hI, hu, hv, hw, hq, hp9, hy, hz, rk, hc⟩ := h
  have e2 : ∀ k, (addB B p).1 2 k = if k = B.2 0 then 0 else B.1 2 k := fun k => rfl
  have en : (addB B p).2 0 = B.2 0 + 1 := rfl
  refine ⟨bI_add hI hp hn, hu, hv, hw, fun k j hb => ?_, fun k hb => ?_, hy, hz, rk, fun k j hb => ?_⟩
  · rw [e2] at hb
    by_cases c : k = B.2 0
    · rw [if_pos c, bit0] at hb; exact Bool.noConfusion hb
    · rw [if_neg c] at hb
      have := hq k j hb
      rw [en]; omega
  · have := hp9 k hb
    rw [en]; omega
  · rw [e2] at hb
    by_cases c : k = B.2 0
    · rw [if_pos c, bit0] at hb; exact Bool.noConfusion hb
    · rw [if_neg c] at hb
      exact hc k j hb
theorem bA_dev {B : kBd} (h : bA B) {p : Nat} (h1 : 1 ≤ p) (h4 : p ≤ 4) (hn : B.2 1 < 4) : bA (devB B p) := by
  obtain ⟨hI, hu, hv, hw, hq, hp9, hy, hz, hc⟩ := h
  have e4 : ∀ d, (devB B p).1 4 d = if d = B.2 1 then 0 else B.1 4 d := fun d => rfl
  have e3 : ∀ d, (devB B p).1 3 d = if d = B.2 1 then p else B.1 3 d := fun d => rfl
  have en : (devB B p).2 1 = B.2 1 + 1 := rfl
  refine ⟨bI_dev hI (by omega) hn, bU_sub hu (fun d => ?_), fun d hd => ?_, fun d hd => ?_, hq, hp9, hy, hz, hc⟩
  · rw [e4]
    by_cases c : d = B.2 1
    · rw [if_pos c]; exact Or.inr rfl
    · rw [if_neg c]; exact Or.inl rfl
  · rw [en] at hd
    rw [e4, if_neg (by omega)]
    exact hv d (by omega)
  · rw [en] at hd
    rw [e3]
    by_cases c : d = B.2 1
    · rw [if_pos c]; exact ⟨h1, h4⟩
    · rw [if_neg c]; exact hw d (by omega)
theorem bA_ubl {B : kBd} (h : bA B) {j k : Nat} (hj : j < B.2 0) : bA (ublB B j k) := by
  obtain ⟨hI, hu, hv, hw, hq, hp9, hy, hz, rk, hc⟩ := h
  have hn := hI.2.2.1
  have e2 : ∀ x y, ((ublB B j k).1 2 x).testBit y = true → (B.1 2 x).testBit y = true := by
    intro x y hb
    have e : (ublB B j k).1 2 x = if x = j then andn (B.1 2 j) (2 ^ k) else B.1 2 x := rfl
    rw [e] at hb
    by_cases c : x = j
    · rw [if_pos c] at hb; rw [c]; exact andn_l hb
    · rw [if_neg c] at hb; exact hb
  exact ⟨bI_row hI (Or.inl rfl) (show j < kLen 2 from (by show j < 16; omega)) (andn_lt (hI.1.1 2 j)), hu, hv, hw, fun x y hb => hq x y (e2 x y hb), hp9, hy, hz, rk, fun x y hb => hc x y (e2 x y hb)⟩
theorem bA_pl {B : kBd} (h : bA B) {k : Nat} (hk : k < B.2 0) : bA (bPut B 2 (B.2 2 ||| 2 ^ k)) := by
  obtain ⟨hI, hu, hv, hw, hq, hp9, hy, hz, hc⟩ := h
  have hn := hI.2.2.1
  refine ⟨bI_pl hI (or16 (hI.1.2 2) (p16 (by omega))), hu, hv, hw, hq, fun x hb => ?_, hy, hz, hc⟩
  rcases or2 (show (B.2 2 ||| 2 ^ k).testBit x = true from hb) with e | e
  · exact hp9 x e
  · rw [e]; exact hk
theorem bA_unpl {B : kBd} (h : bA B) {k : Nat} : bA (bPut B 2 (andn (B.2 2) (2 ^ k))) := by
  obtain ⟨hI, hu, hv, hw, hq, hp9, hy, hz, hc⟩ := h
  exact ⟨bI_pl hI (andn_lt (hI.1.2 2)), hu, hv, hw, hq, fun x hb => hp9 x (andn_l (show (andn (B.2 2) (2 ^ k)).testBit x = true from hb)), hy, hz, hc⟩
theorem bA_beg {B : kBd} (h : bA B) {q : Nat} (h1 : 1 ≤ q) (hq10 : q ≤ 10) (h7 : B.2 7 < 9) : bA (begB B q) := by
  obtain ⟨hI, hu, hv, hw, hq, hp9, hy, hz, hc⟩ := h
  exact ⟨bI_beg hI hq10 h7, hu, hv, hw, hq, hp9, hy, fun _ => h1, hc⟩
theorem asgOf_no {B : kBd} {k : Nat} (h : asgOf B k = 0) : ∀ d, d < 4 → B.1 4 d ≠ k + 1 := by
  unfold asgOf at h
  intro d hd
  by_cases c0 : B.1 4 0 = k + 1
  · rw [if_pos c0] at h; exact absurd h (by decide)
  · rw [if_neg c0] at h
    by_cases c1 : B.1 4 1 = k + 1
    · rw [if_pos c1] at h; exact absurd h (by decide)
    · rw [if_neg c1] at h
      by_cases c2 : B.1 4 2 = k + 1
      · rw [if_pos c2] at h; exact absurd h (by decide)
      · rw [if_neg c2] at h
        by_cases c3 : B.1 4 3 = k + 1
        · rw [if_pos c3] at h; exact absurd h (by decide)
        · match d, hd with
          | 0, _ => exact c0
          | 1, _ => exact c1
          | 2, _ => exact c2
          | 3, _ => exact c3
theorem bA_asg {B : kBd} (h : bA B) {k d : Nat} (hk : k < B.2 0) (hd : d < B.2 1) (h0 : asgOf B k = 0) : bA (bSet B 4 d (k + 1)) := by
  obtain ⟨hI, hu, hv, hw, hq, hp9, hy, hz, hc⟩ := h
  have hm := hI.2.2.2.1
  have e4 : ∀ x, (bSet B 4 d (k + 1)).1 4 x = if x = d then k + 1 else B.1 4 x := fun x => rfl
  have hno := asgOf_no h0
  refine ⟨bI_asg hI (by omega) hk, fun a b ha hb h1 h2 => ?_, fun x hx => ?_, hw, hq, hp9, hy, hz, hc⟩
  · rw [e4] at h1 h2
    rw [e4] at h2
    by_cases c1 : a = d
    · rw [if_pos c1] at h2
      by_cases c2 : b = d
      · rw [c1, c2]
      · rw [if_neg c2] at h2; exact absurd h2.symm (hno b hb)
    · rw [if_neg c1] at h1 h2
      by_cases c2 : b = d
      · rw [if_pos c2] at h2; exact absurd h2 (hno a ha)
      · rw [if_neg c2] at h2; exact hu a b ha hb h1 h2
  · have hx2 : B.2 1 ≤ x := hx
    rw [e4, if_neg (by omega)]; exact hv x hx2
theorem bA_free {B : kBd} (h : bA B) {d : Nat} (hd : d < 4) : bA (bSet B 4 d 0) := by
  obtain ⟨hI, hu, hv, hw, hq, hp9, hy, hz, hc⟩ := h
  have e4 : ∀ x, (bSet B 4 d 0).1 4 x = B.1 4 x ∨ (bSet B 4 d 0).1 4 x = 0 := by
    intro x
    have e : (bSet B 4 d 0).1 4 x = if x = d then 0 else B.1 4 x := rfl
    rw [e]
    by_cases c : x = d
    · rw [if_pos c]; exact Or.inr rfl
    · rw [if_neg c]; exact Or.inl rfl
  exact ⟨bI_asg hI hd (Nat.zero_le _), bU_sub hu e4, bV_sub hv rfl e4, hw, hq, hp9, hy, hz, hc⟩
theorem bA_re {B : kBd} (h : bA B) {j p : Nat} (hj : j < B.2 0) (hp : p ≤ 13) : bA (reB B j p) := by
  have hI' := bI_re h.1 hj hp
  obtain ⟨hI, hu, hv, hw, hq, hp9, hy, hz, hc⟩ := h
  unfold reB at hI' ⊢
  by_cases c : p - min (B.1 0 j - B.1 1 j) p = 0 ∧ 0 < asgOf B j ∧ asgOf B j - 1 < B.2 1
  · rw [if_pos c] at hI' ⊢
    have e4 : ∀ x, (bSet (bSet (bSet B 0 j p) 1 j (p - min (B.1 0 j - B.1 1 j) p)) 4 (asgOf B j - 1) 0).1 4 x = B.1 4 x ∨ (bSet (bSet (bSet B 0 j p) 1 j (p - min (B.1 0 j - B.1 1 j) p)) 4 (asgOf B j - 1) 0).1 4 x = 0 := by
      intro x
      have e : (bSet (bSet (bSet B 0 j p) 1 j (p - min (B.1 0 j - B.1 1 j) p)) 4 (asgOf B j - 1) 0).1 4 x = if x = asgOf B j - 1 then 0 else B.1 4 x := rfl
      rw [e]
      by_cases c : x = asgOf B j - 1
      · rw [if_pos c]; exact Or.inr rfl
      · rw [if_neg c]; exact Or.inl rfl
    exact ⟨hI', bU_sub hu e4, bV_sub hv rfl e4, hw, hq, hp9, hy, hz, hc⟩
  · rw [if_neg c] at hI' ⊢
    exact ⟨hI', hu, hv, hw, hq, hp9, hy, hz, hc⟩
theorem wst_keep (U : Nat) (x : kBd × Nat) (d f : Nat) (h1 : f ≠ 1) (h4 : f ≠ 4) : (wst U x d).1.1 f = x.1.1 f := by
  unfold wst
  split
  · split
    · show va_up (va_up x.1.1 1 _) 4 _ f = _
      simp only [va_up]
      rw [if_neg h4, if_neg h1]
    · show va_up x.1.1 1 _ f = _
      simp only [va_up]
      rw [if_neg h1]
  · rfl
theorem wkN_keep (U : Nat) (B : kBd) (f : Nat) (h1 : f ≠ 1) (h4 : f ≠ 4) : ∀ k, (wkN U B k).1.1 f = B.1 f
  | 0 => rfl
  | k + 1 => (wst_keep U _ k f h1 h4).trans (wkN_keep U B f h1 h4 k)
theorem wst_asg (U : Nat) (x : kBd × Nat) (d e : Nat) : (wst U x d).1.1 4 e = x.1.1 4 e ∨ (wst U x d).1.1 4 e = 0 := by
  unfold wst
  split
  · split
    · show (if e = d then 0 else x.1.1 4 e) = _ ∨ (if e = d then 0 else x.1.1 4 e) = 0
      by_cases c : e = d
      · rw [if_pos c]; exact Or.inr rfl
      · rw [if_neg c]; exact Or.inl rfl
    · exact Or.inl rfl
  · exact Or.inl rfl
theorem wkN_asg (U : Nat) (B : kBd) (e : Nat) : ∀ k, (wkN U B k).1.1 4 e = B.1 4 e ∨ (wkN U B k).1.1 4 e = 0
  | 0 => Or.inl rfl
  | k + 1 => by
    rcases wst_asg U (wkN U B k) k e with h | h
    · show (wst U (wkN U B k) k).1.1 4 e = _ ∨ (wst U (wkN U B k) k).1.1 4 e = 0
      rw [h]; exact wkN_asg U B e k
    · exact Or.inr h
theorem bA_wk {U : Nat} {B : kBd} (h : bA B) : bA (wkN U B 4).1 := by
  obtain ⟨hI, hu, hv, hw, hq, hp9, hy, hz, rk, hc⟩ := h
  have en := wk_num U B 4
  have e2 := wkN_keep U B 2 (by decide) (by decide) 4
  have e3 := wkN_keep U B 3 (by decide) (by decide) 4
  have e6 := wkN_keep U B 6 (by decide) (by decide) 4
  have e4 := fun e => wkN_asg U B e 4
  refine ⟨bI_wk hI 4 (Nat.le_refl _), bU_sub hu e4, bV_sub hv (by rw [en]) e4, fun d hd => ?_, fun k j hb => ?_, fun k hb => ?_, fun k => ?_, ?_, rk, fun k j hb => ?_⟩
  · rw [en] at hd; rw [e3]; exact hw d hd
  · rw [e2] at hb; rw [en]; exact hq k j hb
  · rw [en] at hb ⊢; exact hp9 k hb
  · rw [e6]; exact hy k
  · unfold bZ; rw [en]; exact hz
  · rw [e2] at hb; exact hc k j hb
theorem bA_day {B : kBd} (h : bA B) (h54 : B.2 5 < B.2 4) : bA (dayB B) := by
  have hI' := bI_day h.1 h54
  obtain ⟨-, hu, hv, hw, hq, hp9, hy, hz, hc⟩ := bA_wk (U := unf B) h
  exact ⟨hI', hu, hv, hw, hq, hp9, hy, hz, hc⟩
theorem bA_end {B : kBd} (h : bA B) (h7 : B.2 7 < 9) : bA (endB B) := by
  have hI' := bI_end h.1 h7
  have hpf := pfin_le h.1
  obtain ⟨hI, hu, hv, hw, hq, hp9, hy, hz, hc⟩ := h
  have e4 : ∀ x, (endB B).1 4 x = B.1 4 x ∨ (endB B).1 4 x = 0 := by
    intro x
    have e : (endB B).1 4 x = if x = 3 then 0 else if x = 2 then 0 else if x = 1 then 0 else if x = 0 then 0 else B.1 4 x := rfl
    rw [e]
    split
    · exact Or.inr rfl
    · split
      · exact Or.inr rfl
      · split
        · exact Or.inr rfl
        · split
          · exact Or.inr rfl
          · exact Or.inl rfl
  refine ⟨hI', bU_sub hu e4, bV_sub hv rfl e4, hw, hq, fun k hb => ?_, fun k => ?_, fun z => absurd rfl z, hc⟩
  · rw [show (endB B).2 2 = 0 from rfl, bit0] at hb; exact Bool.noConfusion hb
  · have e : (endB B).1 6 k = if k = B.2 7 then pfin B else B.1 6 k := rfl
    rw [e]
    split
    · exact hpf
    · exact hy k
/-! the class's sums and the reference's -/
theorem sumUp_cut {f : Nat → Nat} {n : Nat} (h : ∀ k, n ≤ k → f k = 0) : ∀ m, n ≤ m → sumUp f m = sumUp f n
  | 0, hm => by rw [show n = 0 by omega]
  | m + 1, hm => by
    by_cases c : n = m + 1
    · rw [c]
    · rw [sumUp, sumUp_cut h m (by omega), h m (by omega), Nat.add_zero]
theorem psum_pl {B : kBd} (hn : B.2 0 ≤ 16) (hp : bP9 B) (c : Nat) : psum B c = plS B c := by
  refine sumUp_cut (fun k hk => if_neg (fun z => ?_)) 16 hn
  have := hp k z
  omega
theorem pfin_pf {B : kBd} (hn : B.2 0 ≤ 16) (hp : bP9 B) : pfin B = pfS B (B.2 0) := by
  refine sumUp_cut (fun k hk => if_neg (fun z => ?_)) 16 hn
  have := hp k z.1
  omega
theorem pow_bit (k j : Nat) : (2 ^ k).testBit j = decide (k = j) := by
  by_cases h : k = j
  · rw [h, Nat.testBit_two_pow_self]; exact (decide_eq_true rfl).symm
  · rw [Nat.testBit_two_pow_of_ne h]; exact (decide_eq_false h).symm
theorem unf_bit (B : kBd) {j : Nat} (hj : j < 16) : (unf B).testBit j = true ↔ B.1 1 j ≠ 0 := by
  unfold unf
  rw [orUp_bit]
  constructor
  · rintro ⟨k, hk, h⟩
    by_cases c : 0 < B.1 1 k
    · rw [if_pos c, pow_bit] at h
      have e := of_decide_eq_true h
      rw [← e]; omega
    · rw [if_neg c, bit0] at h; exact Bool.noConfusion h
  · intro h
    exact ⟨j, hj, by rw [if_pos (by omega), pow_bit]; exact decide_eq_true rfl⟩
theorem opn_op {B : kBd} (hn : B.2 0 ≤ 16) (hq : bQ B) {k : Nat} (hk : k < B.2 0) : opn B k = opS B k := by
  unfold opn
  rw [if_pos hk]
  unfold pcn opS
  rw [sumUp_cut (n := B.2 0) (fun j hj => if_neg (fun z => ?_)) 16 hn]
  · refine sumUp_cong (fun j hj => ?_)
    rw [Nat.testBit_and]
    by_cases c : (B.1 2 k).testBit j = true ∧ B.1 1 j ≠ 0
    · rw [if_pos c, if_pos (band_t c.1 ((unf_bit B (by omega)).mpr c.2))]
    · rw [if_neg c, if_neg (fun z => c ⟨band_l z, (unf_bit B (by omega)).mp (band_r z)⟩)]
  · rw [Nat.testBit_and, Bool.and_eq_true] at z
    have := (hq k j z.1).2
    omega
theorem pcn_br {B : kBd} (hn : B.2 0 ≤ 16) (hq : bQ B) (k : Nat) : pcn (B.1 2 k) = brS B k := by
  unfold pcn brS
  refine sumUp_cut (fun j hj => if_neg (fun z => ?_)) 16 hn
  have := (hq k j z).2
  omega
theorem beg_S {B : kBd} (hn : B.2 0 ≤ 16) (hp : bP9 B) (q : Nat) : begS B q = begB B q := by
  have e1 : psum (bPut (bPut (bPut B 3 1) 4 q) 5 0) 0 = plS (bPut (bPut (bPut B 3 1) 4 q) 5 0) 0 := psum_pl (B := bPut (bPut (bPut B 3 1) 4 q) 5 0) hn hp 0
  have e2 : ∀ v, psum (bPut (bPut (bPut (bPut B 3 1) 4 q) 5 0) 6 v) 1 = plS (bPut (bPut (bPut (bPut B 3 1) 4 q) 5 0) 6 v) 1 := fun v => psum_pl (B := bPut (bPut (bPut (bPut B 3 1) 4 q) 5 0) 6 v) hn hp 1
  show begS B q = bSet (bPut (bPut (bPut (bPut B 3 1) 4 q) 5 0) 6 (psum (bPut (bPut (bPut B 3 1) 4 q) 5 0) 0)) 5 0 (psum (bPut (bPut (bPut (bPut B 3 1) 4 q) 5 0) 6 (psum (bPut (bPut (bPut B 3 1) 4 q) 5 0) 0)) 1)
  rw [e2, e1]
  rfl
/-- barred and blocked are the same -/
theorem brd_bit {B : kBd} (hn : B.2 0 ≤ 16) {k : Nat} (hk : k < B.2 0) : (brd B).testBit k = true ↔ 0 < opS B k := by
  unfold brd
  rw [orUp_bit]
  constructor
  · rintro ⟨j, hj, h⟩
    by_cases c : 0 < opS B j
    · rw [if_pos c, pow_bit] at h
      rw [← of_decide_eq_true h]; exact c
    · rw [if_neg c, bit0] at h; exact Bool.noConfusion h
  · intro h
    exact ⟨k, hk, by rw [if_pos h, pow_bit]; exact decide_eq_true rfl⟩
theorem sumUp_pos {f : Nat → Nat} : ∀ n, 0 < sumUp f n ↔ ∃ k, k < n ∧ 0 < f k
  | 0 => by simp [sumUp]
  | n + 1 => by
    rw [sumUp]
    constructor
    · intro h
      by_cases c : 0 < f n
      · exact ⟨n, by omega, c⟩
      · obtain ⟨k, h1, h2⟩ := (sumUp_pos (f := f) n).mp (by omega)
        exact ⟨k, by omega, h2⟩
    · rintro ⟨k, h1, h2⟩
      by_cases c : k = n
      · rw [c] at h2; omega
      · have := (sumUp_pos (f := f) n).mpr ⟨k, by omega, h2⟩
        omega
theorem blk_0 {B : kBd} (hn : B.2 0 ≤ 16) (hz : kSm B) (hq : bQ B) {k : Nat} (hk : k < B.2 0) : (brd B).testBit k = false ↔ B.1 2 k &&& unf B = 0 := by
  rw [← Bool.not_eq_true, brd_bit hn hk]
  unfold opS
  rw [sumUp_pos]
  constructor
  · intro h
    apply Nat.eq_of_testBit_eq
    intro j
    rw [bit0, Nat.testBit_and]
    cases c : (B.1 2 k).testBit j
    · rfl
    · have hj := (hq k j c).2
      rw [Bool.true_and]
      cases d : (unf B).testBit j
      · rfl
      · exact absurd ⟨j, hj, by rw [if_pos ⟨c, (unf_bit B (by omega)).mp d⟩]; decide⟩ h
  · rintro h ⟨j, hj, h2⟩
    by_cases c : (B.1 2 k).testBit j = true ∧ B.1 1 j ≠ 0
    · have : (B.1 2 k &&& unf B).testBit j = true := by
        rw [Nat.testBit_and, c.1, (unf_bit B (by omega)).mpr c.2]; rfl
      rw [h, bit0] at this; exact Bool.noConfusion this
    · rw [if_neg c] at h2; exact absurd h2 (by decide)
theorem ws_M {B : kBd} (hn : B.2 0 ≤ 16) (hz : kSm B) (hq : bQ B) (x : kBd × Nat) (hx2 : x.1.1 2 = B.1 2) (ha : ∀ d, x.1.1 4 d ≤ B.2 0) (hxn : x.1.2 0 = B.2 0) (d : Nat) : wsM (brd B) x d = wst (unf B) x d := by
  have had := ha d
  have e : (0 < x.1.1 4 d ∧ (brd B).testBit (x.1.1 4 d - 1) = false) ↔ (0 < x.1.1 4 d ∧ x.1.1 4 d - 1 < x.1.2 0 ∧ x.1.1 2 (x.1.1 4 d - 1) &&& unf B = 0) := by
    rw [hx2, hxn]
    constructor
    · rintro ⟨h1, h2⟩
      exact ⟨h1, by omega, (blk_0 hn hz hq (by omega)).mp h2⟩
    · rintro ⟨h1, h2, h3⟩
      exact ⟨h1, (blk_0 hn hz hq (by omega)).mpr h3⟩
  unfold wsM wst
  by_cases c : 0 < x.1.1 4 d ∧ (brd B).testBit (x.1.1 4 d - 1) = false
  · rw [if_pos c, if_pos (e.mp c)]
  · rw [if_neg c, if_neg (fun z => c (e.mpr z))]
theorem wk_M {B : kBd} (h : bA B) : ∀ d, wkM B d = wkN (unf B) B d
  | 0 => rfl
  | d + 1 => by
    obtain ⟨hI, hu, hv, hw, hq, -⟩ := id h
    show wsM (brd B) (wkM B d) d = wst (unf B) (wkN (unf B) B d) d
    rw [wk_M h d]
    refine ws_M hI.2.2.1 hI.1 hq _ (wkN_keep _ _ 2 (by decide) (by decide) d) (fun e => ?_) (by rw [wk_num]) d
    have ha := hI.2.2.2.2.2.2.2.2.2.2.1 e
    rcases wkN_asg (unf B) B e d with c | c <;> rw [c] <;> omega
theorem wk_4 {B : kBd} (h : bA B) : ∀ m, wkN (unf B) B (B.2 1 + m) = wkN (unf B) B (B.2 1)
  | 0 => rfl
  | m + 1 => by
    show wst (unf B) (wkN (unf B) B (B.2 1 + m)) (B.2 1 + m) = _
    rw [wk_4 h m]
    unfold wst
    refine if_neg (fun z => ?_)
    have h1 := h.2.2.1 (B.2 1 + m) (by omega)
    have h2 := z.1
    rcases wkN_asg (unf B) B (B.2 1 + m) (B.2 1) with c | c <;> rw [c] at h2 <;> omega
theorem wkM_4 {B : kBd} (h : bA B) : wkM B (B.2 1) = wkN (unf B) B 4 := by
  have hm := h.1.2.2.2.1
  rw [wk_M h, ← wk_4 h (4 - B.2 1), show B.2 1 + (4 - B.2 1) = 4 by omega]
theorem day_S {B : kBd} (h : bA B) : dayS B = dayB B := by
  have h9 := bA_wk (U := unf B) h
  have e : ∀ v, psum (bPut (wkN (unf B) B 4).1 5 v) 1 = plS (bPut (wkN (unf B) B 4).1 5 v) 1 := fun v => psum_pl (B := bPut (wkN (unf B) B 4).1 5 v) h9.1.2.2.1 h9.2.2.2.2.2.1 1
  unfold dayS
  rw [wkM_4 h, ← e]
  rfl
theorem clP_0 {B : kBd} (hz : kSm B) (hp : bP9 B) (hn : B.2 0 ≤ 16) : clP B (B.2 0) = 0 := by
  have h : ∀ n k, k < n → (clP B n).testBit k = false := by
    intro n
    induction n with
    | zero => intro k hk; exact absurd hk (Nat.not_lt_zero k)
    | succ n ih =>
      intro k hk
      show (andn (clP B n) (2 ^ n)).testBit k = false
      unfold andn
      rw [Nat.testBit_and, Nat.testBit_xor, pow_bit]
      by_cases c : n = k
      · rw [decide_eq_true c]
        cases h16 : Nat.testBit 65535 k
        · have hbig : (clP B n).testBit k = false := by
            have hle : ∀ m, (clP B m) < 65536 := by
              intro m
              induction m with
              | zero => exact hz.2 2
              | succ m ihm => exact andn_lt ihm
            refine Nat.testBit_lt_two_pow (Nat.lt_of_lt_of_le (show clP B n < 2 ^ 16 from hle n) (Nat.pow_le_pow_right (by decide) ?_))
            rcases Nat.lt_or_ge k 16 with z | z
            · rw [(by decide : ∀ i, i < 16 → Nat.testBit 65535 i = true) k z] at h16; exact Bool.noConfusion h16
            · exact z
          rw [hbig]; rfl
        · simp
      · rw [ih k (by omega)]; rfl
  have hsub : ∀ n k, (clP B n).testBit k = true → (B.2 2).testBit k = true := by
    intro n
    induction n with
    | zero => exact fun k h => h
    | succ n ih => exact fun k h => ih k (andn_l h)
  apply Nat.eq_of_testBit_eq
  intro k
  rw [bit0]
  cases c : (clP B (B.2 0)).testBit k
  · rfl
  · have h1 := hp k (hsub _ k c)
    rw [h _ k h1] at c; exact Bool.noConfusion c
theorem frP_4 {C : kBd} (d : Nat) : ∀ n, (frP C n).1 4 d = if d < n then 0 else C.1 4 d
  | 0 => by rw [if_neg (Nat.not_lt_zero d)]; rfl
  | n + 1 => by
    show (if (frP C n).1 4 n = 0 then frP C n else bSet (frP C n) 4 n 0).1 4 d = _
    have ih := frP_4 (C := C) d n
    by_cases c : (frP C n).1 4 n = 0
    · rw [if_pos c]
      by_cases e : d = n
      · subst e; rw [c, if_pos (by omega)]
      · rw [ih]
        by_cases e2 : d < n
        · rw [if_pos e2, if_pos (by omega)]
        · rw [if_neg e2, if_neg (by omega)]
    · rw [if_neg c, bS1]
      by_cases e : d = n
      · rw [if_pos ⟨rfl, e⟩, if_pos (by omega)]
      · rw [if_neg (fun z => e z.2), ih]
        by_cases e2 : d < n
        · rw [if_pos e2, if_pos (by omega)]
        · rw [if_neg e2, if_neg (by omega)]
theorem frP_k {C : kBd} (g : Nat) (hg : g ≠ 4) : ∀ n, (frP C n).1 g = C.1 g ∧ (frP C n).2 = C.2
  | 0 => ⟨rfl, rfl⟩
  | n + 1 => by
    show (if (frP C n).1 4 n = 0 then frP C n else bSet (frP C n) 4 n 0).1 g = _ ∧ (if (frP C n).1 4 n = 0 then frP C n else bSet (frP C n) 4 n 0).2 = _
    have ih := frP_k (C := C) g hg n
    by_cases c : (frP C n).1 4 n = 0
    · rw [if_pos c]; exact ih
    · rw [if_neg c]
      refine ⟨?_, ih.2⟩
      show va_up (frP C n).1 4 _ g = _
      simp only [va_up]
      rw [if_neg hg]; exact ih.1
theorem end_S {B : kBd} (h : bA B) : endS B = endB B := by
  obtain ⟨hI, hu, hv, hw, hq, hp9, hy, hz, hc⟩ := h
  have hn := hI.2.2.1
  have hm := hI.2.2.2.1
  have e0 := clP_0 hI.1 hp9 hn
  have eC4 : ∀ d, (endC B).1 4 d = if d < B.2 1 then 0 else B.1 4 d := fun d => frP_4 (C := bPut B 2 (clP B (B.2 0))) d (B.2 1)
  have eCg : ∀ g, g ≠ 4 → (endC B).1 g = B.1 g := fun g hg => (frP_k (C := bPut B 2 (clP B (B.2 0))) g hg (B.2 1)).1
  have eC2 : (endC B).2 = (bPut B 2 0).2 := by rw [← e0]; exact (frP_k (C := bPut B 2 (clP B (B.2 0))) 0 (by decide) (B.2 1)).2
  have e7 : (endC B).2 7 = B.2 7 := by rw [eC2]; rfl
  refine Prod.ext (funext fun g => funext fun d => ?_) (funext fun f => ?_)
  · show va_up (endC B).1 6 (va_up ((endC B).1 6) ((endC B).2 7) (pfS B (B.2 0))) g d = (endB B).1 g d
    rw [e7, ← pfin_pf hn hp9]
    simp only [va_up]
    by_cases c6 : g = 6
    · subst c6
      rw [if_pos rfl, eCg 6 (by decide)]
      rfl
    · rw [if_neg c6]
      by_cases c4 : g = 4
      · subst c4
        rw [eC4]
        have e : (endB B).1 4 d = if d = 3 then 0 else if d = 2 then 0 else if d = 1 then 0 else if d = 0 then 0 else B.1 4 d := rfl
        rw [e]
        by_cases cd : d < B.2 1
        · rw [if_pos cd]
          have : d = 3 ∨ d = 2 ∨ d = 1 ∨ d = 0 := by omega
          rcases this with z | z | z | z <;> subst z <;> rfl
        · rw [if_neg cd, hv d (by omega)]
          split
          · rfl
          · split
            · rfl
            · split
              · rfl
              · split <;> rfl
      · rw [eCg g c4]
        show B.1 g d = va_up (va_up (va_up (va_up (va_up B.1 6 _) 4 _) 4 _) 4 _) 4 _ g d
        simp only [va_up]
        rw [if_neg c4, if_neg c4, if_neg c4, if_neg c4, if_neg c6]
  · have h1 : (bPut (bPut (bSet (endC B) 6 ((endC B).2 7) (pfS B (B.2 0))) 7 ((bSet (endC B) 6 ((endC B).2 7) (pfS B (B.2 0))).2 7 + 1)) 3 0).2 f = if f = 3 then 0 else if f = 7 then (endC B).2 7 + 1 else (endC B).2 f := rfl
    show (bPut (bPut (bSet (endC B) 6 ((endC B).2 7) (pfS B (B.2 0))) 7 ((bSet (endC B) 6 ((endC B).2 7) (pfS B (B.2 0))).2 7 + 1)) 3 0).2 f = (endB B).2 f
    rw [h1, e7, eC2]
    have h2 : (endB B).2 f = if f = 2 then 0 else if f = 3 then 0 else if f = 7 then B.2 7 + 1 else B.2 f := rfl
    have h3 : (bPut B 2 0).2 f = if f = 2 then 0 else B.2 f := rfl
    rw [h2, h3]
    by_cases c2 : f = 2
    · subst c2; rfl
    · rw [if_neg c2, if_neg c2]
theorem pwork_S {B : kBd} (h : bA B) : nI (plS B 0) - nI (plS B 1) = nI (pwork B) := by
  obtain ⟨hI, hu, hv, hw, hq, hp9, hy, hz, hc⟩ := h
  have hn := hI.2.2.1
  have e := pw_eq hI.2.2.2.2.2.2.2.2.1
  rw [psum_pl hn hp9, psum_pl hn hp9] at e
  rw [pk_sub (by omega), show plS B 0 - plS B 1 = pwork B by omega]
