/-! DAYS NEEDED: by recursion, by the reference's order, on trial: the same. -/
theorem rdD_1 {B : kBd} {g : Nat → Nat} {st : Nat} (ha : asgOf B st ≠ 0) : rdD B g st 0 = 1 := if_neg ha
theorem ndF_rd {B : kBd} {g : Nat → Nat} {j : Nat} (hj : j < B.2 0) : ∀ f k w, k ≤ B.2 0 → B.2 0 - k < f → rdD B g j k = w + 1 → ndF B j g f k w = rdD B g j (B.2 0)
  | 0, k, w, _, h, _ => absurd h (Nat.not_lt_zero _)
  | f + 1, k, w, h1, h2, h3 => by
    unfold ndF
    by_cases c : k < B.2 0
    · rw [if_pos c]
      have hs : rdD B g j (k + 1) = if rdD B g j k = 0 then 0 else if (B.1 2 j).testBit k then (if g k = 0 then 0 else max (rdD B g j k) (g k)) else rdD B g j k := rfl
      rw [h3, if_neg (Nat.succ_ne_zero w)] at hs
      by_cases d : (B.1 2 j).testBit k = true
      · rw [if_pos ⟨hj, d⟩]
        rw [if_pos d] at hs
        by_cases e : g k = 0
        · rw [if_pos e]
          rw [if_pos e] at hs
          have := rdD_0 hs (B.2 0 - (k + 1))
          rw [show k + 1 + (B.2 0 - (k + 1)) = B.2 0 by omega] at this
          exact this.symm
        · rw [if_neg e]
          rw [if_neg e] at hs
          exact ndF_rd hj f (k + 1) (max w (g k - 1)) c (by omega) (by rw [hs]; omega)
      · rw [if_neg (fun z => d z.2)]
        rw [if_neg d] at hs
        exact ndF_rd hj f (k + 1) w c (by omega) hs
    · rw [if_neg c, ← h3, show k = B.2 0 by omega]
theorem spd_is {B : kBd} (hv : bV B) (hw : bW B) {j : Nat} (ha : asgOf B j ≠ 0) : spdOn B j = B.1 3 (asgOf B j - 1) ∧ 1 ≤ B.1 3 (asgOf B j - 1) ∧ B.1 3 (asgOf B j - 1) ≤ 4 := by
  have h1 := asg_there hv ha
  have h2 := hw _ h1
  refine ⟨?_, h2⟩
  unfold spdOn
  rw [if_pos ⟨by omega, h1⟩]
theorem ndN_V {B : kBd} (h : bA B) {j : Nat} (hj : j < B.2 0) (f : Nat) : ndN B (f + 1) j = ndV B (ndN B f) j := by
  obtain ⟨hI, -, hv, hw, -⟩ := h
  have hn := hI.2.2.1
  unfold ndV
  conv => lhs; unfold ndN
  by_cases c : B.1 1 j = 0
  · rw [if_pos ⟨hj, c⟩, if_pos c]
  · rw [if_neg (fun z => c z.2), if_neg c]
    by_cases ha : asgOf B j = 0
    · have e : spdOn B j = 0 := by unfold spdOn; rw [if_neg (fun z => by omega)]
      have e2 : rdD B (ndN B f) j (B.2 0) = 0 := by
        have := rdD_0 (B := B) (g := ndN B f) (st := j) (k := 0) (if_pos ha) (B.2 0)
        rw [Nat.zero_add] at this; exact this
      rw [if_pos (Or.inr e), if_pos e2]
    · obtain ⟨e, e1, e4⟩ := spd_is hv hw ha
      have e2 := ndF_rd (g := ndN B f) hj 17 0 0 (Nat.zero_le _) (by omega) (rdD_1 ha)
      rw [if_neg (by rintro (z | z); exact z hj; omega), e2, e]
      by_cases d : rdD B (ndN B f) j (B.2 0) = 0
      · rw [if_pos d, if_pos d]
      · rw [if_neg d, if_neg d]; omega
theorem rdD_cong {B : kBd} {g g' : Nat → Nat} {st : Nat} : ∀ n, (∀ k, k < n → (B.1 2 st).testBit k = true → g k = g' k) → rdD B g st n = rdD B g' st n
  | 0, _ => rfl
  | n + 1, h => by
    unfold rdD
    rw [rdD_cong n (fun k hk => h k (by omega))]
    by_cases c : (B.1 2 st).testBit n = true
    · rw [if_pos c, if_pos c, h n (by omega) c]
    · rw [if_neg c, if_neg c]
theorem ndV_cong {B : kBd} {g g' : Nat → Nat} {st : Nat} (h : ∀ k, k < B.2 0 → (B.1 2 st).testBit k = true → g k = g' k) : ndV B g st = ndV B g' st := by
  unfold ndV
  rw [rdD_cong (B.2 0) h]
theorem ndN_st {B : kBd} (h : bA B) : ∀ r j, j < B.2 0 → rk0 B j ≤ r → ∀ f f', rk0 B j < f → rk0 B j < f' → ndN B f j = ndN B f' j := by
  obtain ⟨hI, -, -, -, hq, -, -, -, hc⟩ := id h
  intro r
  induction r with
  | zero =>
    intro j hj hr f f' hf hf'
    obtain ⟨f1, rfl⟩ : ∃ f1, f = f1 + 1 := ⟨f - 1, by omega⟩
    obtain ⟨f2, rfl⟩ : ∃ f2, f' = f2 + 1 := ⟨f' - 1, by omega⟩
    rw [ndN_V h hj, ndN_V h hj]
    refine ndV_cong (fun k hk hb => ?_)
    have := rk0_lt hq hI.2.2.1 hc hb
    omega
  | succ r ih =>
    intro j hj hr f f' hf hf'
    obtain ⟨f1, rfl⟩ : ∃ f1, f = f1 + 1 := ⟨f - 1, by omega⟩
    obtain ⟨f2, rfl⟩ : ∃ f2, f' = f2 + 1 := ⟨f' - 1, by omega⟩
    rw [ndN_V h hj, ndN_V h hj]
    refine ndV_cong (fun k hk hb => ?_)
    have := rk0_lt hq hI.2.2.1 hc hb
    exact ih k hk (by omega) f1 f2 (by omega) (by omega)
def ndT (B : kBd) (j : Nat) : Nat := ndN B 16 j
theorem ndT_eq {B : kBd} (h : bA B) {j : Nat} (hj : j < B.2 0) : ndT B j = ndV B (ndT B) j := by
  obtain ⟨hI, -, -, -, hq, -, -, -, hc⟩ := id h
  have h1 : ndT B j = ndV B (ndN B 15) j := ndN_V h hj 15
  rw [h1]
  refine ndV_cong (fun k hk hb => ?_)
  have h2 := rk0_lt hq hI.2.2.1 hc hb
  have h3 := rk0_b hq hI.2.2.1 hc hj
  have hn := hI.2.2.1
  exact ndN_st h (rk0 B k) k hk (Nat.le_refl _) 15 16 (by omega) (by omega)
/-! the reference's order -/
theorem cm_sub (B : kBd) : ∀ n k, (cmN B n).testBit k = true → (cmN B (n + 1)).testBit k = true := fun n k h => or_bit.mpr (Or.inl h)
theorem frd_sp {B : kBd} {c : Nat} (h : frd B c ≠ 0) : frd B c - 1 < B.2 0 ∧ c.testBit (frd B c - 1) = false ∧ andn (B.1 2 (frd B c - 1)) c = 0 := by
  rcases frdN_spec B c 17 0 with e | ⟨j, -, e, h2, h3, -⟩
  · exact absurd e h
  · have e' : frd B c = j + 1 := e
    rw [e', Nat.add_sub_cancel]
    exact ⟨h2, h3.1, h3.2⟩
theorem cm_ge {B : kBd} (hR : bR B) : ∀ n, n ≤ B.2 0 → n ≤ cntN (cmN B n) (B.2 0)
  | 0, _ => Nat.zero_le _
  | n + 1, hn => by
    obtain ⟨h1, h2, -⟩ := frd_sp (hR n hn)
    have := cntN_lt (a := cmN B n) (b := cmN B (n + 1)) (cm_sub B n) h2 (or_bit.mpr (Or.inr Nat.testBit_two_pow_self)) (n := B.2 0) h1
    have := cm_ge hR n (by omega)
    omega
theorem cm_all {B : kBd} (hR : bR B) {k : Nat} (hk : k < B.2 0) : (cmN B (B.2 0)).testBit k = true := cntN_all (B.2 0) (cm_ge hR (B.2 0) (Nat.le_refl _)) k hk
theorem neN_ok {B : kBd} (h : bA B) (g0 : Nat → Nat) : ∀ n, n ≤ B.2 0 → ∀ k, (cmN B n).testBit k = true → neN B g0 n k = ndT B k
  | 0, _, k, hk => by rw [show cmN B 0 = 0 from rfl, bit0] at hk; exact Bool.noConfusion hk
  | n + 1, hn, k, hk => by
    have hR := bA_R h
    obtain ⟨h1, h2, h3⟩ := frd_sp (hR n hn)
    have hn16 := h.1.2.2.1
    show (if k = frd B (cmN B n) - 1 then ndV B (neN B g0 n) (frd B (cmN B n) - 1) else neN B g0 n k) = ndT B k
    by_cases e : k = frd B (cmN B n) - 1
    · rw [if_pos e, e, ndT_eq h h1]
      exact ndV_cong (fun x hx hb => neN_ok h g0 n (by omega) x (andn_sub h3 hb (by omega)))
    · rw [if_neg e]
      have hk' : (cmN B n ||| 2 ^ (frd B (cmN B n) - 1)).testBit k = true := hk
      rcases or2 hk' with d | d
      · exact neN_ok h g0 n (by omega) k d
      · exact absurd d e
theorem neN_nd {B : kBd} (h : bA B) (g0 : Nat → Nat) {k : Nat} (hk : k < B.2 0) : neN B g0 (B.2 0) k = ndN B 16 k := neN_ok h g0 (B.2 0) (Nat.le_refl _) k (cm_all (bA_R h) hk)
/-! a day on trial -/
theorem asg_one {C : kBd} (hu : bU C) {d j : Nat} (hd : d < 4) (h : C.1 4 d = j + 1) : asgOf C j = d + 1 := by
  by_cases c : asgOf C j = 0
  · exact absurd h (asgOf_no c d hd)
  · obtain ⟨h1, h2⟩ := asgOf_is c
    have := hu (asgOf C j - 1) d h1 hd (by omega) (by rw [h2, h])
    omega
theorem asg_none {C : kBd} {j : Nat} (h : ∀ d, d < 4 → C.1 4 d ≠ j + 1) : asgOf C j = 0 := by
  by_cases c : asgOf C j = 0
  · exact c
  · obtain ⟨h1, h2⟩ := asgOf_is c
    exact absurd h2 (h _ h1)
theorem wst_other {U : Nat} {x : kBd × Nat} {k j : Nat} (h : x.1.1 4 k ≠ j + 1) : (wst U x k).1.1 1 j = x.1.1 1 j := by
  unfold wst
  by_cases c : 0 < x.1.1 4 k ∧ x.1.1 4 k - 1 < x.1.2 0 ∧ (x.1.1 2 (x.1.1 4 k - 1) &&& U) = 0
  · rw [if_pos c]
    have e : ∀ v, (bSet x.1 1 (x.1.1 4 k - 1) v).1 1 j = x.1.1 1 j := fun v => by
      rw [bS1, if_neg (by rintro ⟨-, z⟩; have := c.1; omega)]
    split
    · show (bSet (bSet x.1 1 _ _) 4 k 0).1 1 j = _
      rw [bS1, if_neg (by rintro ⟨z, -⟩; exact absurd z (by decide))]
      exact e _
    · exact e _
  · rw [if_neg c]
theorem wst_a {U : Nat} {x : kBd × Nat} {k d : Nat} (h : d ≠ k) : (wst U x k).1.1 4 d = x.1.1 4 d := by
  unfold wst
  split
  · split
    · show (bSet (bSet x.1 1 _ _) 4 k 0).1 4 d = _
      rw [bS1, if_neg (fun z => h z.2)]
      rfl
    · rfl
  · rfl
theorem wk_free {U : Nat} {T : kBd} {j : Nat} (h : ∀ d, d < 4 → T.1 4 d ≠ j + 1) : ∀ k, k ≤ 4 → (wkN U T k).1.1 1 j = T.1 1 j
  | 0, _ => rfl
  | k + 1, hk => by
    show (wst U (wkN U T k) k).1.1 1 j = _
    rw [wst_other, wk_free h k (by omega)]
    rcases wkN_asg U T k k with e | e
    · rw [e]; exact h k (by omega)
    · rw [e]; exact (Nat.succ_ne_zero j).symm
theorem wk_dev {U : Nat} {T : kBd} (hu : bU T) {j d : Nat} (hd : d < 4) (hj : j < T.2 0) (h : T.1 4 d = j + 1) : ∀ k, k ≤ 4 → (wkN U T k).1.1 1 j = (if d < k ∧ (T.1 2 j &&& U) = 0 then T.1 1 j - T.1 3 d else T.1 1 j) ∧ (wkN U T k).1.1 4 d = (if d < k ∧ (T.1 2 j &&& U) = 0 ∧ T.1 1 j - T.1 3 d = 0 then 0 else j + 1)
  | 0, _ => by
    rw [if_neg (fun z => Nat.not_lt_zero d z.1), if_neg (fun z => Nat.not_lt_zero d z.1)]
    exact ⟨rfl, h⟩
  | k + 1, hk => by
    obtain ⟨h1, h2⟩ := wk_dev (U := U) hu hd hj h k (by omega)
    show (wst U (wkN U T k) k).1.1 1 j = _ ∧ (wst U (wkN U T k) k).1.1 4 d = _
    by_cases e : d = k
    · subst e
      rw [if_neg (fun z => Nat.lt_irrefl d z.1)] at h1 h2
      have e2 := wkN_keep U T 2 (by decide) (by decide) d
      have e3 := wkN_keep U T 3 (by decide) (by decide) d
      have en := wk_num U T d
      unfold wst
      rw [h2, Nat.add_sub_cancel, e2, en, h1, e3]
      by_cases c : T.1 2 j &&& U = 0
      · rw [if_pos (show 0 < j + 1 ∧ j < T.2 0 ∧ T.1 2 j &&& U = 0 from ⟨Nat.succ_pos j, hj, c⟩), if_pos (show d < d + 1 ∧ T.1 2 j &&& U = 0 from ⟨Nat.lt_succ_self d, c⟩)]
        by_cases z : T.1 1 j - T.1 3 d = 0
        · rw [if_pos z, if_pos ⟨Nat.lt_succ_self d, c, z⟩]
          constructor
          · show (bSet (bSet (wkN U T d).1 1 j (T.1 1 j - T.1 3 d)) 4 d 0).1 1 j = _
            rw [bS1, if_neg (by rintro ⟨y, -⟩; exact absurd y (by decide)), bS1, if_pos ⟨rfl, rfl⟩]
          · show (bSet (bSet (wkN U T d).1 1 j (T.1 1 j - T.1 3 d)) 4 d 0).1 4 d = 0
            rw [bS1, if_pos ⟨rfl, rfl⟩]
        · rw [if_neg z, if_neg (fun y => z y.2.2)]
          constructor
          · show (bSet (wkN U T d).1 1 j (T.1 1 j - T.1 3 d)).1 1 j = _
            rw [bS1, if_pos ⟨rfl, rfl⟩]
          · show (bSet (wkN U T d).1 1 j (T.1 1 j - T.1 3 d)).1 4 d = j + 1
            rw [bS1, if_neg (by rintro ⟨y, -⟩; exact absurd y (by decide))]
            exact h2
      · rw [if_neg (fun z => c z.2.2), if_neg (fun z => c z.2), if_neg (fun z => c z.2.1)]
        exact ⟨h1, h2⟩
    · have ha : (wkN U T k).1.1 4 k ≠ j + 1 := by
        rcases wkN_asg U T k k with y | y
        · rw [y]
          intro z
          exact e (hu d k hd (by omega) (by omega) (by rw [h, z]))
        · rw [y]; exact (Nat.succ_ne_zero j).symm
      rw [wst_other ha, wst_a e, h1, h2]
      have hlt : (d < k) ↔ (d < k + 1) := by omega
      exact ⟨ite_congr (by rw [hlt]) (fun _ => rfl) (fun _ => rfl), ite_congr (by rw [hlt]) (fun _ => rfl) (fun _ => rfl)⟩
def wkT (T : kBd) : kBd := (wkN (unf T) T 4).1
theorem wkT_A {T : kBd} (h : bA T) : bA (wkT T) := bA_wk h
theorem wkT_n (T : kBd) : (wkT T).2 = T.2 := wk_num _ _ 4
theorem wkT_2 (T : kBd) : (wkT T).1 2 = T.1 2 := wkN_keep _ _ 2 (by decide) (by decide) 4
theorem wkT_3 (T : kBd) : (wkT T).1 3 = T.1 3 := wkN_keep _ _ 3 (by decide) (by decide) 4
def dn1 (x : Nat) : Nat := if x ≤ 1 then x else x - 1
theorem dn1_s (a : Nat) : dn1 (1 + (a + 1)) = 1 + a := by
  unfold dn1
  rw [if_neg (by omega)]
  omega
theorem dn1_t {x c : Nat} (h : 2 ≤ x) : x - 1 + c = dn1 (x + c) := by
  unfold dn1
  rw [if_neg (by omega)]
  omega
theorem rdD_dn {T C : kBd} {g g' : Nat → Nat} {j : Nat} (h2 : C.1 2 = T.1 2) (ha : asgOf T j ≠ 0) (ha' : asgOf C j ≠ 0) : ∀ n, (∀ k, k < n → (T.1 2 j).testBit k = true → g' k = dn1 (g k)) → rdD C g' j n = dn1 (rdD T g j n)
  | 0, _ => by rw [rdD_1 ha, rdD_1 ha']; rfl
  | n + 1, h => by
    have ih := rdD_dn (g := g) (g' := g') h2 ha ha' n (fun k hk => h k (by omega))
    unfold rdD
    rw [ih, h2]
    generalize rdD T g j n = a
    by_cases c0 : a = 0
    · rw [c0]; rfl
    · rw [if_neg c0, if_neg (show ¬ dn1 a = 0 by unfold dn1; split <;> omega)]
      by_cases c : (T.1 2 j).testBit n = true
      · rw [if_pos c, if_pos c, h n (by omega) c]
        generalize g n = b
        by_cases c1 : b = 0
        · rw [c1]; rfl
        · rw [if_neg c1, if_neg (show ¬ dn1 b = 0 by unfold dn1; split <;> omega)]
          unfold dn1
          split <;> split <;> split <;> omega
      · rw [if_neg c, if_neg c]
theorem rdD_ge {B : kBd} {g : Nat → Nat} {st : Nat} : ∀ n, rdD B g st n ≠ 0 → 1 ≤ rdD B g st n ∧ ∀ k, k < n → (B.1 2 st).testBit k = true → g k ≠ 0 ∧ g k ≤ rdD B g st n
  | 0, h => ⟨by omega, fun k hk => absurd hk (Nat.not_lt_zero k)⟩
  | n + 1, h => by
    have hs : rdD B g st (n + 1) = if rdD B g st n = 0 then 0 else if (B.1 2 st).testBit n then (if g n = 0 then 0 else max (rdD B g st n) (g n)) else rdD B g st n := rfl
    refine ⟨by omega, fun k hk hb => ?_⟩
    by_cases c0 : rdD B g st n = 0
    · rw [if_pos c0] at hs; exact absurd hs h
    · obtain ⟨h1, h2⟩ := rdD_ge n c0
      rw [if_neg c0] at hs
      by_cases e : k = n
      · subst e
        rw [if_pos hb] at hs
        by_cases c1 : g k = 0
        · rw [if_pos c1] at hs; exact absurd hs h
        · rw [if_neg c1] at hs
          exact ⟨c1, by rw [hs]; exact Nat.le_max_right _ _⟩
      · obtain ⟨h3, h4⟩ := h2 k (by omega) hb
        refine ⟨h3, ?_⟩
        by_cases c : (B.1 2 st).testBit n = true
        · rw [if_pos c] at hs
          by_cases c1 : g n = 0
          · rw [if_pos c1] at hs; exact absurd hs h
          · rw [if_neg c1] at hs
            rw [hs]; exact Nat.le_trans h4 (Nat.le_max_left _ _)
        · rw [if_neg c] at hs; rw [hs]; exact h4
theorem rdD_all1 {B : kBd} {g : Nat → Nat} {st : Nat} (ha : asgOf B st ≠ 0) : ∀ n, (∀ k, k < n → (B.1 2 st).testBit k = true → g k = 1) → rdD B g st n = 1
  | 0, _ => rdD_1 ha
  | n + 1, h => by
    have ih := rdD_all1 (g := g) ha n (fun k hk => h k (by omega))
    unfold rdD
    rw [ih, if_neg (by decide)]
    by_cases c : (B.1 2 st).testBit n = true
    · rw [if_pos c, h n (by omega) c]; rfl
    · rw [if_neg c]
theorem dv_pos {a s : Nat} (ha : a ≠ 0) (hs : 1 ≤ s) : 1 ≤ (a + s - 1) / s := (Nat.one_le_div_iff (by omega)).mpr (by omega)
theorem ndT_1 {B : kBd} (h : bA B) {j : Nat} (hj : j < B.2 0) : ndT B j = 1 ↔ B.1 1 j = 0 := by
  obtain ⟨hI, -, hv, hw, -⟩ := id h
  rw [ndT_eq h hj]
  unfold ndV
  by_cases c : B.1 1 j = 0
  · rw [if_pos c]; exact ⟨fun _ => c, fun _ => rfl⟩
  · rw [if_neg c]
    by_cases d : rdD B (ndT B) j (B.2 0) = 0
    · rw [if_pos d]; exact ⟨fun z => absurd z (by decide), fun z => absurd z c⟩
    · rw [if_neg d]
      have ha := rdD_asg (d := rdD B (ndT B) j (B.2 0)) rfl d
      obtain ⟨-, e1, -⟩ := spd_is hv hw ha
      have := dv_pos c e1
      have := (rdD_ge (B.2 0) d).1
      exact ⟨fun z => by omega, fun z => absurd z c⟩
theorem blk_ex {T : kBd} (hn : T.2 0 ≤ 16) (hq : bQ T) {j : Nat} (h : T.1 2 j &&& unf T ≠ 0) : ∃ k, (T.1 2 j).testBit k = true ∧ T.1 1 k ≠ 0 := by
  obtain ⟨k, hk⟩ := ne0_bit h
  rw [Nat.testBit_and, Bool.and_eq_true] at hk
  have := (hq j k hk.1).2
  exact ⟨k, hk.1, (unf_bit T (by omega)).mp hk.2⟩
theorem blk_no {T : kBd} (hn : T.2 0 ≤ 16) (hq : bQ T) {j : Nat} (h : T.1 2 j &&& unf T = 0) : ∀ k, (T.1 2 j).testBit k = true → T.1 1 k = 0 := by
  intro k hk
  have := (hq j k hk).2
  by_cases c : T.1 1 k = 0
  · exact c
  · have h1 : (T.1 2 j &&& unf T).testBit k = true := by rw [Nat.testBit_and, hk, (unf_bit T (by omega)).mpr c]; rfl
    rw [h, bit0] at h1; exact Bool.noConfusion h1
theorem dv_step {r s : Nat} (h : s ≤ r) (hs : 1 ≤ s) (hr : r - s ≠ 0) : (r + s - 1) / s = (r - s + s - 1) / s + 1 := by
  rw [show r + s - 1 = (r - 1) + s by omega, Nat.add_div_right _ (by omega), show r - s + s - 1 = r - 1 by omega]
theorem dv_one {r s : Nat} (h : r - s = 0) (hr : r ≠ 0) (hs : 1 ≤ s) : (r + s - 1) / s = 1 := by
  rw [Nat.div_eq_iff (by omega)]
  omega
theorem dn_step {T : kBd} (h : bA T) : ∀ r j, j < T.2 0 → rk0 T j ≤ r → ndT (wkT T) j = dn1 (ndT T j) := by
  have h' := wkT_A h
  obtain ⟨hI, hu, hv, hw, hq, -, -, -, hc⟩ := id h
  have hn := hI.2.2.1
  have en : (wkT T).2 0 = T.2 0 := by rw [wkT_n]
  have main : ∀ j, j < T.2 0 → (∀ k, (T.1 2 j).testBit k = true → ndT (wkT T) k = dn1 (ndT T k)) → ndT (wkT T) j = dn1 (ndT T j) := by
    intro j hj ih
    have hj' : j < (wkT T).2 0 := by rw [en]; exact hj
    have hT1 := ndT_1 h hj
    have hT1' := ndT_1 h' hj'
    have hEq := ndT_eq h hj
    have hEq' := ndT_eq h' hj'
    by_cases ha : asgOf T j = 0
    · have hno := asgOf_no ha
      have er : (wkT T).1 1 j = T.1 1 j := wk_free hno 4 (Nat.le_refl _)
      have ea : asgOf (wkT T) j = 0 := asg_none (fun d hd => by
        rcases wkN_asg (unf T) T d 4 with e | e
        · show (wkN (unf T) T 4).1.1 4 d ≠ j + 1; rw [e]; exact hno d hd
        · show (wkN (unf T) T 4).1.1 4 d ≠ j + 1; rw [e]; exact (Nat.succ_ne_zero j).symm)
      have z1 : rdD T (ndT T) j (T.2 0) = 0 := by
        have := rdD_0 (B := T) (g := ndT T) (st := j) (k := 0) (if_pos ha) (T.2 0)
        rw [Nat.zero_add] at this; exact this
      have z2 : rdD (wkT T) (ndT (wkT T)) j ((wkT T).2 0) = 0 := by
        have := rdD_0 (B := wkT T) (g := ndT (wkT T)) (st := j) (k := 0) (if_pos ea) ((wkT T).2 0)
        rw [Nat.zero_add] at this; exact this
      unfold ndV at hEq hEq'
      rw [if_pos z1] at hEq
      rw [if_pos z2, er] at hEq'
      rw [hEq, hEq']
      split <;> rfl
    · obtain ⟨hd, hd4⟩ := asgOf_is ha
      obtain ⟨-, s1, s4⟩ := spd_is hv hw ha
      obtain ⟨w1, w4⟩ := wk_dev (U := unf T) hu hd hj hd4 4 (Nat.le_refl _)
      by_cases c0 : T.1 1 j = 0
      · have e0 : (wkT T).1 1 j = 0 := by
          show (wkN (unf T) T 4).1.1 1 j = 0
          rw [w1, c0]; split <;> omega
        rw [hT1.mpr c0, hT1'.mpr e0]; rfl
      · by_cases cb : T.1 2 j &&& unf T = 0
        · rw [if_pos ⟨hd, cb⟩] at w1
          have hb := blk_no hn hq cb
          have r1 : rdD T (ndT T) j (T.2 0) = 1 := rdD_all1 ha (T.2 0) (fun k hk hkb => (ndT_1 h hk).mpr (hb k hkb))
          unfold ndV at hEq
          rw [if_neg c0, r1, if_neg (by decide)] at hEq
          by_cases cz : T.1 1 j - T.1 3 (asgOf T j - 1) = 0
          · have e0 : (wkT T).1 1 j = 0 := by
              show (wkN (unf T) T 4).1.1 1 j = 0
              rw [w1, cz]
            rw [hT1'.mpr e0, hEq, dv_one cz c0 s1]; rfl
          · rw [if_neg (fun z => cz z.2.2)] at w4
            have ea : asgOf (wkT T) j = asgOf T j := by
              have := asg_one h'.2.1 hd (show (wkT T).1 4 (asgOf T j - 1) = j + 1 from w4)
              omega
            have e0 : (wkT T).1 1 j = T.1 1 j - T.1 3 (asgOf T j - 1) := w1
            have r1' : rdD (wkT T) (ndT (wkT T)) j ((wkT T).2 0) = 1 := by
              refine rdD_all1 (by rw [ea]; exact ha) _ (fun k hk hkb => ?_)
              rw [wkT_2] at hkb
              rw [ih k hkb, (ndT_1 h (hq j k hkb).2).mpr (hb k hkb)]; rfl
            unfold ndV at hEq'
            rw [e0, if_neg cz, r1', if_neg (by decide), ea, wkT_3] at hEq'
            rw [hEq, hEq', dv_step (by omega) s1 cz, dn1_s]
        · rw [if_neg (fun z => cb z.2)] at w1
          rw [if_neg (fun z => cb z.2.1)] at w4
          have ea : asgOf (wkT T) j = asgOf T j := by
            have := asg_one h'.2.1 hd (show (wkT T).1 4 (asgOf T j - 1) = j + 1 from w4)
            omega
          have e0 : (wkT T).1 1 j = T.1 1 j := w1
          obtain ⟨k, hkb, hkr⟩ := blk_ex hn hq cb
          have hk := (hq j k hkb).2
          have hdn : rdD (wkT T) (ndT (wkT T)) j (T.2 0) = dn1 (rdD T (ndT T) j (T.2 0)) := rdD_dn (wkT_2 T) ha (by rw [ea]; exact ha) (T.2 0) (fun x hx hxb => ih x hxb)
          unfold ndV at hEq hEq'
          rw [if_neg c0] at hEq
          rw [e0, if_neg c0, en, hdn, ea, wkT_3] at hEq'
          by_cases cr : rdD T (ndT T) j (T.2 0) = 0
          · rw [if_pos cr] at hEq
            rw [cr, if_pos (by rfl)] at hEq'
            rw [hEq, hEq']; rfl
          · obtain ⟨-, hge⟩ := rdD_ge (T.2 0) cr
            obtain ⟨g1, g2⟩ := hge k hk hkb
            have g3 : ndT T k ≠ 1 := fun z => hkr ((ndT_1 h hk).mp z)
            rw [if_neg cr] at hEq
            have e3 : dn1 (rdD T (ndT T) j (T.2 0)) = rdD T (ndT T) j (T.2 0) - 1 := if_neg (by omega)
            rw [e3, if_neg (by omega)] at hEq'
            rw [hEq, hEq']
            exact dn1_t (by omega)
  intro r
  induction r with
  | zero =>
    intro j hj hr
    refine main j hj (fun k hk => ?_)
    have := rk0_lt hq hn hc hk
    omega
  | succ r ih =>
    intro j hj hr
    refine main j hj (fun k hk => ?_)
    have := rk0_lt hq hn hc hk
    exact ih k (hq j k hk).2 (by omega)
theorem dtN_ok {j : Nat} : ∀ f d T, bA T → j < T.2 0 → (dtN j f d T).1 = if ndT T j ≠ 0 ∧ ndT T j ≤ f then d + ndT T j else 0
  | 0, d, T, h, hj => by
    rw [if_neg (fun z => z.1 (by omega))]; rfl
  | f + 1, d, T, h, hj => by
    have h1 := ndT_1 h hj
    unfold dtN
    by_cases c : T.1 1 j = 0
    · rw [if_pos ⟨hj, c⟩, h1.mpr c, if_pos ⟨by decide, by omega⟩]
    · rw [if_neg (fun z => c z.2)]
      have hs := dn_step h (rk0 T j) j hj (Nat.le_refl _)
      have ih := dtN_ok f (d + 1) (wkT T) (wkT_A h) (by rw [wkT_n]; exact hj)
      have n1 : ndT T j ≠ 1 := fun z => c (h1.mp z)
      rw [hs] at ih
      show (dtN j f (d + 1) (wkT T)).1 = _
      rw [ih]
      unfold dn1
      by_cases c0 : ndT T j = 0
      · rw [c0]; simp
      · rw [if_neg (show ¬ ndT T j ≤ 1 by omega)]
        by_cases c2 : ndT T j ≤ f + 1
        · rw [if_pos ⟨by omega, by omega⟩, if_pos ⟨c0, c2⟩]; omega
        · rw [if_neg (fun z => c2 (by omega)), if_neg (fun z => c2 z.2)]
/-! it takes 52 days at the most -/
def phA (T : kBd) (e : Nat) : Nat := if T.1 4 e = 0 then 0 else T.1 1 (T.1 4 e - 1)
def phi (T : kBd) : Nat := sumUp (phA T) 4
theorem wst_le {U : Nat} {x : kBd × Nat} {k j : Nat} : (wst U x k).1.1 1 j ≤ x.1.1 1 j := by
  unfold wst
  have e : ∀ v, v ≤ x.1.1 1 (x.1.1 4 k - 1) → (bSet x.1 1 (x.1.1 4 k - 1) v).1 1 j ≤ x.1.1 1 j := by
    intro v hv
    rw [bS1]
    by_cases z : j = x.1.1 4 k - 1
    · rw [if_pos ⟨rfl, z⟩, z]; exact hv
    · rw [if_neg (fun y => z y.2)]; exact Nat.le_refl _
  split
  · split
    · show (bSet (bSet x.1 1 _ _) 4 k 0).1 1 j ≤ _
      rw [bS1, if_neg (by rintro ⟨z, -⟩; exact absurd z (by decide))]
      exact e _ (Nat.sub_le _ _)
    · exact e _ (Nat.sub_le _ _)
  · exact Nat.le_refl _
theorem wkN_le {U : Nat} {T : kBd} {j : Nat} : ∀ k, (wkN U T k).1.1 1 j ≤ T.1 1 j
  | 0 => Nat.le_refl _
  | k + 1 => Nat.le_trans wst_le (wkN_le k)
theorem phA_le (T : kBd) (e : Nat) : phA (wkT T) e ≤ phA T e := by
  unfold phA
  rcases wkN_asg (unf T) T e 4 with h | h
  · have h' : (wkT T).1 4 e = T.1 4 e := h
    rw [h']
    split
    · exact Nat.le_refl _
    · exact wkN_le 4
  · have h' : (wkT T).1 4 e = 0 := h
    rw [h', if_pos rfl]; exact Nat.zero_le _
theorem act_ex {T : kBd} (h : bA T) : ∀ r j, j < T.2 0 → rk0 T j ≤ r → 2 ≤ ndT T j → ∃ s d, s < T.2 0 ∧ d < 4 ∧ T.1 4 d = s + 1 ∧ T.1 1 s ≠ 0 ∧ T.1 2 s &&& unf T = 0 ∧ 1 ≤ T.1 3 d := by
  obtain ⟨hI, hu, hv, hw, hq, -, -, -, hc⟩ := id h
  have hn := hI.2.2.1
  have main : ∀ j, j < T.2 0 → 2 ≤ ndT T j → (∃ s d, s < T.2 0 ∧ d < 4 ∧ T.1 4 d = s + 1 ∧ T.1 1 s ≠ 0 ∧ T.1 2 s &&& unf T = 0 ∧ 1 ≤ T.1 3 d) ∨ ∃ k, (T.1 2 j).testBit k = true ∧ 2 ≤ ndT T k := by
    intro j hj h2
    have c0 : T.1 1 j ≠ 0 := fun z => by have := (ndT_1 h hj).mpr z; omega
    have hEq := ndT_eq h hj
    unfold ndV at hEq
    rw [if_neg c0] at hEq
    by_cases cr : rdD T (ndT T) j (T.2 0) = 0
    · rw [if_pos cr] at hEq; omega
    · have ha := rdD_asg (d := rdD T (ndT T) j (T.2 0)) rfl cr
      obtain ⟨hd, hd4⟩ := asgOf_is ha
      obtain ⟨-, s1, -⟩ := spd_is hv hw ha
      by_cases cb : T.1 2 j &&& unf T = 0
      · exact Or.inl ⟨j, asgOf T j - 1, hj, hd, hd4, c0, cb, s1⟩
      · obtain ⟨k, hkb, hkr⟩ := blk_ex hn hq cb
        have hk := (hq j k hkb).2
        obtain ⟨g1, g2⟩ := (rdD_ge (T.2 0) cr).2 k hk hkb
        have g3 : ndT T k ≠ 1 := fun z => hkr ((ndT_1 h hk).mp z)
        exact Or.inr ⟨k, hkb, by omega⟩
  intro r
  induction r with
  | zero =>
    intro j hj hr h2
    rcases main j hj h2 with e | ⟨k, hk, -⟩
    · exact e
    · have := rk0_lt hq hn hc hk; omega
  | succ r ih =>
    intro j hj hr h2
    rcases main j hj h2 with e | ⟨k, hk, hk2⟩
    · exact e
    · have := rk0_lt hq hn hc hk
      exact ih k (hq j k hk).2 (by omega) hk2
theorem phi_lt {T : kBd} (h : bA T) {j : Nat} (hj : j < T.2 0) (h2 : 2 ≤ ndT T j) : phi (wkT T) < phi T := by
  obtain ⟨s, d, hs, hd, hd4, hr, hb, h3⟩ := act_ex h (rk0 T j) j hj (Nat.le_refl _) h2
  refine sumUp_lt (phA_le T) (j := d) ?_ 4 hd
  obtain ⟨w1, w4⟩ := wk_dev (U := unf T) h.2.1 hd hs hd4 4 (Nat.le_refl _)
  rw [if_pos ⟨hd, hb⟩] at w1
  have e1 : phA T d = T.1 1 s := by
    unfold phA
    rw [hd4, if_neg (Nat.succ_ne_zero s), Nat.add_sub_cancel]
  rw [e1]
  unfold phA
  by_cases z : T.1 1 s - T.1 3 d = 0
  · rw [if_pos ⟨hd, hb, z⟩] at w4
    have w4' : (wkT T).1 4 d = 0 := w4
    rw [w4', if_pos rfl]; omega
  · rw [if_neg (fun y => z y.2.2)] at w4
    have w4' : (wkT T).1 4 d = s + 1 := w4
    have w1' : (wkT T).1 1 s = T.1 1 s - T.1 3 d := w1
    rw [w4', if_neg (Nat.succ_ne_zero s), Nat.add_sub_cancel, w1']; omega
theorem ndT_phi : ∀ r T, bA T → phi T ≤ r → ∀ j, j < T.2 0 → ndT T j ≤ 1 + r
  | 0, T, h, hp, j, hj => by
    rcases Nat.lt_or_ge (ndT T j) 2 with z | z
    · omega
    · have := phi_lt h hj z; omega
  | r + 1, T, h, hp, j, hj => by
    rcases Nat.lt_or_ge (ndT T j) 2 with z | z
    · omega
    · have h1 := phi_lt h hj z
      have h2 := ndT_phi r (wkT T) (wkT_A h) (by omega) j (by rw [wkT_n]; exact hj)
      have h3 := dn_step h (rk0 T j) j hj (Nat.le_refl _)
      rw [h3] at h2
      unfold dn1 at h2
      rw [if_neg (by omega)] at h2
      omega
theorem ndT_le {B : kBd} (h : bA B) {j : Nat} (hj : j < B.2 0) : ndT B j ≤ 53 := by
  refine ndT_phi 52 B h ?_ j hj
  have hr := h.1.2.2.2.2.2.2.2.2.1
  have he := h.1.2.2.2.2.2.2.2.2.2.1
  have := sumUp_le (f := phA B) (c := 13) (fun e => by
    unfold phA
    split
    · exact Nat.zero_le _
    · have := hr (B.1 4 e - 1); have := he (B.1 4 e - 1); omega) 4
  exact this
theorem dt_nd {B : kBd} (h : bA B) {j : Nat} (hj : j < B.2 0) : (dtN j 53 0 B).1 = ndN B 16 j := by
  rw [dtN_ok 53 0 B h hj]
  have := ndT_le h hj
  show _ = ndT B j
  by_cases c : ndT B j = 0
  · rw [if_neg (fun z => z.1 c), c]
  · rw [if_pos ⟨c, this⟩, Nat.zero_add]
theorem conK_ok {B : kBd} (h : bA B) {k : Nat} (hk : k < B.2 0) : conK B k := by
  obtain ⟨hI, -, -, -, hq, -⟩ := id h
  have hn := hI.2.2.1
  refine ⟨fun o ho => ?_, dt_nd h hk⟩
  have a := fnd_ok hI.1 hq hn (i := k) (g := o) (by omega) (by omega)
  have b := wsO_ok hq hn k o
  cases c : (wsO B 16 k).testBit o
  · cases d : fnd B k o
    · rfl
    · have := b.mpr (a.mp d)
      rw [c] at this; exact Bool.noConfusion this
  · exact a.mpr (b.mp c)
theorem und_fnd {B : kBd} (h : bA B) {i g : Nat} (hi : i < B.2 0) (hg : g < B.2 0) : (und B i).testBit g = fnd B i g := by
  obtain ⟨hI, -, -, -, hq, -⟩ := id h
  have hn := hI.2.2.1
  have a := fnd_ok hI.1 hq hn (i := i) (g := g) (by omega) (by omega)
  have b := und_ok hI.1 hq i g
  cases c : fnd B i g
  · cases d : (und B i).testBit g
    · rfl
    · have := a.mpr (b.mp d)
      rw [c] at this; exact Bool.noConfusion this
  · exact b.mpr (a.mp c)
theorem und_wsO {B : kBd} (h : bA B) (i g : Nat) : (und B i).testBit g = (wsO B 16 i).testBit g := by
  obtain ⟨hI, -, -, -, hq, -⟩ := id h
  have a := wsO_ok hq hI.2.2.1 i g
  have b := und_ok hI.1 hq i g
  cases c : (wsO B 16 i).testBit g
  · cases d : (und B i).testBit g
    · rfl
    · have := a.mpr (b.mp d)
      rw [c] at this; exact Bool.noConfusion this
  · exact b.mpr (a.mp c)
theorem und_irr {B : kBd} (h : bA B) (k : Nat) : (und B k).testBit k = false := by
  obtain ⟨hI, -, -, -, hq, -, -, -, hc⟩ := id h
  cases c : (und B k).testBit k
  · rfl
  · exact absurd ((und_ok hI.1 hq k k).mp c) (rcp_irr hc k)
