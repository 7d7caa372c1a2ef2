/-! WHAT HOLDS OF EVERY BOARD is kept by every command. -/
theorem bS1 (B : kBd) (f j v g k : Nat) : (bSet B f j v).1 g k = if g = f ∧ k = j then v else B.1 g k := by
  show va_up B.1 f (va_up (B.1 f) j v) g k = _
  simp only [va_up]
  by_cases h : g = f
  · subst h
    rw [if_pos rfl]
    show (if k = j then v else B.1 g k) = _
    by_cases h2 : k = j
    · rw [if_pos h2, if_pos ⟨rfl, h2⟩]
    · rw [if_neg h2, if_neg (fun z => h2 z.2)]
  · rw [if_neg h, if_neg (fun z => h z.1)]
theorem bS2 (B : kBd) (f j v : Nat) : (bSet B f j v).2 = B.2 := rfl
theorem bP1 (B : kBd) (f v : Nat) : (bPut B f v).1 = B.1 := rfl
theorem bP2 (B : kBd) (f v g : Nat) : (bPut B f v).2 g = if g = f then v else B.2 g := rfl
theorem bI_add {B : kBd} (h : bI B) {p : Nat} (hp : p ≤ 13) (hn : B.2 0 < 16) : bI (addB B p) := by
  obtain ⟨hz, hbn, hn', hm, h3, h54, h4, h7, hr, he, ha, hact, h5⟩ := h
  refine ⟨kSm_put (kSm_set (kSm_set (kSm_set hz 0 _ (by omega)) 1 _ (by omega)) 2 _ (by decide)) 0 (by omega), bN_put (bN_set (bN_set (bN_set hbn (f := 0) (by decide) hn _) (f := 1) (by decide) hn _) (f := 2) (by decide) hn _) (by decide) _, ?_, hm, h3, h54, h4, h7, fun k => ?_, fun k => ?_, fun d => ?_, hact, fun k => ?_⟩
  · show B.2 0 + 1 ≤ 16; omega
  · have := hr k
    simp [addB, bP1, bS1]
    split <;> omega
  · have := he k
    simp [addB, bP1, bS1]
    split <;> omega
  · have := ha d
    simp [addB, bP1, bS1, bP2, bS2]
    omega
  · have := h5 k
    simp [addB, bP1, bS1]
    omega
theorem bI_dev {B : kBd} (h : bI B) {p : Nat} (hp : p ≤ 13) (hn : B.2 1 < 4) : bI (devB B p) := by
  obtain ⟨hz, hbn, hn', hm, h3, h54, h4, h7, hr, he, ha, hact, h5⟩ := h
  refine ⟨kSm_put (kSm_set (kSm_set hz 3 _ (by omega)) 4 _ (by decide)) 1 (by omega), bN_put (bN_set (bN_set hbn (f := 3) (by decide) hn _) (f := 4) (by decide) hn _) (by decide) _, hn', ?_, h3, h54, h4, h7, fun k => ?_, fun k => ?_, fun d => ?_, hact, fun k => ?_⟩
  · show B.2 1 + 1 ≤ 4; omega
  · have := hr k
    simp [devB, bP1, bS1]
    omega
  · have := he k
    simp [devB, bP1, bS1]
    omega
  · have := ha d
    simp [devB, bP1, bS1, bP2, bS2]
    split <;> omega
  · have := h5 k
    simp [devB, bP1, bS1]
    omega
/-- a change of one row of numbers that the others don't look at -/
theorem bI_row {B : kBd} (h : bI B) {f j v : Nat} (hf : f = 2 ∨ f = 3) (hj : j < kLen f) (hv : v < 65536) : bI (bSet B f j v) := by
  obtain ⟨hz, hbn, hn, hm, h3, h54, h4, h7, hr, he, ha, hact, h5⟩ := h
  refine ⟨kSm_set hz f j hv, bN_set hbn (by omega) hj v, hn, hm, h3, h54, h4, h7, fun k => ?_, fun k => ?_, fun d => ?_, hact, fun k => ?_⟩
  · rw [bS1, bS1, if_neg (by omega), if_neg (by omega)]; exact hr k
  · rw [bS1, if_neg (by omega)]; exact he k
  · rw [bS1, if_neg (by omega)]; exact ha d
  · rw [bS1, if_neg (by omega)]; exact h5 k
theorem bI_asg {B : kBd} (h : bI B) {d v : Nat} (hd : d < 4) (hv : v ≤ B.2 0) : bI (bSet B 4 d v) := by
  obtain ⟨hz, hbn, hn, hm, h3, h54, h4, h7, hr, he, ha, hact, h5⟩ := h
  refine ⟨kSm_set hz 4 d (by omega), bN_set hbn (by decide) (show d < kLen 4 from hd) v, hn, hm, h3, h54, h4, h7, fun k => ?_, fun k => ?_, fun k => ?_, hact, fun k => ?_⟩
  · rw [bS1, bS1, if_neg (by omega), if_neg (by omega)]; exact hr k
  · rw [bS1, if_neg (by omega)]; exact he k
  · rw [bS1, bS2]; split
    · exact hv
    · exact ha k
  · rw [bS1, if_neg (by omega)]; exact h5 k
theorem bI_pl {B : kBd} (h : bI B) {v : Nat} (hv : v < 65536) : bI (bPut B 2 v) := by
  obtain ⟨hz, hbn, hn, hm, h3, h54, h4, h7, hr, he, ha, hact, h5⟩ := h
  exact ⟨kSm_put hz 2 hv, bN_put hbn (by decide) v, hn, hm, h3, h54, h4, h7, hr, he, ha, hact, h5⟩
theorem bI_left {B : kBd} (h : bI B) {j v : Nat} (hj : j < 16) (hv : v ≤ B.1 0 j) : bI (bSet B 1 j v) := by
  obtain ⟨hz, hbn, hn, hm, h3, h54, h4, h7, hr, he, ha, hact, h5⟩ := h
  have hej := he j
  refine ⟨kSm_set hz 1 j (by omega), bN_set hbn (by decide) (show j < kLen 1 from hj) v, hn, hm, h3, h54, h4, h7, fun k => ?_, fun k => ?_, fun k => ?_, hact, fun k => ?_⟩
  · rw [bS1, bS1, if_neg (show ¬ (0 = 1 ∧ k = j) by omega)]; split
    · rename_i c; rw [c.2]; exact hv
    · exact hr k
  · rw [bS1, if_neg (by omega)]; exact he k
  · rw [bS1, if_neg (by omega)]; exact ha k
  · rw [bS1, if_neg (by omega)]; exact h5 k
theorem bI_re {B : kBd} (h : bI B) {j p : Nat} (hj : j < B.2 0) (hp : p ≤ 13) : bI (reB B j p) := by
  have h' := h
  obtain ⟨hz, hbn, hn, hm, h3, h54, h4, h7, hr, he, ha, hact, h5⟩ := h
  have key : bI (bSet (bSet B 0 j p) 1 j (p - min (B.1 0 j - B.1 1 j) p)) := by
    refine ⟨kSm_set (kSm_set hz 0 j (by omega)) 1 j (by omega), bN_set (bN_set hbn (by decide) (show j < kLen 0 by show j < 16; omega) p) (by decide) (show j < kLen 1 by show j < 16; omega) _, hn, hm, h3, h54, h4, h7, fun k => ?_, fun k => ?_, fun k => ?_, hact, fun k => ?_⟩
    · have := hr k
      simp [bS1]
      split <;> omega
    · have := he k
      simp [bS1]
      split <;> omega
    · have := ha k
      simp [bS1, bS2]
      omega
    · have := h5 k
      simp [bS1]
      omega
  unfold reB
  split
  · exact bI_asg key (by show asgOf B j - 1 < 4; omega) (Nat.zero_le _)
  · exact key
theorem bI_wst {U : Nat} {x : kBd × Nat} (h : bI x.1) {d : Nat} (hd : d < 4) : bI (wst U x d).1 := by
  have hr := h.2.2.2.2.2.2.2.2.1
  have hn := h.2.2.1
  unfold wst
  by_cases c : 0 < x.1.1 4 d ∧ x.1.1 4 d - 1 < x.1.2 0 ∧ (x.1.1 2 (x.1.1 4 d - 1) &&& U) = 0
  · rw [if_pos c]
    have h1 := bI_left h (j := x.1.1 4 d - 1) (v := x.1.1 1 (x.1.1 4 d - 1) - x.1.1 3 d) (by omega) (by have := hr (x.1.1 4 d - 1); omega)
    split
    · exact bI_asg h1 hd (Nat.zero_le _)
    · exact h1
  · rw [if_neg c]; exact h
theorem bI_wk {U : Nat} {B : kBd} (h : bI B) : ∀ k, k ≤ 4 → bI (wkN U B k).1
  | 0, _ => h
  | k + 1, hk => bI_wst (bI_wk h k (by omega)) (by omega)
theorem psum_le1 {B : kBd} (h : bI B) {c : Nat} (hc : c < 2) : psum B c ≤ 208 := psum_le h.2.2.2.2.2.2.2.2.2.1 h.2.2.2.2.2.2.2.2.1 hc
theorem bI_burn {B : kBd} (h : bI B) {j v : Nat} (hj : j < 11) (hv : v ≤ 208) : bI (bSet B 5 j v) := by
  obtain ⟨hz, hbn, hn, hm, h3, h54, h4, h7, hr, he, ha, hact, h5⟩ := h
  refine ⟨kSm_set hz 5 j (by omega), bN_set hbn (by decide) (show j < kLen 5 from hj) v, hn, hm, h3, h54, h4, h7, fun k => ?_, fun k => ?_, fun k => ?_, hact, fun k => ?_⟩
  · rw [bS1, bS1, if_neg (by omega), if_neg (by omega)]; exact hr k
  · rw [bS1, if_neg (by omega)]; exact he k
  · rw [bS1, if_neg (by omega)]; exact ha k
  · rw [bS1]; split
    · exact hv
    · exact h5 k
theorem bI_day {B : kBd} (h : bI B) (h54 : B.2 5 < B.2 4) : bI (dayB B) := by
  have h1 := bI_wk h (U := unf B) 4 (by omega)
  have e : (wkN (unf B) B 4).1.2 = B.2 := wk_num _ _ _
  have h2 : bI (bPut (wkN (unf B) B 4).1 5 ((wkN (unf B) B 4).1.2 5 + 1)) := by
    obtain ⟨hz, hbn, hn, hm, h3, g54, h4, h7, hr, he, ha, hact, h5⟩ := h1
    refine ⟨kSm_put hz 5 (by rw [e] at h4 ⊢; omega), bN_put hbn (by decide) _, hn, hm, h3, ?_, h4, h7, hr, he, ha, hact, h5⟩
    show (wkN (unf B) B 4).1.2 5 + 1 ≤ (wkN (unf B) B 4).1.2 4
    rw [e]; omega
  have h4 := h1.2.2.2.2.2.2.1
  exact bI_burn h2 (by rw [e] at h4 ⊢; omega) (psum_le1 h2 (by decide))
theorem bI_beg {B : kBd} (h : bI B) {q : Nat} (hq : q ≤ 10) (h7 : B.2 7 < 9) : bI (begB B q) := by
  have h1 : bI (bPut (bPut (bPut B 3 1) 4 q) 5 0) := by
    obtain ⟨hz, hbn, hn, hm, h3, g54, h4, g7, hr, he, ha, hact, h5⟩ := h
    exact ⟨kSm_put (kSm_put (kSm_put hz 3 (by decide)) 4 (by omega)) 5 (by decide), bN_put (bN_put (bN_put hbn (by decide) _) (by decide) _) (by decide) _, hn, hm, (by show 1 < 2; decide), Nat.zero_le _, hq, g7, hr, he, ha, (fun _ => h7), h5⟩
  have h2 : bI (bPut (bPut (bPut (bPut B 3 1) 4 q) 5 0) 6 (psum (bPut (bPut (bPut B 3 1) 4 q) 5 0) 0)) := by
    have hp := psum_le1 h1 (c := 0) (by decide)
    obtain ⟨hz, hbn, hn, hm, h3, g54, h4, g7, hr, he, ha, hact, h5⟩ := h1
    exact ⟨kSm_put hz 6 (by omega), bN_put hbn (by decide) _, hn, hm, h3, g54, h4, g7, hr, he, ha, hact, h5⟩
  exact bI_burn h2 (by decide) (psum_le1 h2 (by decide))
theorem pfin_le {B : kBd} (h : bI B) : pfin B ≤ 208 := by
  have he := h.2.2.2.2.2.2.2.2.2.1
  have h1 : ∀ k, (if (B.2 2).testBit k ∧ B.1 1 k = 0 then B.1 0 k else 0) ≤ 13 := by
    intro k
    have := he k
    split <;> omega
  have := sumUp_le h1 16
  unfold pfin
  omega
theorem bI_end {B : kBd} (h : bI B) (h7 : B.2 7 < 9) : bI (endB B) := by
  have hp := pfin_le h
  have h1 : bI (bPut (bPut (bPut (bSet B 6 (B.2 7) (pfin B)) 7 (B.2 7 + 1)) 3 0) 2 0) := by
    obtain ⟨hz, hbn, hn, hm, h3, g54, h4, g7, hr, he, ha, hact, h5⟩ := h
    refine ⟨kSm_put (kSm_put (kSm_put (kSm_set hz 6 _ (by omega)) 7 (by omega)) 3 (by decide)) 2 (by decide), bN_put (bN_put (bN_put (bN_set hbn (f := 6) (by decide) (show B.2 7 < kLen 6 from h7) _) (by decide) _) (by decide) _) (by decide) _, hn, hm, (by show 0 < 2; decide), g54, h4, (by show B.2 7 + 1 ≤ 9; omega), fun k => ?_, fun k => ?_, fun k => ?_, (fun z => absurd rfl z), fun k => ?_⟩
    · show (bSet B 6 (B.2 7) (pfin B)).1 1 k ≤ (bSet B 6 (B.2 7) (pfin B)).1 0 k
      rw [bS1, bS1, if_neg (by omega), if_neg (by omega)]; exact hr k
    · show (bSet B 6 (B.2 7) (pfin B)).1 0 k ≤ 13
      rw [bS1, if_neg (by omega)]; exact he k
    · show (bSet B 6 (B.2 7) (pfin B)).1 4 k ≤ B.2 0
      rw [bS1, if_neg (by omega)]; exact ha k
    · show (bSet B 6 (B.2 7) (pfin B)).1 5 k ≤ 208
      rw [bS1, if_neg (by omega)]; exact h5 k
  exact bI_asg (bI_asg (bI_asg (bI_asg h1 (by decide) (Nat.zero_le _)) (by decide) (Nat.zero_le _)) (by decide) (Nat.zero_le _)) (by decide) (Nat.zero_le _)
