/-! EACH CALL: class and reference answer alike, and what holds of both holds behind it. -/
theorem c_in {n j : Nat} (hn : n ≤ 16) (hj : j < n) (h : inS n (nI j) = false) : False := by
  rw [inS_nI (by omega), decide_eq_true hj] at h
  exact Bool.noConfusion h
theorem c_in2 {n m j k : Nat} (hn : n ≤ 16) (hm : m ≤ 16) (hj : j < n) (hk : k < m) (h : (inS n (nI j) && inS m (nI k)) = false) : False := by
  rw [inS_nI (by omega), inS_nI (by omega), decide_eq_true hj, decide_eq_true hk] at h
  exact Bool.noConfusion h
theorem c_bb {b : Bool} (h1 : b = true) (h2 : b = false) : False := Bool.noConfusion (h1.symm.trans h2)
theorem dtN_bN {j : Nat} : ∀ f d T, bN T → T.2 0 ≤ 16 → bN (dtN j f d T).2
  | 0, d, T, h, _ => h
  | f + 1, d, T, h, hn => by
    unfold dtN
    split
    · exact h
    · exact dtN_bN f (d + 1) _ (bN_wk h hn 4 (Nat.le_refl _)) (by rw [wk_num]; exact hn)
theorem sEq_r (S : kCs) : sEq S S := ⟨fun _ _ _ => rfl, rfl, fun _ _ => rfl, rfl⟩
theorem reB_1 {B : kBd} {k q : Nat} (hr : B.1 1 k ≤ B.1 0 k) : (reB B k q).1 1 k = q - min (B.1 0 k - B.1 1 k) q := by
  unfold reB
  split
  · show (bSet (bSet (bSet B 0 k q) 1 k _) 4 _ 0).1 1 k = _
    rw [bS1, if_neg (fun z => absurd z.1 (by decide)), bS1, if_pos ⟨rfl, rfl⟩]
  · show (bSet (bSet B 0 k q) 1 k _).1 1 k = _
    rw [bS1, if_pos ⟨rfl, rfl⟩]
theorem lm_len {B : kBd} (hA : bA B) {j : Nat} (hj : j < B.2 0) : (lmS B j).length ≤ 60 := by
  have l1 := (dgs_len j).1
  have l2 := (dgs_len (B.1 1 j)).1
  have l3 := (dgs_len (B.1 0 j)).1
  have l4 := (dgs_len (asgOf B j - 1)).1
  have e1 : (ln1 B j).length ≤ 11 := by
    unfold ln1
    simp only [List.length_append, List.length_cons, List.length_nil]
    omega
  have e2 : (lm2 B j).length ≤ 12 := by
    unfold lm2
    split
    · simp only [List.length_append, List.length_cons, List.length_nil]; omega
    · omega
  have e3 : (lm3 B j).length ≤ 13 := by
    unfold lm3
    split
    · simp only [List.length_append, List.length_cons, List.length_nil]; omega
    · omega
  unfold lmS
  split
  · omega
  · simp only [List.length_append, List.length_cons, List.length_nil]; omega
theorem cs_estimateOf {n : Nat} {B : kBd} {nx sz : Nat} {L0 L : List Nat} {ep fp s0 : Nat} {S : kCs} {M : kMs} (h : relD n B nx sz L0 L ep fp s0 S M) {x : Int32} :
    (∀ (r : Int32) (u : kCs) (r2 : Int32) (u2 : kMs), (fun r u => ∃ (j : Nat), x = nI j ∧ j < B.2 0 ∧ r = nI (B.1 0 j) ∧ u = setB S 0 B) r u → (fun r u => (∃ k, k < B.2 0 ∧ x = nI k ∧ r = nI (B.1 0 k) ∧ u = nPut M 3 (nI 0)) ∨ (inS (B.2 0) x = false ∧ r = nI 0 ∧ u = nPut M 3 (nI 1))) r2 u2 → u2.1 3 = nI 0 ∧ r = r2 ∧ rel (n + 1) u u2) ∧
    (∀ (E : String) (u : kCs) (r2 : Int32) (u2 : kMs), (fun E u => (E = "java/lang/IndexOutOfBoundsException" ∧ inR (B.2 0) x = false ∧ u = setB S 0 B)) E u → (fun r u => (∃ k, k < B.2 0 ∧ x = nI k ∧ r = nI (B.1 0 k) ∧ u = nPut M 3 (nI 0)) ∨ (inS (B.2 0) x = false ∧ r = nI 0 ∧ u = nPut M 3 (nI 1))) r2 u2 → (E = "java/lang/IndexOutOfBoundsException" ∧ u2.1 3 = nI 1 ∧ rel (n + 1) u u2)) := by
  have hA := h.2.1
  have hI := hA.1
  have hn := hI.2.2.1
  have hm := hI.2.2.2.1
  have hQ := hA.2.2.2.2.1
  have hP := hA.2.2.2.2.2.1
  have hr9 := hI.2.2.2.2.2.2.2.2.1
  refine ⟨fun r u r2 u2 hp hq => ?_, fun E u r2 u2 hp hq => ?_⟩
  · obtain ⟨j, rfl, hj, rfl, rfl⟩ := hp
    rcases hq with ⟨k, hk, e, rfl, rfl⟩ | ⟨e, rfl, rfl⟩
    · obtain rfl : j = k := nI_same (by omega) (by omega) e
      exact ⟨rfl, rfl, rel_q h _⟩
    · exact (c_in (by omega) hj e).elim
  · obtain ⟨rfl, e0, rfl⟩ := hp
    rcases hq with ⟨k, hk, rfl, rfl, rfl⟩ | ⟨e, rfl, rfl⟩
    · exact (c_in (by omega) hk e0).elim
    · exact ⟨rfl, rfl, rel_q h _⟩
theorem cs_leftOf {n : Nat} {B : kBd} {nx sz : Nat} {L0 L : List Nat} {ep fp s0 : Nat} {S : kCs} {M : kMs} (h : relD n B nx sz L0 L ep fp s0 S M) {x : Int32} :
    (∀ (r : Int32) (u : kCs) (r2 : Int32) (u2 : kMs), (fun r u => ∃ (j : Nat), x = nI j ∧ j < B.2 0 ∧ r = nI (B.1 1 j) ∧ u = setB S 0 B) r u → (fun r u => (∃ k, k < B.2 0 ∧ x = nI k ∧ r = nI (B.1 1 k) ∧ u = nPut M 3 (nI 0)) ∨ (inS (B.2 0) x = false ∧ r = nI 0 ∧ u = nPut M 3 (nI 1))) r2 u2 → u2.1 3 = nI 0 ∧ r = r2 ∧ rel (n + 1) u u2) ∧
    (∀ (E : String) (u : kCs) (r2 : Int32) (u2 : kMs), (fun E u => (E = "java/lang/IndexOutOfBoundsException" ∧ inR (B.2 0) x = false ∧ u = setB S 0 B)) E u → (fun r u => (∃ k, k < B.2 0 ∧ x = nI k ∧ r = nI (B.1 1 k) ∧ u = nPut M 3 (nI 0)) ∨ (inS (B.2 0) x = false ∧ r = nI 0 ∧ u = nPut M 3 (nI 1))) r2 u2 → (E = "java/lang/IndexOutOfBoundsException" ∧ u2.1 3 = nI 1 ∧ rel (n + 1) u u2)) := by
  have hA := h.2.1
  have hI := hA.1
  have hn := hI.2.2.1
  have hm := hI.2.2.2.1
  have hQ := hA.2.2.2.2.1
  have hP := hA.2.2.2.2.2.1
  have hr9 := hI.2.2.2.2.2.2.2.2.1
  refine ⟨fun r u r2 u2 hp hq => ?_, fun E u r2 u2 hp hq => ?_⟩
  · obtain ⟨j, rfl, hj, rfl, rfl⟩ := hp
    rcases hq with ⟨k, hk, e, rfl, rfl⟩ | ⟨e, rfl, rfl⟩
    · obtain rfl : j = k := nI_same (by omega) (by omega) e
      exact ⟨rfl, rfl, rel_q h _⟩
    · exact (c_in (by omega) hj e).elim
  · obtain ⟨rfl, e0, rfl⟩ := hp
    rcases hq with ⟨k, hk, rfl, rfl, rfl⟩ | ⟨e, rfl, rfl⟩
    · exact (c_in (by omega) hk e0).elim
    · exact ⟨rfl, rfl, rel_q h _⟩
theorem cs_workedOn {n : Nat} {B : kBd} {nx sz : Nat} {L0 L : List Nat} {ep fp s0 : Nat} {S : kCs} {M : kMs} (h : relD n B nx sz L0 L ep fp s0 S M) {x : Int32} :
    (∀ (r : Int32) (u : kCs) (r2 : Int32) (u2 : kMs), (fun r u => ∃ (j : Nat), x = nI j ∧ j < B.2 0 ∧ r = nI (B.1 0 j - B.1 1 j) ∧ u = setB S 0 B) r u → (fun r u => (∃ k, k < B.2 0 ∧ x = nI k ∧ r = nI (B.1 0 k) - nI (B.1 1 k) ∧ u = nPut M 3 (nI 0)) ∨ (inS (B.2 0) x = false ∧ r = nI 0 ∧ u = nPut M 3 (nI 1))) r2 u2 → u2.1 3 = nI 0 ∧ r = r2 ∧ rel (n + 1) u u2) ∧
    (∀ (E : String) (u : kCs) (r2 : Int32) (u2 : kMs), (fun E u => (E = "java/lang/IndexOutOfBoundsException" ∧ inR (B.2 0) x = false ∧ u = setB S 0 B)) E u → (fun r u => (∃ k, k < B.2 0 ∧ x = nI k ∧ r = nI (B.1 0 k) - nI (B.1 1 k) ∧ u = nPut M 3 (nI 0)) ∨ (inS (B.2 0) x = false ∧ r = nI 0 ∧ u = nPut M 3 (nI 1))) r2 u2 → (E = "java/lang/IndexOutOfBoundsException" ∧ u2.1 3 = nI 1 ∧ rel (n + 1) u u2)) := by
  have hA := h.2.1
  have hI := hA.1
  have hn := hI.2.2.1
  have hm := hI.2.2.2.1
  have hQ := hA.2.2.2.2.1
  have hP := hA.2.2.2.2.2.1
  have hr9 := hI.2.2.2.2.2.2.2.2.1
  refine ⟨fun r u r2 u2 hp hq => ?_, fun E u r2 u2 hp hq => ?_⟩
  · obtain ⟨j, rfl, hj, rfl, rfl⟩ := hp
    rcases hq with ⟨k, hk, e, rfl, rfl⟩ | ⟨e, rfl, rfl⟩
    · obtain rfl : j = k := nI_same (by omega) (by omega) e
      exact ⟨rfl, (pk_sub (hr9 j)).symm, rel_q h _⟩
    · exact (c_in (by omega) hj e).elim
  · obtain ⟨rfl, e0, rfl⟩ := hp
    rcases hq with ⟨k, hk, rfl, rfl, rfl⟩ | ⟨e, rfl, rfl⟩
    · exact (c_in (by omega) hk e0).elim
    · exact ⟨rfl, rfl, rel_q h _⟩
theorem cs_isDone {n : Nat} {B : kBd} {nx sz : Nat} {L0 L : List Nat} {ep fp s0 : Nat} {S : kCs} {M : kMs} (h : relD n B nx sz L0 L ep fp s0 S M) {x : Int32} :
    (∀ (r : Int32) (u : kCs) (r2 : Int32) (u2 : kMs), (fun r u => ∃ (j : Nat), x = nI j ∧ j < B.2 0 ∧ r = bz ((decide (j < B.2 0) && decide (B.1 1 j = 0))) ∧ u = setB S 0 B) r u → (fun r u => (∃ k, k < B.2 0 ∧ x = nI k ∧ r = bz (decide (B.1 1 k = 0)) ∧ u = nPut M 3 (nI 0)) ∨ (inS (B.2 0) x = false ∧ r = nI 0 ∧ u = nPut M 3 (nI 1))) r2 u2 → u2.1 3 = nI 0 ∧ r = r2 ∧ rel (n + 1) u u2) ∧
    (∀ (E : String) (u : kCs) (r2 : Int32) (u2 : kMs), (fun E u => (E = "java/lang/IndexOutOfBoundsException" ∧ inR (B.2 0) x = false ∧ u = setB S 0 B)) E u → (fun r u => (∃ k, k < B.2 0 ∧ x = nI k ∧ r = bz (decide (B.1 1 k = 0)) ∧ u = nPut M 3 (nI 0)) ∨ (inS (B.2 0) x = false ∧ r = nI 0 ∧ u = nPut M 3 (nI 1))) r2 u2 → (E = "java/lang/IndexOutOfBoundsException" ∧ u2.1 3 = nI 1 ∧ rel (n + 1) u u2)) := by
  have hA := h.2.1
  have hI := hA.1
  have hn := hI.2.2.1
  have hm := hI.2.2.2.1
  have hQ := hA.2.2.2.2.1
  have hP := hA.2.2.2.2.2.1
  have hr9 := hI.2.2.2.2.2.2.2.2.1
  refine ⟨fun r u r2 u2 hp hq => ?_, fun E u r2 u2 hp hq => ?_⟩
  · obtain ⟨j, rfl, hj, rfl, rfl⟩ := hp
    rcases hq with ⟨k, hk, e, rfl, rfl⟩ | ⟨e, rfl, rfl⟩
    · obtain rfl : j = k := nI_same (by omega) (by omega) e
      exact ⟨rfl, by rw [decide_eq_true hj, Bool.true_and], rel_q h _⟩
    · exact (c_in (by omega) hj e).elim
  · obtain ⟨rfl, e0, rfl⟩ := hp
    rcases hq with ⟨k, hk, rfl, rfl, rfl⟩ | ⟨e, rfl, rfl⟩
    · exact (c_in (by omega) hk e0).elim
    · exact ⟨rfl, rfl, rel_q h _⟩
theorem cs_isBlocked {n : Nat} {B : kBd} {nx sz : Nat} {L0 L : List Nat} {ep fp s0 : Nat} {S : kCs} {M : kMs} (h : relD n B nx sz L0 L ep fp s0 S M) {x : Int32} :
    (∀ (r : Int32) (u : kCs) (r2 : Int32) (u2 : kMs), (fun r u => ∃ (j : Nat), x = nI j ∧ j < B.2 0 ∧ r = bz (decide (0 < opn B j)) ∧ u = setB S 0 B) r u → (fun r u => (∃ k, k < B.2 0 ∧ x = nI k ∧ r = bz (decide (0 < opS B k)) ∧ u = nPut M 3 (nI 0)) ∨ (inS (B.2 0) x = false ∧ r = nI 0 ∧ u = nPut M 3 (nI 1))) r2 u2 → u2.1 3 = nI 0 ∧ r = r2 ∧ rel (n + 1) u u2) ∧
    (∀ (E : String) (u : kCs) (r2 : Int32) (u2 : kMs), (fun E u => (E = "java/lang/IndexOutOfBoundsException" ∧ inR (B.2 0) x = false ∧ u = setB S 0 B)) E u → (fun r u => (∃ k, k < B.2 0 ∧ x = nI k ∧ r = bz (decide (0 < opS B k)) ∧ u = nPut M 3 (nI 0)) ∨ (inS (B.2 0) x = false ∧ r = nI 0 ∧ u = nPut M 3 (nI 1))) r2 u2 → (E = "java/lang/IndexOutOfBoundsException" ∧ u2.1 3 = nI 1 ∧ rel (n + 1) u u2)) := by
  have hA := h.2.1
  have hI := hA.1
  have hn := hI.2.2.1
  have hm := hI.2.2.2.1
  have hQ := hA.2.2.2.2.1
  have hP := hA.2.2.2.2.2.1
  have hr9 := hI.2.2.2.2.2.2.2.2.1
  refine ⟨fun r u r2 u2 hp hq => ?_, fun E u r2 u2 hp hq => ?_⟩
  · obtain ⟨j, rfl, hj, rfl, rfl⟩ := hp
    rcases hq with ⟨k, hk, e, rfl, rfl⟩ | ⟨e, rfl, rfl⟩
    · obtain rfl : j = k := nI_same (by omega) (by omega) e
      exact ⟨rfl, by rw [opn_op hn hQ hj], rel_q h _⟩
    · exact (c_in (by omega) hj e).elim
  · obtain ⟨rfl, e0, rfl⟩ := hp
    rcases hq with ⟨k, hk, rfl, rfl, rfl⟩ | ⟨e, rfl, rfl⟩
    · exact (c_in (by omega) hk e0).elim
    · exact ⟨rfl, rfl, rel_q h _⟩
theorem cs_openBlockers {n : Nat} {B : kBd} {nx sz : Nat} {L0 L : List Nat} {ep fp s0 : Nat} {S : kCs} {M : kMs} (h : relD n B nx sz L0 L ep fp s0 S M) {x : Int32} :
    (∀ (r : Int32) (u : kCs) (r2 : Int32) (u2 : kMs), (fun r u => ∃ (j : Nat), x = nI j ∧ j < B.2 0 ∧ r = nI (opn B j) ∧ u = setB S 0 B) r u → (fun r u => (∃ k, k < B.2 0 ∧ x = nI k ∧ r = nI (opS B k) ∧ u = nPut M 3 (nI 0)) ∨ (inS (B.2 0) x = false ∧ r = nI 0 ∧ u = nPut M 3 (nI 1))) r2 u2 → u2.1 3 = nI 0 ∧ r = r2 ∧ rel (n + 1) u u2) ∧
    (∀ (E : String) (u : kCs) (r2 : Int32) (u2 : kMs), (fun E u => (E = "java/lang/IndexOutOfBoundsException" ∧ inR (B.2 0) x = false ∧ u = setB S 0 B)) E u → (fun r u => (∃ k, k < B.2 0 ∧ x = nI k ∧ r = nI (opS B k) ∧ u = nPut M 3 (nI 0)) ∨ (inS (B.2 0) x = false ∧ r = nI 0 ∧ u = nPut M 3 (nI 1))) r2 u2 → (E = "java/lang/IndexOutOfBoundsException" ∧ u2.1 3 = nI 1 ∧ rel (n + 1) u u2)) := by
  have hA := h.2.1
  have hI := hA.1
  have hn := hI.2.2.1
  have hm := hI.2.2.2.1
  have hQ := hA.2.2.2.2.1
  have hP := hA.2.2.2.2.2.1
  have hr9 := hI.2.2.2.2.2.2.2.2.1
  refine ⟨fun r u r2 u2 hp hq => ?_, fun E u r2 u2 hp hq => ?_⟩
  · obtain ⟨j, rfl, hj, rfl, rfl⟩ := hp
    rcases hq with ⟨k, hk, e, rfl, rfl⟩ | ⟨e, rfl, rfl⟩
    · obtain rfl : j = k := nI_same (by omega) (by omega) e
      exact ⟨rfl, by rw [opn_op hn hQ hj], rel_q h _⟩
    · exact (c_in (by omega) hj e).elim
  · obtain ⟨rfl, e0, rfl⟩ := hp
    rcases hq with ⟨k, hk, rfl, rfl, rfl⟩ | ⟨e, rfl, rfl⟩
    · exact (c_in (by omega) hk e0).elim
    · exact ⟨rfl, rfl, rel_q h _⟩
theorem cs_longestChain {n : Nat} {B : kBd} {nx sz : Nat} {L0 L : List Nat} {ep fp s0 : Nat} {S : kCs} {M : kMs} (h : relD n B nx sz L0 L ep fp s0 S M) {x : Int32} (f0 : Nat → Nat) :
    (∀ (r : Int32) (u : kCs) (r2 : Int32) (u2 : kMs), (fun r u => ∃ (j : Nat), x = nI j ∧ j < B.2 0 ∧ r = nI (chl B j) ∧ u = setB S 0 B) r u → (fun r u => (∃ k, k < B.2 0 ∧ x = nI k ∧ r = nI (chF B f0 k) ∧ u = chW (nPut M 3 (nI 0)) (chF B f0)) ∨ (inS (B.2 0) x = false ∧ r = nI 0 ∧ u = nPut M 3 (nI 1))) r2 u2 → u2.1 3 = nI 0 ∧ r = r2 ∧ rel (n + 1) u u2) ∧
    (∀ (E : String) (u : kCs) (r2 : Int32) (u2 : kMs), (fun E u => (E = "java/lang/IndexOutOfBoundsException" ∧ inR (B.2 0) x = false ∧ u = setB S 0 B)) E u → (fun r u => (∃ k, k < B.2 0 ∧ x = nI k ∧ r = nI (chF B f0 k) ∧ u = chW (nPut M 3 (nI 0)) (chF B f0)) ∨ (inS (B.2 0) x = false ∧ r = nI 0 ∧ u = nPut M 3 (nI 1))) r2 u2 → (E = "java/lang/IndexOutOfBoundsException" ∧ u2.1 3 = nI 1 ∧ rel (n + 1) u u2)) := by
  have hA := h.2.1
  have hI := hA.1
  have hn := hI.2.2.1
  have hm := hI.2.2.2.1
  have hQ := hA.2.2.2.2.1
  have hP := hA.2.2.2.2.2.1
  have hr9 := hI.2.2.2.2.2.2.2.2.1
  refine ⟨fun r u r2 u2 hp hq => ?_, fun E u r2 u2 hp hq => ?_⟩
  · obtain ⟨j, rfl, hj, rfl, rfl⟩ := hp
    rcases hq with ⟨k, hk, e, rfl, rfl⟩ | ⟨e, rfl, rfl⟩
    · obtain rfl : j = k := nI_same (by omega) (by omega) e
      exact ⟨rfl, by rw [chF_chl hA f0 hj], rel_ch h _ _⟩
    · exact (c_in (by omega) hj e).elim
  · obtain ⟨rfl, e0, rfl⟩ := hp
    rcases hq with ⟨k, hk, rfl, rfl, rfl⟩ | ⟨e, rfl, rfl⟩
    · exact (c_in (by omega) hk e0).elim
    · exact ⟨rfl, rfl, rel_q h _⟩
theorem cs_isPlanned {n : Nat} {B : kBd} {nx sz : Nat} {L0 L : List Nat} {ep fp s0 : Nat} {S : kCs} {M : kMs} (h : relD n B nx sz L0 L ep fp s0 S M) {x : Int32} :
    (∀ (r : Int32) (u : kCs) (r2 : Int32) (u2 : kMs), (fun r u => ∃ (j : Nat), x = nI j ∧ j < B.2 0 ∧ r = bz ((decide (j < B.2 0) && (B.2 2).testBit j)) ∧ u = setB S 0 B) r u → (fun r u => (∃ k, k < B.2 0 ∧ x = nI k ∧ r = bz ((B.2 2).testBit k) ∧ u = nPut M 3 (nI 0)) ∨ (inS (B.2 0) x = false ∧ r = nI 0 ∧ u = nPut M 3 (nI 1))) r2 u2 → u2.1 3 = nI 0 ∧ r = r2 ∧ rel (n + 1) u u2) ∧
    (∀ (E : String) (u : kCs) (r2 : Int32) (u2 : kMs), (fun E u => (E = "java/lang/IndexOutOfBoundsException" ∧ inR (B.2 0) x = false ∧ u = setB S 0 B)) E u → (fun r u => (∃ k, k < B.2 0 ∧ x = nI k ∧ r = bz ((B.2 2).testBit k) ∧ u = nPut M 3 (nI 0)) ∨ (inS (B.2 0) x = false ∧ r = nI 0 ∧ u = nPut M 3 (nI 1))) r2 u2 → (E = "java/lang/IndexOutOfBoundsException" ∧ u2.1 3 = nI 1 ∧ rel (n + 1) u u2)) := by
  have hA := h.2.1
  have hI := hA.1
  have hn := hI.2.2.1
  have hm := hI.2.2.2.1
  have hQ := hA.2.2.2.2.1
  have hP := hA.2.2.2.2.2.1
  have hr9 := hI.2.2.2.2.2.2.2.2.1
  refine ⟨fun r u r2 u2 hp hq => ?_, fun E u r2 u2 hp hq => ?_⟩
  · obtain ⟨j, rfl, hj, rfl, rfl⟩ := hp
    rcases hq with ⟨k, hk, e, rfl, rfl⟩ | ⟨e, rfl, rfl⟩
    · obtain rfl : j = k := nI_same (by omega) (by omega) e
      exact ⟨rfl, by rw [decide_eq_true hj, Bool.true_and], rel_q h _⟩
    · exact (c_in (by omega) hj e).elim
  · obtain ⟨rfl, e0, rfl⟩ := hp
    rcases hq with ⟨k, hk, rfl, rfl, rfl⟩ | ⟨e, rfl, rfl⟩
    · exact (c_in (by omega) hk e0).elim
    · exact ⟨rfl, rfl, rel_q h _⟩
theorem cs_speedOf {n : Nat} {B : kBd} {nx sz : Nat} {L0 L : List Nat} {ep fp s0 : Nat} {S : kCs} {M : kMs} (h : relD n B nx sz L0 L ep fp s0 S M) {x : Int32} :
    (∀ (r : Int32) (u : kCs) (r2 : Int32) (u2 : kMs), (fun r u => ∃ (k : Nat), x = nI k ∧ k < B.2 1 ∧ r = nI (B.1 3 k) ∧ u = setB S 0 B) r u → (fun r u => (∃ k, k < B.2 1 ∧ x = nI k ∧ r = nI (B.1 3 k) ∧ u = nPut M 3 (nI 0)) ∨ (inS (B.2 1) x = false ∧ r = nI 0 ∧ u = nPut M 3 (nI 1))) r2 u2 → u2.1 3 = nI 0 ∧ r = r2 ∧ rel (n + 1) u u2) ∧
    (∀ (E : String) (u : kCs) (r2 : Int32) (u2 : kMs), (fun E u => (E = "java/lang/IndexOutOfBoundsException" ∧ inR (B.2 1) x = false ∧ u = setB S 0 B)) E u → (fun r u => (∃ k, k < B.2 1 ∧ x = nI k ∧ r = nI (B.1 3 k) ∧ u = nPut M 3 (nI 0)) ∨ (inS (B.2 1) x = false ∧ r = nI 0 ∧ u = nPut M 3 (nI 1))) r2 u2 → (E = "java/lang/IndexOutOfBoundsException" ∧ u2.1 3 = nI 1 ∧ rel (n + 1) u u2)) := by
  have hA := h.2.1
  have hI := hA.1
  have hn := hI.2.2.1
  have hm := hI.2.2.2.1
  have hQ := hA.2.2.2.2.1
  have hP := hA.2.2.2.2.2.1
  have hr9 := hI.2.2.2.2.2.2.2.2.1
  refine ⟨fun r u r2 u2 hp hq => ?_, fun E u r2 u2 hp hq => ?_⟩
  · obtain ⟨j, rfl, hj, rfl, rfl⟩ := hp
    rcases hq with ⟨k, hk, e, rfl, rfl⟩ | ⟨e, rfl, rfl⟩
    · obtain rfl : j = k := nI_same (by omega) (by omega) e
      exact ⟨rfl, rfl, rel_q h _⟩
    · exact (c_in (by omega) hj e).elim
  · obtain ⟨rfl, e0, rfl⟩ := hp
    rcases hq with ⟨k, hk, rfl, rfl, rfl⟩ | ⟨e, rfl, rfl⟩
    · exact (c_in (by omega) hk e0).elim
    · exact ⟨rfl, rfl, rel_q h _⟩
theorem cs_isBlocker {n : Nat} {B : kBd} {nx sz : Nat} {L0 L : List Nat} {ep fp s0 : Nat} {S : kCs} {M : kMs} (h : relD n B nx sz L0 L ep fp s0 S M) {x y : Int32} :
    (∀ (r : Int32) (u : kCs) (r2 : Int32) (u2 : kMs), (fun r u => ∃ (j : Nat) (k : Nat), x = nI j ∧ j < B.2 0 ∧ y = nI k ∧ k < B.2 0 ∧ r = bz (((decide (j < B.2 0) && decide (k < B.2 0)) && (B.1 2 j).testBit k)) ∧ u = setB S 0 B) r u → (fun r u => (∃ j k, j < B.2 0 ∧ k < B.2 0 ∧ x = nI j ∧ y = nI k ∧ r = bz ((B.1 2 j).testBit k) ∧ u = nPut M 3 (nI 0)) ∨ ((inS (B.2 0) x && inS (B.2 0) y) = false ∧ r = nI 0 ∧ u = nPut M 3 (nI 1))) r2 u2 → u2.1 3 = nI 0 ∧ r = r2 ∧ rel (n + 1) u u2) ∧
    (∀ (E : String) (u : kCs) (r2 : Int32) (u2 : kMs), (fun E u => (E = "java/lang/IndexOutOfBoundsException" ∧ inR (B.2 0) x = false ∧ u = setB S 0 B) ∨ (∃ (j : Nat), x = nI j ∧ j < B.2 0 ∧ E = "java/lang/IndexOutOfBoundsException" ∧ inR (B.2 0) y = false ∧ u = setB S 0 B)) E u → (fun r u => (∃ j k, j < B.2 0 ∧ k < B.2 0 ∧ x = nI j ∧ y = nI k ∧ r = bz ((B.1 2 j).testBit k) ∧ u = nPut M 3 (nI 0)) ∨ ((inS (B.2 0) x && inS (B.2 0) y) = false ∧ r = nI 0 ∧ u = nPut M 3 (nI 1))) r2 u2 → (E = "java/lang/IndexOutOfBoundsException" ∧ u2.1 3 = nI 1 ∧ rel (n + 1) u u2)) := by
  have hA := h.2.1
  have hI := hA.1
  have hn := hI.2.2.1
  have hm := hI.2.2.2.1
  have hQ := hA.2.2.2.2.1
  have hP := hA.2.2.2.2.2.1
  have hr9 := hI.2.2.2.2.2.2.2.2.1
  refine ⟨fun r u r2 u2 hp hq => ?_, fun E u r2 u2 hp hq => ?_⟩
  · obtain ⟨j, k, rfl, hj, rfl, hk, rfl, rfl⟩ := hp
    rcases hq with ⟨j2, k2, hj2, hk2, e1, e2, rfl, rfl⟩ | ⟨e, rfl, rfl⟩
    · obtain rfl : j = j2 := nI_same (by omega) (by omega) e1
      obtain rfl : k = k2 := nI_same (by omega) (by omega) e2
      exact ⟨rfl, by rw [decide_eq_true hj, decide_eq_true hk]; rfl, rel_q h _⟩
    · exact (c_in2 (by omega) (by omega) hj hk e).elim
  · rcases hp with ⟨rfl, e0, rfl⟩ | ⟨j, rfl, hj, rfl, e0, rfl⟩
    · rcases hq with ⟨j2, k2, hj2, hk2, rfl, rfl, rfl, rfl⟩ | ⟨e, rfl, rfl⟩
      · exact (c_in (by omega) hj2 e0).elim
      · exact ⟨rfl, rfl, rel_q h _⟩
    · rcases hq with ⟨j2, k2, hj2, hk2, e1, rfl, rfl, rfl⟩ | ⟨e, rfl, rfl⟩
      · exact (c_in (by omega) hk2 e0).elim
      · exact ⟨rfl, rfl, rel_q h _⟩
theorem cs_dependsOn {n : Nat} {B : kBd} {nx sz : Nat} {L0 L : List Nat} {ep fp s0 : Nat} {S : kCs} {M : kMs} (h : relD n B nx sz L0 L ep fp s0 S M) {x y : Int32} :
    (∀ (r : Int32) (u : kCs) (r2 : Int32) (u2 : kMs), (fun r u => ∃ (j : Nat) (k : Nat), x = nI j ∧ j < B.2 0 ∧ y = nI k ∧ k < B.2 0 ∧ r = bz (fnd B j k) ∧ u = setB S 0 B) r u → (fun r u => (∃ j k, j < B.2 0 ∧ k < B.2 0 ∧ x = nI j ∧ y = nI k ∧ r = bz ((und B j).testBit k) ∧ u = nPut M 3 (nI 0)) ∨ ((inS (B.2 0) x && inS (B.2 0) y) = false ∧ r = nI 0 ∧ u = nPut M 3 (nI 1))) r2 u2 → u2.1 3 = nI 0 ∧ r = r2 ∧ rel (n + 1) u u2) ∧
    (∀ (E : String) (u : kCs) (r2 : Int32) (u2 : kMs), (fun E u => (E = "java/lang/IndexOutOfBoundsException" ∧ inR (B.2 0) x = false ∧ u = setB S 0 B) ∨ (∃ (j : Nat), x = nI j ∧ j < B.2 0 ∧ E = "java/lang/IndexOutOfBoundsException" ∧ inR (B.2 0) y = false ∧ u = setB S 0 B)) E u → (fun r u => (∃ j k, j < B.2 0 ∧ k < B.2 0 ∧ x = nI j ∧ y = nI k ∧ r = bz ((und B j).testBit k) ∧ u = nPut M 3 (nI 0)) ∨ ((inS (B.2 0) x && inS (B.2 0) y) = false ∧ r = nI 0 ∧ u = nPut M 3 (nI 1))) r2 u2 → (E = "java/lang/IndexOutOfBoundsException" ∧ u2.1 3 = nI 1 ∧ rel (n + 1) u u2)) := by
  have hA := h.2.1
  have hI := hA.1
  have hn := hI.2.2.1
  have hm := hI.2.2.2.1
  have hQ := hA.2.2.2.2.1
  have hP := hA.2.2.2.2.2.1
  have hr9 := hI.2.2.2.2.2.2.2.2.1
  refine ⟨fun r u r2 u2 hp hq => ?_, fun E u r2 u2 hp hq => ?_⟩
  · obtain ⟨j, k, rfl, hj, rfl, hk, rfl, rfl⟩ := hp
    rcases hq with ⟨j2, k2, hj2, hk2, e1, e2, rfl, rfl⟩ | ⟨e, rfl, rfl⟩
    · obtain rfl : j = j2 := nI_same (by omega) (by omega) e1
      obtain rfl : k = k2 := nI_same (by omega) (by omega) e2
      exact ⟨rfl, by rw [und_fnd hA hj hk], rel_q h _⟩
    · exact (c_in2 (by omega) (by omega) hj hk e).elim
  · rcases hp with ⟨rfl, e0, rfl⟩ | ⟨j, rfl, hj, rfl, e0, rfl⟩
    · rcases hq with ⟨j2, k2, hj2, hk2, rfl, rfl, rfl, rfl⟩ | ⟨e, rfl, rfl⟩
      · exact (c_in (by omega) hj2 e0).elim
      · exact ⟨rfl, rfl, rel_q h _⟩
    · rcases hq with ⟨j2, k2, hj2, hk2, e1, rfl, rfl, rfl⟩ | ⟨e, rfl, rfl⟩
      · exact (c_in (by omega) hk2 e0).elim
      · exact ⟨rfl, rfl, rel_q h _⟩
theorem cs_dependsOnByClosure {n : Nat} {B : kBd} {nx sz : Nat} {L0 L : List Nat} {ep fp s0 : Nat} {S : kCs} {M : kMs} (h : relD n B nx sz L0 L ep fp s0 S M) {x y : Int32} :
    (∀ (r : Int32) (u : kCs) (r2 : Int32) (u2 : kMs), (fun r u => ∃ (j : Nat) (k : Nat), x = nI j ∧ j < B.2 0 ∧ y = nI k ∧ k < B.2 0 ∧ r = bz ((wsO B 16 j).testBit k) ∧ u = clW (setB S 0 B) 16 (wsO B 16)) r u → (fun r u => (∃ j k, j < B.2 0 ∧ k < B.2 0 ∧ x = nI j ∧ y = nI k ∧ r = bz ((und B j).testBit k) ∧ u = nPut M 3 (nI 0)) ∨ ((inS (B.2 0) x && inS (B.2 0) y) = false ∧ r = nI 0 ∧ u = nPut M 3 (nI 1))) r2 u2 → u2.1 3 = nI 0 ∧ r = r2 ∧ rel (n + 1) u u2) ∧
    (∀ (E : String) (u : kCs) (r2 : Int32) (u2 : kMs), (fun E u => (E = "java/lang/IndexOutOfBoundsException" ∧ inR (B.2 0) x = false ∧ u = setB S 0 B) ∨ (∃ (j : Nat), x = nI j ∧ j < B.2 0 ∧ E = "java/lang/IndexOutOfBoundsException" ∧ inR (B.2 0) y = false ∧ u = setB S 0 B)) E u → (fun r u => (∃ j k, j < B.2 0 ∧ k < B.2 0 ∧ x = nI j ∧ y = nI k ∧ r = bz ((und B j).testBit k) ∧ u = nPut M 3 (nI 0)) ∨ ((inS (B.2 0) x && inS (B.2 0) y) = false ∧ r = nI 0 ∧ u = nPut M 3 (nI 1))) r2 u2 → (E = "java/lang/IndexOutOfBoundsException" ∧ u2.1 3 = nI 1 ∧ rel (n + 1) u u2)) := by
  have hA := h.2.1
  have hI := hA.1
  have hn := hI.2.2.1
  have hm := hI.2.2.2.1
  have hQ := hA.2.2.2.2.1
  have hP := hA.2.2.2.2.2.1
  have hr9 := hI.2.2.2.2.2.2.2.2.1
  refine ⟨fun r u r2 u2 hp hq => ?_, fun E u r2 u2 hp hq => ?_⟩
  · obtain ⟨j, k, rfl, hj, rfl, hk, rfl, rfl⟩ := hp
    rcases hq with ⟨j2, k2, hj2, hk2, e1, e2, rfl, rfl⟩ | ⟨e, rfl, rfl⟩
    · obtain rfl : j = j2 := nI_same (by omega) (by omega) e1
      obtain rfl : k = k2 := nI_same (by omega) (by omega) e2
      exact ⟨rfl, by rw [und_wsO hA], by rw [rel_S h]; have hc := rel_x h (nI 0) (S' := clW S 16 (wsO B 16)) (sEq_c S B _) (h.2.2.2.2.2.2.2.2.1 1 (by decide)); rw [show setB (clW S 16 (wsO B 16)) 0 B = clW S 16 (wsO B 16) from by have := setB_self (clW S 16 (wsO B 16)) 0; rw [show (clW S 16 (wsO B 16)).1 0 = B from h.1] at this; exact this] at hc; exact hc⟩
    · exact (c_in2 (by omega) (by omega) hj hk e).elim
  · rcases hp with ⟨rfl, e0, rfl⟩ | ⟨j, rfl, hj, rfl, e0, rfl⟩
    · rcases hq with ⟨j2, k2, hj2, hk2, rfl, rfl, rfl, rfl⟩ | ⟨e, rfl, rfl⟩
      · exact (c_in (by omega) hj2 e0).elim
      · exact ⟨rfl, rfl, rel_q h _⟩
    · rcases hq with ⟨j2, k2, hj2, hk2, e1, rfl, rfl, rfl⟩ | ⟨e, rfl, rfl⟩
      · exact (c_in (by omega) hk2 e0).elim
      · exact ⟨rfl, rfl, rel_q h _⟩
theorem cs_storyOf {n : Nat} {B : kBd} {nx sz : Nat} {L0 L : List Nat} {ep fp s0 : Nat} {S : kCs} {M : kMs} (h : relD n B nx sz L0 L ep fp s0 S M) {x : Int32} :
    (∀ (r : Int32) (u : kCs) (r2 : Int32) (u2 : kMs), (fun r u => ∃ (k : Nat), x = nI k ∧ k < B.2 1 ∧ B.1 4 k ≠ 0 ∧ r = nI (B.1 4 k) - 1 ∧ u = setB S 0 B) r u → (fun r u => (∃ k, k < B.2 1 ∧ x = nI k ∧ B.1 4 k ≠ 0 ∧ r = nI (B.1 4 k) - 1 ∧ u = nPut M 3 (nI 0)) ∨ (inS (B.2 1) x = false ∧ r = nI 0 ∧ u = nPut M 3 (nI 1)) ∨ (∃ k, k < B.2 1 ∧ x = nI k ∧ B.1 4 k = 0 ∧ r = nI 0 ∧ u = nPut M 3 (nI 2))) r2 u2 → u2.1 3 = nI 0 ∧ r = r2 ∧ rel (n + 1) u u2) ∧
    (∀ (E : String) (u : kCs) (r2 : Int32) (u2 : kMs), (fun E u => (E = "java/lang/IndexOutOfBoundsException" ∧ inR (B.2 1) x = false ∧ u = setB S 0 B) ∨ (∃ (k : Nat), x = nI k ∧ k < B.2 1 ∧ E = "java/util/NoSuchElementException" ∧ B.1 4 k = 0 ∧ u = setB S 0 B)) E u → (fun r u => (∃ k, k < B.2 1 ∧ x = nI k ∧ B.1 4 k ≠ 0 ∧ r = nI (B.1 4 k) - 1 ∧ u = nPut M 3 (nI 0)) ∨ (inS (B.2 1) x = false ∧ r = nI 0 ∧ u = nPut M 3 (nI 1)) ∨ (∃ k, k < B.2 1 ∧ x = nI k ∧ B.1 4 k = 0 ∧ r = nI 0 ∧ u = nPut M 3 (nI 2))) r2 u2 → (E = "java/lang/IndexOutOfBoundsException" ∧ u2.1 3 = nI 1 ∧ rel (n + 1) u u2) ∨ (E = "java/util/NoSuchElementException" ∧ u2.1 3 = nI 2 ∧ rel (n + 1) u u2)) := by
  have hA := h.2.1
  have hI := hA.1
  have hn := hI.2.2.1
  have hm := hI.2.2.2.1
  have hQ := hA.2.2.2.2.1
  have hP := hA.2.2.2.2.2.1
  have hr9 := hI.2.2.2.2.2.2.2.2.1
  refine ⟨fun r u r2 u2 hp hq => ?_, fun E u r2 u2 hp hq => ?_⟩
  · obtain ⟨k, rfl, hk, h1, rfl, rfl⟩ := hp
    rcases hq with ⟨j, hj, e, h2, rfl, rfl⟩ | ⟨e, rfl, rfl⟩ | ⟨j, hj, e, h2, rfl, rfl⟩
    · obtain rfl : k = j := nI_same (by omega) (by omega) e
      exact ⟨rfl, rfl, rel_q h _⟩
    · exact (c_in (by omega) hk e).elim
    · obtain rfl : k = j := nI_same (by omega) (by omega) e
      exact absurd h2 h1
  · rcases hp with ⟨rfl, e0, rfl⟩ | ⟨k, rfl, hk, rfl, h1, rfl⟩
    · rcases hq with ⟨j, hj, rfl, h2, rfl, rfl⟩ | ⟨e, rfl, rfl⟩ | ⟨j, hj, rfl, h2, rfl, rfl⟩
      · exact (c_in (by omega) hj e0).elim
      · exact Or.inl ⟨rfl, rfl, rel_q h _⟩
      · exact (c_in (by omega) hj e0).elim
    · rcases hq with ⟨j, hj, e, h2, rfl, rfl⟩ | ⟨e, rfl, rfl⟩ | ⟨j, hj, e, h2, rfl, rfl⟩
      · obtain rfl : k = j := nI_same (by omega) (by omega) e
        exact absurd h1 h2
      · exact (c_in (by omega) hk e).elim
      · exact Or.inr ⟨rfl, rfl, rel_q h _⟩
theorem cs_developerOf {n : Nat} {B : kBd} {nx sz : Nat} {L0 L : List Nat} {ep fp s0 : Nat} {S : kCs} {M : kMs} (h : relD n B nx sz L0 L ep fp s0 S M) {x : Int32} :
    (∀ (r : Int32) (u : kCs) (r2 : Int32) (u2 : kMs), (fun r u => ∃ (j : Nat), x = nI j ∧ j < B.2 0 ∧ asgOf B j ≠ 0 ∧ r = nI (asgOf B j) - 1 ∧ u = setB S 0 B) r u → (fun r u => (∃ k, k < B.2 0 ∧ x = nI k ∧ asgOf B k ≠ 0 ∧ r = nI (asgOf B k) - 1 ∧ u = nPut M 3 (nI 0)) ∨ (inS (B.2 0) x = false ∧ r = nI 0 ∧ u = nPut M 3 (nI 1)) ∨ (∃ k, k < B.2 0 ∧ x = nI k ∧ asgOf B k = 0 ∧ r = nI 0 ∧ u = nPut M 3 (nI 2))) r2 u2 → u2.1 3 = nI 0 ∧ r = r2 ∧ rel (n + 1) u u2) ∧
    (∀ (E : String) (u : kCs) (r2 : Int32) (u2 : kMs), (fun E u => (E = "java/lang/IndexOutOfBoundsException" ∧ inR (B.2 0) x = false ∧ u = setB S 0 B) ∨ (∃ (j : Nat), x = nI j ∧ j < B.2 0 ∧ E = "java/util/NoSuchElementException" ∧ asgOf B j = 0 ∧ u = setB S 0 B)) E u → (fun r u => (∃ k, k < B.2 0 ∧ x = nI k ∧ asgOf B k ≠ 0 ∧ r = nI (asgOf B k) - 1 ∧ u = nPut M 3 (nI 0)) ∨ (inS (B.2 0) x = false ∧ r = nI 0 ∧ u = nPut M 3 (nI 1)) ∨ (∃ k, k < B.2 0 ∧ x = nI k ∧ asgOf B k = 0 ∧ r = nI 0 ∧ u = nPut M 3 (nI 2))) r2 u2 → (E = "java/lang/IndexOutOfBoundsException" ∧ u2.1 3 = nI 1 ∧ rel (n + 1) u u2) ∨ (E = "java/util/NoSuchElementException" ∧ u2.1 3 = nI 2 ∧ rel (n + 1) u u2)) := by
  have hA := h.2.1
  have hI := hA.1
  have hn := hI.2.2.1
  have hm := hI.2.2.2.1
  have hQ := hA.2.2.2.2.1
  have hP := hA.2.2.2.2.2.1
  have hr9 := hI.2.2.2.2.2.2.2.2.1
  refine ⟨fun r u r2 u2 hp hq => ?_, fun E u r2 u2 hp hq => ?_⟩
  · obtain ⟨k, rfl, hk, h1, rfl, rfl⟩ := hp
    rcases hq with ⟨j, hj, e, h2, rfl, rfl⟩ | ⟨e, rfl, rfl⟩ | ⟨j, hj, e, h2, rfl, rfl⟩
    · obtain rfl : k = j := nI_same (by omega) (by omega) e
      exact ⟨rfl, rfl, rel_q h _⟩
    · exact (c_in (by omega) hk e).elim
    · obtain rfl : k = j := nI_same (by omega) (by omega) e
      exact absurd h2 h1
  · rcases hp with ⟨rfl, e0, rfl⟩ | ⟨k, rfl, hk, rfl, h1, rfl⟩
    · rcases hq with ⟨j, hj, rfl, h2, rfl, rfl⟩ | ⟨e, rfl, rfl⟩ | ⟨j, hj, rfl, h2, rfl, rfl⟩
      · exact (c_in (by omega) hj e0).elim
      · exact Or.inl ⟨rfl, rfl, rel_q h _⟩
      · exact (c_in (by omega) hj e0).elim
    · rcases hq with ⟨j, hj, e, h2, rfl, rfl⟩ | ⟨e, rfl, rfl⟩ | ⟨j, hj, e, h2, rfl, rfl⟩
      · obtain rfl : k = j := nI_same (by omega) (by omega) e
        exact absurd h1 h2
      · exact (c_in (by omega) hk e).elim
      · exact Or.inr ⟨rfl, rfl, rel_q h _⟩
theorem cs_storyInOrder {n : Nat} {B : kBd} {nx sz : Nat} {L0 L : List Nat} {ep fp s0 : Nat} {S : kCs} {M : kMs} (h : relD n B nx sz L0 L ep fp s0 S M) {x : Int32} :
    (∀ (r : Int32) (u : kCs) (r2 : Int32) (u2 : kMs), (fun r u => sat B (x : Int32).toInt ≠ 0 ∧ r = nI (sat B (x : Int32).toInt) - 1 ∧ u = setB S 0 B) r u → (fun r u => (∃ k, k < B.2 0 ∧ x = nI k ∧ r = nI (frd B (cmN B k) - 1) ∧ u = nPut M 3 (nI 0)) ∨ (inS (B.2 0) x = false ∧ r = nI 0 ∧ u = nPut M 3 (nI 1))) r2 u2 → u2.1 3 = nI 0 ∧ r = r2 ∧ rel (n + 1) u u2) ∧
    (∀ (E : String) (u : kCs) (r2 : Int32) (u2 : kMs), (fun E u => (E = "java/util/NoSuchElementException" ∧ sat B (x : Int32).toInt = 0 ∧ u = setB S 0 B)) E u → (fun r u => (∃ k, k < B.2 0 ∧ x = nI k ∧ r = nI (frd B (cmN B k) - 1) ∧ u = nPut M 3 (nI 0)) ∨ (inS (B.2 0) x = false ∧ r = nI 0 ∧ u = nPut M 3 (nI 1))) r2 u2 → (E = "java/util/NoSuchElementException" ∧ u2.1 3 = nI 1 ∧ rel (n + 1) u u2)) := by
  have hA := h.2.1
  have hI := hA.1
  have hn := hI.2.2.1
  have hm := hI.2.2.2.1
  have hQ := hA.2.2.2.2.1
  have hP := hA.2.2.2.2.2.1
  have hr9 := hI.2.2.2.2.2.2.2.2.1
  refine ⟨fun r u r2 u2 hp hq => ?_, fun E u r2 u2 hp hq => ?_⟩
  · obtain ⟨h0, rfl, rfl⟩ := hp
    rw [sat_ok (bA_R hA) hn] at h0
    rcases hq with ⟨k, hk, rfl, rfl, rfl⟩ | ⟨e, rfl, rfl⟩
    · refine ⟨rfl, ?_, rel_q h _⟩
      rw [sat_ok (bA_R hA) hn]
      rw [tN (n := k) (by omega)] at h0 ⊢
      rw [if_pos (by omega)] at h0 ⊢
      rw [show ((k : Int)).toNat = k from Int.toNat_natCast k] at h0 ⊢
      exact pk_sub (b := 1) (by omega)
    · by_cases c : 0 ≤ (x : Int32).toInt ∧ x.toInt < (B.2 0 : Nat)
      · exact (c_bb (show inS (B.2 0) x = true from decide_eq_true c) e).elim
      · rw [if_neg c] at h0; exact absurd rfl h0
  · obtain ⟨rfl, h0, rfl⟩ := hp
    rw [sat_ok (bA_R hA) hn] at h0
    rcases hq with ⟨k, hk, rfl, rfl, rfl⟩ | ⟨e, rfl, rfl⟩
    · rw [tN (n := k) (by omega), if_pos (by omega), show ((k : Int)).toNat = k from Int.toNat_natCast k] at h0
      exact absurd h0 (bA_R hA k hk)
    · exact ⟨rfl, rfl, rel_q h _⟩
theorem cs_daysPassed {n : Nat} {B : kBd} {nx sz : Nat} {L0 L : List Nat} {ep fp s0 : Nat} {S : kCs} {M : kMs} (h : relD n B nx sz L0 L ep fp s0 S M) :
    (∀ (r : Int32) (u : kCs) (r2 : Int32) (u2 : kMs), (fun r u => (decide (B.2 3 ≠ 0)) = true ∧ r = nI (B.2 5) ∧ u = setB S 0 B) r u → (fun r u => (B.2 3 ≠ 0 ∧ r = nI (B.2 5) ∧ u = nPut M 3 (nI 0)) ∨ (B.2 3 = 0 ∧ r = nI 0 ∧ u = nPut M 3 (nI 1))) r2 u2 → u2.1 3 = nI 0 ∧ r = r2 ∧ rel (n + 1) u u2) ∧
    (∀ (E : String) (u : kCs) (r2 : Int32) (u2 : kMs), (fun E u => (E = "java/util/NoSuchElementException" ∧ (decide (B.2 3 ≠ 0)) = false ∧ u = setB S 0 B)) E u → (fun r u => (B.2 3 ≠ 0 ∧ r = nI (B.2 5) ∧ u = nPut M 3 (nI 0)) ∨ (B.2 3 = 0 ∧ r = nI 0 ∧ u = nPut M 3 (nI 1))) r2 u2 → (E = "java/util/NoSuchElementException" ∧ u2.1 3 = nI 1 ∧ rel (n + 1) u u2)) := by
  have hA := h.2.1
  have hI := hA.1
  have hn := hI.2.2.1
  have hm := hI.2.2.2.1
  have hQ := hA.2.2.2.2.1
  have hP := hA.2.2.2.2.2.1
  have hr9 := hI.2.2.2.2.2.2.2.2.1
  refine ⟨fun r u r2 u2 hp hq => ?_, fun E u r2 u2 hp hq => ?_⟩
  · obtain ⟨h1, rfl, rfl⟩ := hp
    rcases hq with ⟨h2, rfl, rfl⟩ | ⟨h2, rfl, rfl⟩
    · exact ⟨rfl, rfl, rel_q h _⟩
    · exact absurd h2 (of_decide_eq_true h1)
  · obtain ⟨rfl, h1, rfl⟩ := hp
    rcases hq with ⟨h2, rfl, rfl⟩ | ⟨h2, rfl, rfl⟩
    · exact absurd h2 (of_decide_eq_false h1)
    · exact ⟨rfl, rfl, rel_q h _⟩
theorem cs_scopeChange {n : Nat} {B : kBd} {nx sz : Nat} {L0 L : List Nat} {ep fp s0 : Nat} {S : kCs} {M : kMs} (h : relD n B nx sz L0 L ep fp s0 S M) :
    (∀ (r : Int32) (u : kCs) (r2 : Int32) (u2 : kMs), (fun r u => (decide (B.2 3 ≠ 0)) = true ∧ r = nI (psum B 0) - nI (B.2 6) ∧ u = setB S 0 B) r u → (fun r u => (B.2 3 ≠ 0 ∧ r = nI (plS B 0) - nI (B.2 6) ∧ u = nPut M 3 (nI 0)) ∨ (B.2 3 = 0 ∧ r = nI 0 ∧ u = nPut M 3 (nI 1))) r2 u2 → u2.1 3 = nI 0 ∧ r = r2 ∧ rel (n + 1) u u2) ∧
    (∀ (E : String) (u : kCs) (r2 : Int32) (u2 : kMs), (fun E u => (E = "java/util/NoSuchElementException" ∧ (decide (B.2 3 ≠ 0)) = false ∧ u = setB S 0 B)) E u → (fun r u => (B.2 3 ≠ 0 ∧ r = nI (plS B 0) - nI (B.2 6) ∧ u = nPut M 3 (nI 0)) ∨ (B.2 3 = 0 ∧ r = nI 0 ∧ u = nPut M 3 (nI 1))) r2 u2 → (E = "java/util/NoSuchElementException" ∧ u2.1 3 = nI 1 ∧ rel (n + 1) u u2)) := by
  have hA := h.2.1
  have hI := hA.1
  have hn := hI.2.2.1
  have hm := hI.2.2.2.1
  have hQ := hA.2.2.2.2.1
  have hP := hA.2.2.2.2.2.1
  have hr9 := hI.2.2.2.2.2.2.2.2.1
  refine ⟨fun r u r2 u2 hp hq => ?_, fun E u r2 u2 hp hq => ?_⟩
  · obtain ⟨h1, rfl, rfl⟩ := hp
    rcases hq with ⟨h2, rfl, rfl⟩ | ⟨h2, rfl, rfl⟩
    · exact ⟨rfl, by rw [psum_pl hn hP], rel_q h _⟩
    · exact absurd h2 (of_decide_eq_true h1)
  · obtain ⟨rfl, h1, rfl⟩ := hp
    rcases hq with ⟨h2, rfl, rfl⟩ | ⟨h2, rfl, rfl⟩
    · exact absurd h2 (of_decide_eq_false h1)
    · exact ⟨rfl, rfl, rel_q h _⟩
theorem cs_burnDown {n : Nat} {B : kBd} {nx sz : Nat} {L0 L : List Nat} {ep fp s0 : Nat} {S : kCs} {M : kMs} (h : relD n B nx sz L0 L ep fp s0 S M) {x : Int32} :
    (∀ (r : Int32) (u : kCs) (r2 : Int32) (u2 : kMs), (fun r u => ∃ (k : Nat), ((decide (B.2 3 ≠ 0) && decide (0 ≤ (x : Int32).toInt ∧ (x : Int32).toInt ≤ (B.2 5 : Nat)))) = true ∧ x = nI k ∧ k ≤ B.2 5 ∧ r = nI (B.1 5 k) ∧ u = setB S 0 B) r u → (fun r u => (∃ k : Nat, B.2 3 ≠ 0 ∧ k ≤ B.2 5 ∧ x = nI k ∧ r = nI (B.1 5 k) ∧ u = nPut M 3 (nI 0)) ∨ ((B.2 3 = 0 ∨ ¬ (0 ≤ x.toInt ∧ x.toInt ≤ (B.2 5 : Nat))) ∧ r = nI 0 ∧ u = nPut M 3 (nI 1))) r2 u2 → u2.1 3 = nI 0 ∧ r = r2 ∧ rel (n + 1) u u2) ∧
    (∀ (E : String) (u : kCs) (r2 : Int32) (u2 : kMs), (fun E u => (E = "java/util/NoSuchElementException" ∧ ((decide (B.2 3 ≠ 0) && decide (0 ≤ (x : Int32).toInt ∧ (x : Int32).toInt ≤ (B.2 5 : Nat)))) = false ∧ u = setB S 0 B)) E u → (fun r u => (∃ k : Nat, B.2 3 ≠ 0 ∧ k ≤ B.2 5 ∧ x = nI k ∧ r = nI (B.1 5 k) ∧ u = nPut M 3 (nI 0)) ∨ ((B.2 3 = 0 ∨ ¬ (0 ≤ x.toInt ∧ x.toInt ≤ (B.2 5 : Nat))) ∧ r = nI 0 ∧ u = nPut M 3 (nI 1))) r2 u2 → (E = "java/util/NoSuchElementException" ∧ u2.1 3 = nI 1 ∧ rel (n + 1) u u2)) := by
  have hA := h.2.1
  have hI := hA.1
  have hn := hI.2.2.1
  have hm := hI.2.2.2.1
  have hQ := hA.2.2.2.2.1
  have hP := hA.2.2.2.2.2.1
  have hr9 := hI.2.2.2.2.2.2.2.2.1
  refine ⟨fun r u r2 u2 hp hq => ?_, fun E u r2 u2 hp hq => ?_⟩
  · obtain ⟨k, h1, rfl, hk, rfl, rfl⟩ := hp
    have g1 := of_decide_eq_true (band_l h1)
    have g2 := of_decide_eq_true (band_r h1)
    rcases hq with ⟨j, h2, hj, e, rfl, rfl⟩ | ⟨h2, rfl, rfl⟩
    · have h54 := hI.2.2.2.2.2.1
      have h4 := hI.2.2.2.2.2.2.1
      obtain rfl : k = j := nI_same (by omega) (by omega) e
      exact ⟨rfl, rfl, rel_q h _⟩
    · rcases h2 with h2 | h2
      · exact absurd h2 g1
      · exact absurd g2 h2
  · obtain ⟨rfl, h1, rfl⟩ := hp
    rcases hq with ⟨j, h2, hj, rfl, rfl, rfl⟩ | ⟨h2, rfl, rfl⟩
    · have h54 := hI.2.2.2.2.2.1
      have h4 := hI.2.2.2.2.2.2.1
      refine (c_bb (band_t (decide_eq_true h2) (decide_eq_true ?_)) h1).elim
      rw [tN (n := j) (by omega)]; omega
    · exact ⟨rfl, rfl, rel_q h _⟩
theorem cs_velocityOf {n : Nat} {B : kBd} {nx sz : Nat} {L0 L : List Nat} {ep fp s0 : Nat} {S : kCs} {M : kMs} (h : relD n B nx sz L0 L ep fp s0 S M) {x : Int32} :
    (∀ (r : Int32) (u : kCs) (r2 : Int32) (u2 : kMs), (fun r u => ∃ (k : Nat), (decide (0 ≤ (x : Int32).toInt ∧ (x : Int32).toInt < (B.2 7 : Nat))) = true ∧ x = nI k ∧ k < B.2 7 ∧ r = nI (B.1 6 k) ∧ u = setB S 0 B) r u → (fun r u => (∃ k : Nat, k < B.2 7 ∧ x = nI k ∧ r = nI (B.1 6 k) ∧ u = nPut M 3 (nI 0)) ∨ (¬ (0 ≤ x.toInt ∧ x.toInt < (B.2 7 : Nat)) ∧ r = nI 0 ∧ u = nPut M 3 (nI 1))) r2 u2 → u2.1 3 = nI 0 ∧ r = r2 ∧ rel (n + 1) u u2) ∧
    (∀ (E : String) (u : kCs) (r2 : Int32) (u2 : kMs), (fun E u => (E = "java/lang/IndexOutOfBoundsException" ∧ (decide (0 ≤ (x : Int32).toInt ∧ (x : Int32).toInt < (B.2 7 : Nat))) = false ∧ u = setB S 0 B)) E u → (fun r u => (∃ k : Nat, k < B.2 7 ∧ x = nI k ∧ r = nI (B.1 6 k) ∧ u = nPut M 3 (nI 0)) ∨ (¬ (0 ≤ x.toInt ∧ x.toInt < (B.2 7 : Nat)) ∧ r = nI 0 ∧ u = nPut M 3 (nI 1))) r2 u2 → (E = "java/lang/IndexOutOfBoundsException" ∧ u2.1 3 = nI 1 ∧ rel (n + 1) u u2)) := by
  have hA := h.2.1
  have hI := hA.1
  have hn := hI.2.2.1
  have hm := hI.2.2.2.1
  have hQ := hA.2.2.2.2.1
  have hP := hA.2.2.2.2.2.1
  have hr9 := hI.2.2.2.2.2.2.2.2.1
  refine ⟨fun r u r2 u2 hp hq => ?_, fun E u r2 u2 hp hq => ?_⟩
  · obtain ⟨k, h1, rfl, hk, rfl, rfl⟩ := hp
    have h7 := hI.2.2.2.2.2.2.2.1
    rcases hq with ⟨j, hj, e, rfl, rfl⟩ | ⟨h2, rfl, rfl⟩
    · obtain rfl : k = j := nI_same (by omega) (by omega) e
      exact ⟨rfl, rfl, rel_q h _⟩
    · exact absurd (of_decide_eq_true h1) h2
  · obtain ⟨rfl, h1, rfl⟩ := hp
    have h7 := hI.2.2.2.2.2.2.2.1
    rcases hq with ⟨j, hj, rfl, rfl, rfl⟩ | ⟨h2, rfl, rfl⟩
    · refine absurd ?_ (of_decide_eq_false h1)
      rw [tN (n := j) (by omega)]; omega
    · exact ⟨rfl, rfl, rel_q h _⟩
theorem cs_idealBurnDown {n : Nat} {B : kBd} {nx sz : Nat} {L0 L : List Nat} {ep fp s0 : Nat} {S : kCs} {M : kMs} (h : relD n B nx sz L0 L ep fp s0 S M) {x : Int32} :
    (∀ (r : UInt32) (u : kCs) (r2 : UInt32) (u2 : kMs), (fun r u => ∃ (k : Nat), (((decide (B.2 3 ≠ 0) && decide (0 < B.2 4)) && decide (0 ≤ (x : Int32).toInt ∧ (x : Int32).toInt ≤ (B.2 4 : Nat)))) = true ∧ x = nI k ∧ k ≤ B.2 4 ∧ r = fI (B.1 5 0) (B.2 4 - k) (B.2 4) ∧ u = setB S 0 B) r u → (fun r u => (∃ k : Nat, B.2 3 ≠ 0 ∧ k ≤ B.2 4 ∧ x = nI k ∧ r = fI (B.1 5 0) (B.2 4 - k) (B.2 4) ∧ u = nPut M 3 (nI 0)) ∨ ((B.2 3 = 0 ∨ ¬ (0 ≤ x.toInt ∧ x.toInt ≤ (B.2 4 : Nat))) ∧ r = FP.fconst0 ∧ u = nPut M 3 (nI 1))) r2 u2 → u2.1 3 = nI 0 ∧ r = r2 ∧ rel (n + 1) u u2) ∧
    (∀ (E : String) (u : kCs) (r2 : UInt32) (u2 : kMs), (fun E u => (E = "java/util/NoSuchElementException" ∧ (((decide (B.2 3 ≠ 0) && decide (0 < B.2 4)) && decide (0 ≤ (x : Int32).toInt ∧ (x : Int32).toInt ≤ (B.2 4 : Nat)))) = false ∧ u = setB S 0 B)) E u → (fun r u => (∃ k : Nat, B.2 3 ≠ 0 ∧ k ≤ B.2 4 ∧ x = nI k ∧ r = fI (B.1 5 0) (B.2 4 - k) (B.2 4) ∧ u = nPut M 3 (nI 0)) ∨ ((B.2 3 = 0 ∨ ¬ (0 ≤ x.toInt ∧ x.toInt ≤ (B.2 4 : Nat))) ∧ r = FP.fconst0 ∧ u = nPut M 3 (nI 1))) r2 u2 → (E = "java/util/NoSuchElementException" ∧ u2.1 3 = nI 1 ∧ rel (n + 1) u u2)) := by
  have hA := h.2.1
  have hI := hA.1
  have hn := hI.2.2.1
  have hm := hI.2.2.2.1
  have hQ := hA.2.2.2.2.1
  have hP := hA.2.2.2.2.2.1
  have hr9 := hI.2.2.2.2.2.2.2.2.1
  refine ⟨fun r u r2 u2 hp hq => ?_, fun E u r2 u2 hp hq => ?_⟩
  · obtain ⟨k, h1, rfl, hk, rfl, rfl⟩ := hp
    have g1 := of_decide_eq_true (band_l (band_l h1))
    have g2 := of_decide_eq_true (band_r h1)
    have h4 := hI.2.2.2.2.2.2.1
    rcases hq with ⟨j, h2, hj, e, rfl, rfl⟩ | ⟨h2, rfl, rfl⟩
    · obtain rfl : k = j := nI_same (by omega) (by omega) e
      exact ⟨rfl, rfl, rel_q h _⟩
    · rcases h2 with h2 | h2
      · exact absurd h2 g1
      · exact absurd g2 h2
  · obtain ⟨rfl, h1, rfl⟩ := hp
    have h4 := hI.2.2.2.2.2.2.1
    rcases hq with ⟨j, h2, hj, rfl, rfl, rfl⟩ | ⟨h2, rfl, rfl⟩
    · have hz := hA.2.2.2.2.2.2.2.1 h2
      refine (c_bb (band_t (band_t (decide_eq_true h2) (decide_eq_true (by omega))) (decide_eq_true ?_)) h1).elim
      rw [tN (n := j) (by omega)]; omega
    · exact ⟨rfl, rfl, rel_q h _⟩
theorem cs_meanVelocity {n : Nat} {B : kBd} {nx sz : Nat} {L0 L : List Nat} {ep fp s0 : Nat} {S : kCs} {M : kMs} (h : relD n B nx sz L0 L ep fp s0 S M) :
    (∀ (r : UInt64) (u : kCs) (r2 : UInt64) (u2 : kMs), (fun r u => 1 ≤ B.2 7 ∧ r = dM (sumUp (B.1 6) (B.2 7)) (B.2 7) ∧ u = setB S 0 B) r u → (fun r u => (1 ≤ B.2 7 ∧ r = dM (sumUp (B.1 6) (B.2 7)) (B.2 7) ∧ u = nPut M 3 (nI 0)) ∨ (B.2 7 = 0 ∧ r = FP.dconst0 ∧ u = nPut M 3 (nI 1))) r2 u2 → u2.1 3 = nI 0 ∧ r = r2 ∧ rel (n + 1) u u2) ∧
    (∀ (E : String) (u : kCs) (r2 : UInt64) (u2 : kMs), (fun E u => (E = "java/lang/ArithmeticException" ∧ B.2 7 = 0 ∧ u = setB S 0 B)) E u → (fun r u => (1 ≤ B.2 7 ∧ r = dM (sumUp (B.1 6) (B.2 7)) (B.2 7) ∧ u = nPut M 3 (nI 0)) ∨ (B.2 7 = 0 ∧ r = FP.dconst0 ∧ u = nPut M 3 (nI 1))) r2 u2 → (E = "java/lang/ArithmeticException" ∧ u2.1 3 = nI 1 ∧ rel (n + 1) u u2)) := by
  have hA := h.2.1
  have hI := hA.1
  have hn := hI.2.2.1
  have hm := hI.2.2.2.1
  have hQ := hA.2.2.2.2.1
  have hP := hA.2.2.2.2.2.1
  have hr9 := hI.2.2.2.2.2.2.2.2.1
  refine ⟨fun r u r2 u2 hp hq => ?_, fun E u r2 u2 hp hq => ?_⟩
  · obtain ⟨h1, rfl, rfl⟩ := hp
    rcases hq with ⟨h2, rfl, rfl⟩ | ⟨h2, rfl, rfl⟩
    · exact ⟨rfl, rfl, rel_q h _⟩
    · omega
  · obtain ⟨rfl, h1, rfl⟩ := hp
    rcases hq with ⟨h2, rfl, rfl⟩ | ⟨h2, rfl, rfl⟩
    · omega
    · exact ⟨rfl, rfl, rel_q h _⟩
theorem cs_errorPosition {n : Nat} {B : kBd} {nx sz : Nat} {L0 L : List Nat} {ep fp s0 : Nat} {S : kCs} {M : kMs} (h : relD n B nx sz L0 L ep fp s0 S M) :
    (∀ (r : Int32) (u : kCs) (r2 : Int32) (u2 : kMs), (fun r u => ep ≠ 0 ∧ r = nI ep - 1 ∧ u = setB S 0 B) r u → (fun r u => (¬ (M.1 5).toInt < 0 ∧ r = M.1 5 ∧ u = nPut M 3 (nI 0)) ∨ ((M.1 5).toInt < 0 ∧ r = nI 0 ∧ u = nPut M 3 (nI 1))) r2 u2 → u2.1 3 = nI 0 ∧ r = r2 ∧ rel (n + 1) u u2) ∧
    (∀ (E : String) (u : kCs) (r2 : Int32) (u2 : kMs), (fun E u => (E = "java/util/NoSuchElementException" ∧ ep = 0 ∧ u = setB S 0 B)) E u → (fun r u => (¬ (M.1 5).toInt < 0 ∧ r = M.1 5 ∧ u = nPut M 3 (nI 0)) ∨ ((M.1 5).toInt < 0 ∧ r = nI 0 ∧ u = nPut M 3 (nI 1))) r2 u2 → (E = "java/util/NoSuchElementException" ∧ u2.1 3 = nI 1 ∧ rel (n + 1) u u2)) := by
  have hA := h.2.1
  have hI := hA.1
  have hn := hI.2.2.1
  have hm := hI.2.2.2.1
  have hQ := hA.2.2.2.2.1
  have hP := hA.2.2.2.2.2.1
  have hr9 := hI.2.2.2.2.2.2.2.2.1
  refine ⟨fun r u r2 u2 hp hq => ?_, fun E u r2 u2 hp hq => ?_⟩
  · obtain ⟨h1, rfl, rfl⟩ := hp
    have e5 : M.1 5 = nI ep - 1 := h.2.2.2.2.2.2.2.1.2.1
    have el : ep < 1000 := h.2.2.2.2.2.2.2.1.2.2.1
    rcases hq with ⟨h2, rfl, rfl⟩ | ⟨h2, rfl, rfl⟩
    · exact ⟨rfl, e5.symm, rel_q h _⟩
    · rw [e5, tA (n := ep) (by omega)] at h2; omega
  · obtain ⟨rfl, h1, rfl⟩ := hp
    have e5 : M.1 5 = nI ep - 1 := h.2.2.2.2.2.2.2.1.2.1
    have el : ep < 1000 := h.2.2.2.2.2.2.2.1.2.2.1
    rcases hq with ⟨h2, rfl, rfl⟩ | ⟨h2, rfl, rfl⟩
    · rw [e5, tA (n := ep) (by omega)] at h2; omega
    · exact ⟨rfl, rfl, rel_q h _⟩
theorem cs_failedCommand {n : Nat} {B : kBd} {nx sz : Nat} {L0 L : List Nat} {ep fp s0 : Nat} {S : kCs} {M : kMs} (h : relD n B nx sz L0 L ep fp s0 S M) :
    (∀ (r : Int32) (u : kCs) (r2 : Int32) (u2 : kMs), (fun r u => fp ≠ 0 ∧ r = nI fp - 1 ∧ u = setB S 0 B) r u → (fun r u => (¬ (M.1 6).toInt < 0 ∧ r = M.1 6 ∧ u = nPut M 3 (nI 0)) ∨ ((M.1 6).toInt < 0 ∧ r = nI 0 ∧ u = nPut M 3 (nI 1))) r2 u2 → u2.1 3 = nI 0 ∧ r = r2 ∧ rel (n + 1) u u2) ∧
    (∀ (E : String) (u : kCs) (r2 : Int32) (u2 : kMs), (fun E u => (E = "java/util/NoSuchElementException" ∧ fp = 0 ∧ u = setB S 0 B)) E u → (fun r u => (¬ (M.1 6).toInt < 0 ∧ r = M.1 6 ∧ u = nPut M 3 (nI 0)) ∨ ((M.1 6).toInt < 0 ∧ r = nI 0 ∧ u = nPut M 3 (nI 1))) r2 u2 → (E = "java/util/NoSuchElementException" ∧ u2.1 3 = nI 1 ∧ rel (n + 1) u u2)) := by
  have hA := h.2.1
  have hI := hA.1
  have hn := hI.2.2.1
  have hm := hI.2.2.2.1
  have hQ := hA.2.2.2.2.1
  have hP := hA.2.2.2.2.2.1
  have hr9 := hI.2.2.2.2.2.2.2.2.1
  refine ⟨fun r u r2 u2 hp hq => ?_, fun E u r2 u2 hp hq => ?_⟩
  · obtain ⟨h1, rfl, rfl⟩ := hp
    have e5 : M.1 6 = nI fp - 1 := h.2.2.2.2.2.2.2.1.2.2.2.2.1
    have el : fp < 1000 := h.2.2.2.2.2.2.2.1.2.2.2.2.2
    rcases hq with ⟨h2, rfl, rfl⟩ | ⟨h2, rfl, rfl⟩
    · exact ⟨rfl, e5.symm, rel_q h _⟩
    · rw [e5, tA (n := fp) (by omega)] at h2; omega
  · obtain ⟨rfl, h1, rfl⟩ := hp
    have e5 : M.1 6 = nI fp - 1 := h.2.2.2.2.2.2.2.1.2.2.2.2.1
    have el : fp < 1000 := h.2.2.2.2.2.2.2.1.2.2.2.2.2
    rcases hq with ⟨h2, rfl, rfl⟩ | ⟨h2, rfl, rfl⟩
    · rw [e5, tA (n := fp) (by omega)] at h2; omega
    · exact ⟨rfl, rfl, rel_q h _⟩
theorem cs_lineAt {n : Nat} {B : kBd} {nx sz : Nat} {L0 L : List Nat} {ep fp s0 : Nat} {S : kCs} {M : kMs} (h : relD n B nx sz L0 L ep fp s0 S M) {x : Int32} (sg : Nat → Nat) (hsg : ∀ j, j < L0.length → sg j = L0.getD j 0) (hl60 : L0.length ≤ 60) :
    (∀ (r : Int32) (u : kCs) (r2 : Int32) (u2 : kMs), (fun r u => ∃ (q : Nat), x = nI q ∧ q < L0.length ∧ r = nI (L0.getD q 0) ∧ u = setB S 0 B) r u → (fun r u => (∃ k : Nat, k < L0.length ∧ x = nI k ∧ r = nI (sg k) ∧ u = nPut M 3 (nI 0)) ∨ (¬ (0 ≤ x.toInt ∧ x.toInt < (L0.length : Nat)) ∧ r = nI 32 ∧ u = nPut M 3 (nI 1))) r2 u2 → u2.1 3 = nI 0 ∧ r = r2 ∧ rel (n + 1) u u2) ∧
    (∀ (E : String) (u : kCs) (r2 : Int32) (u2 : kMs), (fun E u => (E = "java/lang/IndexOutOfBoundsException" ∧ ¬ (0 ≤ (x : Int32).toInt ∧ (x : Int32).toInt < (L0.length : Nat)) ∧ u = setB S 0 B)) E u → (fun r u => (∃ k : Nat, k < L0.length ∧ x = nI k ∧ r = nI (sg k) ∧ u = nPut M 3 (nI 0)) ∨ (¬ (0 ≤ x.toInt ∧ x.toInt < (L0.length : Nat)) ∧ r = nI 32 ∧ u = nPut M 3 (nI 1))) r2 u2 → (E = "java/lang/IndexOutOfBoundsException" ∧ u2.1 3 = nI 1 ∧ rel (n + 1) u u2)) := by
  have hA := h.2.1
  have hI := hA.1
  have hn := hI.2.2.1
  have hm := hI.2.2.2.1
  have hQ := hA.2.2.2.2.1
  have hP := hA.2.2.2.2.2.1
  have hr9 := hI.2.2.2.2.2.2.2.2.1
  refine ⟨fun r u r2 u2 hp hq => ?_, fun E u r2 u2 hp hq => ?_⟩
  · obtain ⟨q, rfl, hq2, rfl, rfl⟩ := hp
    rcases hq with ⟨k, hk, e, rfl, rfl⟩ | ⟨h2, rfl, rfl⟩
    · obtain rfl : q = k := nI_same (by omega) (by omega) e
      exact ⟨rfl, by rw [hsg q hq2], rel_q h _⟩
    · rw [tN (n := q) (by omega)] at h2; omega
  · obtain ⟨rfl, h1, rfl⟩ := hp
    rcases hq with ⟨k, hk, rfl, rfl, rfl⟩ | ⟨h2, rfl, rfl⟩
    · rw [tN (n := k) (by omega)] at h1; omega
    · exact ⟨rfl, rfl, rel_q h _⟩
theorem cs_finishDay {n : Nat} {B : kBd} {nx sz : Nat} {L0 L : List Nat} {ep fp s0 : Nat} {S : kCs} {M : kMs} (h : relD n B nx sz L0 L ep fp s0 S M) {x : Int32} (g0 : Nat → Nat) :
    (∀ (r : Int32) (u : kCs) (r2 : Int32) (u2 : kMs), (fun r u => ∃ (j : Nat), x = nI j ∧ j < B.2 0 ∧ (dtN j 53 0 B).1 ≠ 0 ∧ r = nI (dtN j 53 0 B).1 - 1 ∧ u = setB (setB S 0 B) 1 (dtN j 53 0 B).2) r u → (fun r u => (∃ k, k < B.2 0 ∧ x = nI k ∧ neN B g0 (B.2 0) k ≠ 0 ∧ r = nI (neN B g0 (B.2 0) k) - 1 ∧ u = nPut (ndW (nPut M 3 (nI 0)) (neN B g0 (B.2 0))) 3 (nI 0)) ∨ (inS (B.2 0) x = false ∧ r = nI 0 ∧ u = nPut M 3 (nI 1)) ∨ (∃ k, k < B.2 0 ∧ x = nI k ∧ neN B g0 (B.2 0) k = 0 ∧ r = nI 0 ∧ u = nPut (ndW (nPut M 3 (nI 0)) (neN B g0 (B.2 0))) 3 (nI 2))) r2 u2 → u2.1 3 = nI 0 ∧ r = r2 ∧ rel (n + 1) u u2) ∧
    (∀ (E : String) (u : kCs) (r2 : Int32) (u2 : kMs), (fun E u => (E = "java/lang/IndexOutOfBoundsException" ∧ inR (B.2 0) x = false ∧ u = setB S 0 B) ∨ (∃ (j : Nat), x = nI j ∧ j < B.2 0 ∧ E = "java/util/NoSuchElementException" ∧ (dtN j 53 0 B).1 = 0 ∧ u = setB (setB S 0 B) 1 (dtN j 53 0 B).2)) E u → (fun r u => (∃ k, k < B.2 0 ∧ x = nI k ∧ neN B g0 (B.2 0) k ≠ 0 ∧ r = nI (neN B g0 (B.2 0) k) - 1 ∧ u = nPut (ndW (nPut M 3 (nI 0)) (neN B g0 (B.2 0))) 3 (nI 0)) ∨ (inS (B.2 0) x = false ∧ r = nI 0 ∧ u = nPut M 3 (nI 1)) ∨ (∃ k, k < B.2 0 ∧ x = nI k ∧ neN B g0 (B.2 0) k = 0 ∧ r = nI 0 ∧ u = nPut (ndW (nPut M 3 (nI 0)) (neN B g0 (B.2 0))) 3 (nI 2))) r2 u2 → (E = "java/lang/IndexOutOfBoundsException" ∧ u2.1 3 = nI 1 ∧ rel (n + 1) u u2) ∨ (E = "java/util/NoSuchElementException" ∧ u2.1 3 = nI 2 ∧ rel (n + 1) u u2)) := by
  have hA := h.2.1
  have hI := hA.1
  have hn := hI.2.2.1
  have hm := hI.2.2.2.1
  have hQ := hA.2.2.2.2.1
  have hP := hA.2.2.2.2.2.1
  have hr9 := hI.2.2.2.2.2.2.2.2.1
  refine ⟨fun r u r2 u2 hp hq => ?_, fun E u r2 u2 hp hq => ?_⟩
  · obtain ⟨j, rfl, hj, h1, rfl, rfl⟩ := hp
    rw [rel_S h]
    rcases hq with ⟨k, hk, e, h2, rfl, rfl⟩ | ⟨e, rfl, rfl⟩ | ⟨k, hk, e, h2, rfl, rfl⟩
    · obtain rfl : j = k := nI_same (by omega) (by omega) e
      refine ⟨rfl, by rw [dt_nd hA hj, neN_nd hA g0 hj], ?_⟩
      have hc := rel_nd h (nI 0) (nI 0) (neN B g0 (B.2 0)) (S' := setB S 1 (dtN j 53 0 B).2) (sEq_t (sEq_r S) _) (by rw [setB_at]; exact dtN_bN 53 0 B hI.2.1 hn)
      rw [setB_comm S _ _ (show (1 : Nat) ≠ 0 by decide), rel_S h] at hc
      exact hc
    · exact (c_in (by omega) hj e).elim
    · obtain rfl : j = k := nI_same (by omega) (by omega) e
      rw [neN_nd hA g0 hj, ← dt_nd hA hj] at h2
      exact absurd h2 h1
  · rcases hp with ⟨rfl, e0, rfl⟩ | ⟨j, rfl, hj, rfl, h1, rfl⟩
    · rcases hq with ⟨k, hk, rfl, h2, rfl, rfl⟩ | ⟨e, rfl, rfl⟩ | ⟨k, hk, rfl, h2, rfl, rfl⟩
      · exact (c_in (by omega) hk e0).elim
      · exact Or.inl ⟨rfl, rfl, rel_q h _⟩
      · exact (c_in (by omega) hk e0).elim
    · rw [rel_S h]
      rcases hq with ⟨k, hk, e, h2, rfl, rfl⟩ | ⟨e, rfl, rfl⟩ | ⟨k, hk, e, h2, rfl, rfl⟩
      · obtain rfl : j = k := nI_same (by omega) (by omega) e
        rw [neN_nd hA g0 hj, ← dt_nd hA hj] at h2
        exact absurd h1 h2
      · exact (c_in (by omega) hj e).elim
      · refine Or.inr ⟨rfl, rfl, ?_⟩
        have hc := rel_nd h (nI 0) (nI 2) (neN B g0 (B.2 0)) (S' := setB S 1 (dtN j 53 0 B).2) (sEq_t (sEq_r S) _) (by rw [setB_at]; exact dtN_bN 53 0 B hI.2.1 hn)
        rw [setB_comm S _ _ (show (1 : Nat) ≠ 0 by decide), rel_S h] at hc
        exact hc
theorem cs_finishDayByRecursion {n : Nat} {B : kBd} {nx sz : Nat} {L0 L : List Nat} {ep fp s0 : Nat} {S : kCs} {M : kMs} (h : relD n B nx sz L0 L ep fp s0 S M) {x : Int32} (g0 : Nat → Nat) :
    (∀ (r : Int32) (u : kCs) (r2 : Int32) (u2 : kMs), (fun r u => ∃ (j : Nat), x = nI j ∧ j < B.2 0 ∧ ndN B 16 j ≠ 0 ∧ r = nI (ndN B 16 j) - 1 ∧ u = setB S 0 B) r u → (fun r u => (∃ k, k < B.2 0 ∧ x = nI k ∧ neN B g0 (B.2 0) k ≠ 0 ∧ r = nI (neN B g0 (B.2 0) k) - 1 ∧ u = nPut (ndW (nPut M 3 (nI 0)) (neN B g0 (B.2 0))) 3 (nI 0)) ∨ (inS (B.2 0) x = false ∧ r = nI 0 ∧ u = nPut M 3 (nI 1)) ∨ (∃ k, k < B.2 0 ∧ x = nI k ∧ neN B g0 (B.2 0) k = 0 ∧ r = nI 0 ∧ u = nPut (ndW (nPut M 3 (nI 0)) (neN B g0 (B.2 0))) 3 (nI 2))) r2 u2 → u2.1 3 = nI 0 ∧ r = r2 ∧ rel (n + 1) u u2) ∧
    (∀ (E : String) (u : kCs) (r2 : Int32) (u2 : kMs), (fun E u => (E = "java/lang/IndexOutOfBoundsException" ∧ inR (B.2 0) x = false ∧ u = setB S 0 B) ∨ (∃ (j : Nat), x = nI j ∧ j < B.2 0 ∧ E = "java/util/NoSuchElementException" ∧ ndN B 16 j = 0 ∧ u = setB S 0 B)) E u → (fun r u => (∃ k, k < B.2 0 ∧ x = nI k ∧ neN B g0 (B.2 0) k ≠ 0 ∧ r = nI (neN B g0 (B.2 0) k) - 1 ∧ u = nPut (ndW (nPut M 3 (nI 0)) (neN B g0 (B.2 0))) 3 (nI 0)) ∨ (inS (B.2 0) x = false ∧ r = nI 0 ∧ u = nPut M 3 (nI 1)) ∨ (∃ k, k < B.2 0 ∧ x = nI k ∧ neN B g0 (B.2 0) k = 0 ∧ r = nI 0 ∧ u = nPut (ndW (nPut M 3 (nI 0)) (neN B g0 (B.2 0))) 3 (nI 2))) r2 u2 → (E = "java/lang/IndexOutOfBoundsException" ∧ u2.1 3 = nI 1 ∧ rel (n + 1) u u2) ∨ (E = "java/util/NoSuchElementException" ∧ u2.1 3 = nI 2 ∧ rel (n + 1) u u2)) := by
  have hA := h.2.1
  have hI := hA.1
  have hn := hI.2.2.1
  have hm := hI.2.2.2.1
  have hQ := hA.2.2.2.2.1
  have hP := hA.2.2.2.2.2.1
  have hr9 := hI.2.2.2.2.2.2.2.2.1
  refine ⟨fun r u r2 u2 hp hq => ?_, fun E u r2 u2 hp hq => ?_⟩
  · obtain ⟨j, rfl, hj, h1, rfl, rfl⟩ := hp
    rcases hq with ⟨k, hk, e, h2, rfl, rfl⟩ | ⟨e, rfl, rfl⟩ | ⟨k, hk, e, h2, rfl, rfl⟩
    · obtain rfl : j = k := nI_same (by omega) (by omega) e
      exact ⟨rfl, by rw [neN_nd hA g0 hj], rel_nd h (nI 0) (nI 0) (neN B g0 (B.2 0)) (S' := S) (sEq_r S) (h.2.2.2.2.2.2.2.2.1 1 (by decide))⟩
    · exact (c_in (by omega) hj e).elim
    · obtain rfl : j = k := nI_same (by omega) (by omega) e
      rw [neN_nd hA g0 hj] at h2
      exact absurd h2 h1
  · rcases hp with ⟨rfl, e0, rfl⟩ | ⟨j, rfl, hj, rfl, h1, rfl⟩
    · rcases hq with ⟨k, hk, rfl, h2, rfl, rfl⟩ | ⟨e, rfl, rfl⟩ | ⟨k, hk, rfl, h2, rfl, rfl⟩
      · exact (c_in (by omega) hk e0).elim
      · exact Or.inl ⟨rfl, rfl, rel_q h _⟩
      · exact (c_in (by omega) hk e0).elim
    · rcases hq with ⟨k, hk, e, h2, rfl, rfl⟩ | ⟨e, rfl, rfl⟩ | ⟨k, hk, e, h2, rfl, rfl⟩
      · obtain rfl : j = k := nI_same (by omega) (by omega) e
        rw [neN_nd hA g0 hj] at h2
        exact absurd h1 h2
      · exact (c_in (by omega) hj e).elim
      · exact Or.inr ⟨rfl, rfl, rel_nd h (nI 0) (nI 2) (neN B g0 (B.2 0)) (S' := S) (sEq_r S) (h.2.2.2.2.2.2.2.2.1 1 (by decide))⟩
theorem cs_addStory {n : Nat} {B : kBd} {nx sz : Nat} {L0 L : List Nat} {ep fp s0 : Nat} {S : kCs} {M : kMs} (h : relD n B nx sz L0 L ep fp s0 S M) {x : Int32} :
    (∀ (r : Int32) (u : kCs) (r2 : Int32) (u2 : kMs), (fun r u => ∃ (p0 : Nat), (isEst (x : Int32).toInt) = true ∧ x = nI p0 ∧ 1 ≤ p0 ∧ p0 ≤ 13 ∧ ((isEst (x : Int32).toInt && decide (B.2 0 < 16))) = true ∧ r = nI (B.2 0) ∧ u = setB (hkS S B nx sz) 0 (addB B p0)) r u → (fun r u => (∃ q, isEst (nI q : Int32).toInt = true ∧ q ≤ 13 ∧ x = nI q ∧ B.2 0 < 16 ∧ r = nI (B.2 0) ∧ u = setG (kpW (nPut M 3 (nI 0)) 0 0 sz) (addB B q)) ∨ (isEst x.toInt = false ∧ r = nI 0 ∧ u = nPut M 3 (nI 1)) ∨ (∃ q, isEst (nI q : Int32).toInt = true ∧ x = nI q ∧ B.2 0 = 16 ∧ r = nI 0 ∧ u = nPut M 3 (nI 2))) r2 u2 → u2.1 3 = nI 0 ∧ r = r2 ∧ rel (n + 1) u u2) ∧
    (∀ (E : String) (u : kCs) (r2 : Int32) (u2 : kMs), (fun E u => (E = "java/lang/IllegalArgumentException" ∧ (isEst (x : Int32).toInt) = false ∧ u = setB S 0 B) ∨ (∃ (p0 : Nat), (isEst (x : Int32).toInt) = true ∧ x = nI p0 ∧ 1 ≤ p0 ∧ p0 ≤ 13 ∧ E = "java/lang/IllegalStateException" ∧ ((isEst (x : Int32).toInt && decide (B.2 0 < 16))) = false ∧ u = setB S 0 B)) E u → (fun r u => (∃ q, isEst (nI q : Int32).toInt = true ∧ q ≤ 13 ∧ x = nI q ∧ B.2 0 < 16 ∧ r = nI (B.2 0) ∧ u = setG (kpW (nPut M 3 (nI 0)) 0 0 sz) (addB B q)) ∨ (isEst x.toInt = false ∧ r = nI 0 ∧ u = nPut M 3 (nI 1)) ∨ (∃ q, isEst (nI q : Int32).toInt = true ∧ x = nI q ∧ B.2 0 = 16 ∧ r = nI 0 ∧ u = nPut M 3 (nI 2))) r2 u2 → (E = "java/lang/IllegalArgumentException" ∧ u2.1 3 = nI 1 ∧ rel (n + 1) u u2) ∨ (E = "java/lang/IllegalStateException" ∧ u2.1 3 = nI 2 ∧ rel (n + 1) u u2)) := by
  have hA := h.2.1
  have hI := hA.1
  have hn := hI.2.2.1
  have hm := hI.2.2.2.1
  have hQ := hA.2.2.2.2.1
  have hP := hA.2.2.2.2.2.1
  have hr9 := hI.2.2.2.2.2.2.2.2.1
  refine ⟨fun r u r2 u2 hp hq => ?_, fun E u r2 u2 hp hq => ?_⟩
  · obtain ⟨p, h1, rfl, hp1, hp13, h2, rfl, rfl⟩ := hp
    have g := of_decide_eq_true (band_r h2)
    rcases hq with ⟨q, e1, e0, e2, e4, rfl, rfl⟩ | ⟨e, rfl, rfl⟩ | ⟨q, e1, e2, e3, rfl, rfl⟩
    · obtain rfl : p = q := nI_same (by omega) (by omega) e2
      exact ⟨code_c _ _ _, rfl, rel_c h (bA_add hA hp13 g)⟩
    · exact (c_bb h1 e).elim
    · omega
  · rcases hp with ⟨rfl, h1, rfl⟩ | ⟨p, h1, rfl, hp1, hp13, rfl, h2, rfl⟩
    · rcases hq with ⟨q, e1, e2, rfl, e4, rfl, rfl⟩ | ⟨e, rfl, rfl⟩ | ⟨q, e1, rfl, e3, rfl, rfl⟩
      · exact (c_bb e1 h1).elim
      · exact Or.inl ⟨rfl, rfl, rel_q h _⟩
      · exact (c_bb e1 h1).elim
    · rcases hq with ⟨q, e1, e2, e3, e4, rfl, rfl⟩ | ⟨e, rfl, rfl⟩ | ⟨q, e1, e2, e3, rfl, rfl⟩
      · exact (c_bb (band_t h1 (decide_eq_true e4)) h2).elim
      · exact (c_bb h1 e).elim
      · exact Or.inr ⟨rfl, rfl, rel_q h _⟩
theorem cs_addDeveloper {n : Nat} {B : kBd} {nx sz : Nat} {L0 L : List Nat} {ep fp s0 : Nat} {S : kCs} {M : kMs} (h : relD n B nx sz L0 L ep fp s0 S M) {x : Int32} :
    (∀ (r : Int32) (u : kCs) (r2 : Int32) (u2 : kMs), (fun r u => ∃ (p0 : Nat), (decide (1 ≤ (x : Int32).toInt ∧ (x : Int32).toInt ≤ 4)) = true ∧ x = nI p0 ∧ 1 ≤ p0 ∧ p0 ≤ 4 ∧ ((decide (1 ≤ (x : Int32).toInt ∧ (x : Int32).toInt ≤ 4) && decide (B.2 1 < 4))) = true ∧ r = nI (B.2 1) ∧ u = setB (hkS S B nx sz) 0 (devB B p0)) r u → (fun r u => (∃ q, 1 ≤ q ∧ q ≤ 4 ∧ x = nI q ∧ B.2 1 < 4 ∧ r = nI (B.2 1) ∧ u = setG (kpW (nPut M 3 (nI 0)) 0 0 sz) (devB B q)) ∨ (¬ (1 ≤ x.toInt ∧ x.toInt ≤ 4) ∧ r = nI 0 ∧ u = nPut M 3 (nI 1)) ∨ (∃ q, 1 ≤ q ∧ q ≤ 4 ∧ x = nI q ∧ B.2 1 = 4 ∧ r = nI 0 ∧ u = nPut M 3 (nI 2))) r2 u2 → u2.1 3 = nI 0 ∧ r = r2 ∧ rel (n + 1) u u2) ∧
    (∀ (E : String) (u : kCs) (r2 : Int32) (u2 : kMs), (fun E u => (E = "java/lang/IllegalArgumentException" ∧ (decide (1 ≤ (x : Int32).toInt ∧ (x : Int32).toInt ≤ 4)) = false ∧ u = setB S 0 B) ∨ (∃ (p0 : Nat), (decide (1 ≤ (x : Int32).toInt ∧ (x : Int32).toInt ≤ 4)) = true ∧ x = nI p0 ∧ 1 ≤ p0 ∧ p0 ≤ 4 ∧ E = "java/lang/IllegalStateException" ∧ ((decide (1 ≤ (x : Int32).toInt ∧ (x : Int32).toInt ≤ 4) && decide (B.2 1 < 4))) = false ∧ u = setB S 0 B)) E u → (fun r u => (∃ q, 1 ≤ q ∧ q ≤ 4 ∧ x = nI q ∧ B.2 1 < 4 ∧ r = nI (B.2 1) ∧ u = setG (kpW (nPut M 3 (nI 0)) 0 0 sz) (devB B q)) ∨ (¬ (1 ≤ x.toInt ∧ x.toInt ≤ 4) ∧ r = nI 0 ∧ u = nPut M 3 (nI 1)) ∨ (∃ q, 1 ≤ q ∧ q ≤ 4 ∧ x = nI q ∧ B.2 1 = 4 ∧ r = nI 0 ∧ u = nPut M 3 (nI 2))) r2 u2 → (E = "java/lang/IllegalArgumentException" ∧ u2.1 3 = nI 1 ∧ rel (n + 1) u u2) ∨ (E = "java/lang/IllegalStateException" ∧ u2.1 3 = nI 2 ∧ rel (n + 1) u u2)) := by
  have hA := h.2.1
  have hI := hA.1
  have hn := hI.2.2.1
  have hm := hI.2.2.2.1
  have hQ := hA.2.2.2.2.1
  have hP := hA.2.2.2.2.2.1
  have hr9 := hI.2.2.2.2.2.2.2.2.1
  refine ⟨fun r u r2 u2 hp hq => ?_, fun E u r2 u2 hp hq => ?_⟩
  · obtain ⟨p, h1, rfl, hp1, hp4, h2, rfl, rfl⟩ := hp
    have g := of_decide_eq_true (band_r h2)
    rcases hq with ⟨q, e1, e0, e2, e4, rfl, rfl⟩ | ⟨e, rfl, rfl⟩ | ⟨q, e1, e0, e2, e3, rfl, rfl⟩
    · obtain rfl : p = q := nI_same (by omega) (by omega) e2
      exact ⟨code_c _ _ _, rfl, rel_c h (bA_dev hA hp1 hp4 g)⟩
    · exact absurd (of_decide_eq_true h1) e
    · omega
  · rcases hp with ⟨rfl, h1, rfl⟩ | ⟨p, h1, rfl, hp1, hp4, rfl, h2, rfl⟩
    · rcases hq with ⟨q, e1, e0, rfl, e4, rfl, rfl⟩ | ⟨e, rfl, rfl⟩ | ⟨q, e1, e0, rfl, e3, rfl, rfl⟩
      · exact absurd (by rw [tN (n := q) (by omega)]; omega) (of_decide_eq_false h1)
      · exact Or.inl ⟨rfl, rfl, rel_q h _⟩
      · exact absurd (by rw [tN (n := q) (by omega)]; omega) (of_decide_eq_false h1)
    · rcases hq with ⟨q, e1, e0, e2, e4, rfl, rfl⟩ | ⟨e, rfl, rfl⟩ | ⟨q, e1, e0, e2, e3, rfl, rfl⟩
      · exact (c_bb (band_t h1 (decide_eq_true e4)) h2).elim
      · exact absurd (of_decide_eq_true h1) e
      · exact Or.inr ⟨rfl, rfl, rel_q h _⟩
theorem cs_startSprint {n : Nat} {B : kBd} {nx sz : Nat} {L0 L : List Nat} {ep fp s0 : Nat} {S : kCs} {M : kMs} (h : relD n B nx sz L0 L ep fp s0 S M) {x : Int32} :
    (∀ (r : Int32) (u : kCs) (r2 : Int32) (u2 : kMs), (fun r u => ∃ (p0 : Nat), (decide (1 ≤ (x : Int32).toInt ∧ (x : Int32).toInt ≤ 10)) = true ∧ x = nI p0 ∧ 1 ≤ p0 ∧ p0 ≤ 10 ∧ (((decide (1 ≤ (x : Int32).toInt ∧ (x : Int32).toInt ≤ 10) && decide (B.2 3 = 0)) && decide (B.2 7 < 9))) = true ∧ r = nI (B.2 7) ∧ u = setB (hkS S B nx sz) 0 (begB B p0)) r u → (fun r u => (∃ q, 1 ≤ q ∧ q ≤ 10 ∧ x = nI q ∧ B.2 3 = 0 ∧ B.2 7 < 9 ∧ r = nI (B.2 7) ∧ u = setG (kpW (nPut M 3 (nI 0)) 0 0 sz) (begS B q)) ∨ (¬ (1 ≤ x.toInt ∧ x.toInt ≤ 10) ∧ r = nI 0 ∧ u = nPut M 3 (nI 1)) ∨ (∃ q, 1 ≤ q ∧ q ≤ 10 ∧ x = nI q ∧ ¬ (B.2 3 = 0 ∧ B.2 7 < 9) ∧ r = nI 0 ∧ u = nPut M 3 (nI 2))) r2 u2 → u2.1 3 = nI 0 ∧ r = r2 ∧ rel (n + 1) u u2) ∧
    (∀ (E : String) (u : kCs) (r2 : Int32) (u2 : kMs), (fun E u => (E = "java/lang/IllegalArgumentException" ∧ (decide (1 ≤ (x : Int32).toInt ∧ (x : Int32).toInt ≤ 10)) = false ∧ u = setB S 0 B) ∨ (∃ (p0 : Nat), (decide (1 ≤ (x : Int32).toInt ∧ (x : Int32).toInt ≤ 10)) = true ∧ x = nI p0 ∧ 1 ≤ p0 ∧ p0 ≤ 10 ∧ E = "java/lang/IllegalStateException" ∧ (((decide (1 ≤ (x : Int32).toInt ∧ (x : Int32).toInt ≤ 10) && decide (B.2 3 = 0)) && decide (B.2 7 < 9))) = false ∧ u = setB S 0 B)) E u → (fun r u => (∃ q, 1 ≤ q ∧ q ≤ 10 ∧ x = nI q ∧ B.2 3 = 0 ∧ B.2 7 < 9 ∧ r = nI (B.2 7) ∧ u = setG (kpW (nPut M 3 (nI 0)) 0 0 sz) (begS B q)) ∨ (¬ (1 ≤ x.toInt ∧ x.toInt ≤ 10) ∧ r = nI 0 ∧ u = nPut M 3 (nI 1)) ∨ (∃ q, 1 ≤ q ∧ q ≤ 10 ∧ x = nI q ∧ ¬ (B.2 3 = 0 ∧ B.2 7 < 9) ∧ r = nI 0 ∧ u = nPut M 3 (nI 2))) r2 u2 → (E = "java/lang/IllegalArgumentException" ∧ u2.1 3 = nI 1 ∧ rel (n + 1) u u2) ∨ (E = "java/lang/IllegalStateException" ∧ u2.1 3 = nI 2 ∧ rel (n + 1) u u2)) := by
  have hA := h.2.1
  have hI := hA.1
  have hn := hI.2.2.1
  have hm := hI.2.2.2.1
  have hQ := hA.2.2.2.2.1
  have hP := hA.2.2.2.2.2.1
  have hr9 := hI.2.2.2.2.2.2.2.2.1
  refine ⟨fun r u r2 u2 hp hq => ?_, fun E u r2 u2 hp hq => ?_⟩
  · obtain ⟨p, h1, rfl, hp1, hp4, h2, rfl, rfl⟩ := hp
    have g1 := of_decide_eq_true (band_r (band_l h2))
    have g := of_decide_eq_true (band_r h2)
    rcases hq with ⟨q, e1, e0, e2, e4, e5, rfl, rfl⟩ | ⟨e, rfl, rfl⟩ | ⟨q, e1, e0, e2, e3, rfl, rfl⟩
    · obtain rfl : p = q := nI_same (by omega) (by omega) e2
      rw [beg_S hn hP]
      exact ⟨code_c _ _ _, rfl, rel_c h (bA_beg hA hp1 hp4 g)⟩
    · exact absurd (of_decide_eq_true h1) e
    · exact absurd ⟨g1, g⟩ e3
  · rcases hp with ⟨rfl, h1, rfl⟩ | ⟨p, h1, rfl, hp1, hp4, rfl, h2, rfl⟩
    · rcases hq with ⟨q, e1, e0, rfl, e4, e5, rfl, rfl⟩ | ⟨e, rfl, rfl⟩ | ⟨q, e1, e0, rfl, e3, rfl, rfl⟩
      · exact absurd (by rw [tN (n := q) (by omega)]; omega) (of_decide_eq_false h1)
      · exact Or.inl ⟨rfl, rfl, rel_q h _⟩
      · exact absurd (by rw [tN (n := q) (by omega)]; omega) (of_decide_eq_false h1)
    · rcases hq with ⟨q, e1, e0, e2, e4, e5, rfl, rfl⟩ | ⟨e, rfl, rfl⟩ | ⟨q, e1, e0, e2, e3, rfl, rfl⟩
      · exact (c_bb (band_t (band_t h1 (decide_eq_true e4)) (decide_eq_true e5)) h2).elim
      · exact absurd (of_decide_eq_true h1) e
      · exact Or.inr ⟨rfl, rfl, rel_q h _⟩
theorem cs_plan {n : Nat} {B : kBd} {nx sz : Nat} {L0 L : List Nat} {ep fp s0 : Nat} {S : kCs} {M : kMs} (h : relD n B nx sz L0 L ep fp s0 S M) {x : Int32} :
    (∀ (r : Int32) (u : kCs) (r2 : Int32) (u2 : kMs), (fun r u => ∃ (j : Nat), x = nI j ∧ j < B.2 0 ∧ (((decide (j < B.2 0) && !(B.2 2).testBit j) && decide (B.1 1 j ≠ 0))) = true ∧ r = nI (psum (bPut B 2 (B.2 2 ||| 2 ^ j)) 0) ∧ u = setB (hkS S B nx sz) 0 (bPut B 2 (B.2 2 ||| 2 ^ j))) r u → (fun r u => (∃ k, k < B.2 0 ∧ x = nI k ∧ ((B.2 2).testBit k = false ∧ B.1 1 k ≠ 0) ∧ r = nI (plS (bPut B 2 (B.2 2 ||| 2 ^ k)) 0) ∧ u = setG (kpW (nPut M 3 (nI 0)) 0 0 sz) (bPut B 2 (B.2 2 ||| 2 ^ k))) ∨ (inS (B.2 0) x = false ∧ r = nI 0 ∧ u = nPut M 3 (nI 1)) ∨ (∃ k, k < B.2 0 ∧ x = nI k ∧ ¬ ((B.2 2).testBit k = false ∧ B.1 1 k ≠ 0) ∧ r = nI 0 ∧ u = nPut M 3 (nI 2))) r2 u2 → u2.1 3 = nI 0 ∧ r = r2 ∧ rel (n + 1) u u2) ∧
    (∀ (E : String) (u : kCs) (r2 : Int32) (u2 : kMs), (fun E u => (E = "java/lang/IndexOutOfBoundsException" ∧ inR (B.2 0) x = false ∧ u = setB S 0 B) ∨ (∃ (j : Nat), x = nI j ∧ j < B.2 0 ∧ E = "java/lang/IllegalStateException" ∧ (((decide (j < B.2 0) && !(B.2 2).testBit j) && decide (B.1 1 j ≠ 0))) = false ∧ u = setB S 0 B)) E u → (fun r u => (∃ k, k < B.2 0 ∧ x = nI k ∧ ((B.2 2).testBit k = false ∧ B.1 1 k ≠ 0) ∧ r = nI (plS (bPut B 2 (B.2 2 ||| 2 ^ k)) 0) ∧ u = setG (kpW (nPut M 3 (nI 0)) 0 0 sz) (bPut B 2 (B.2 2 ||| 2 ^ k))) ∨ (inS (B.2 0) x = false ∧ r = nI 0 ∧ u = nPut M 3 (nI 1)) ∨ (∃ k, k < B.2 0 ∧ x = nI k ∧ ¬ ((B.2 2).testBit k = false ∧ B.1 1 k ≠ 0) ∧ r = nI 0 ∧ u = nPut M 3 (nI 2))) r2 u2 → (E = "java/lang/IndexOutOfBoundsException" ∧ u2.1 3 = nI 1 ∧ rel (n + 1) u u2) ∨ (E = "java/lang/IllegalStateException" ∧ u2.1 3 = nI 2 ∧ rel (n + 1) u u2)) := by
  have hA := h.2.1
  have hI := hA.1
  have hn := hI.2.2.1
  have hm := hI.2.2.2.1
  have hQ := hA.2.2.2.2.1
  have hP := hA.2.2.2.2.2.1
  have hr9 := hI.2.2.2.2.2.2.2.2.1
  refine ⟨fun r u r2 u2 hp hq => ?_, fun E u r2 u2 hp hq => ?_⟩
  · obtain ⟨j, rfl, hj, h2, rfl, rfl⟩ := hp
    rcases hq with ⟨k, hk, e, h3, rfl, rfl⟩ | ⟨e, rfl, rfl⟩ | ⟨k, hk, e, h3, rfl, rfl⟩
    · obtain rfl : j = k := nI_same (by omega) (by omega) e
      have hb : bA (bPut B 2 (B.2 2 ||| 2 ^ j)) := bA_pl hA hj
      exact ⟨code_c _ _ _, by rw [psum_pl hb.1.2.2.1 hb.2.2.2.2.2.1], rel_c h hb⟩
    · exact (c_in (by omega) hj e).elim
    · obtain rfl : j = k := nI_same (by omega) (by omega) e
      exact absurd ⟨nb_i (band_r (band_l h2)), of_decide_eq_true (band_r h2)⟩ h3
  · rcases hp with ⟨rfl, e0, rfl⟩ | ⟨j, rfl, hj, rfl, h2, rfl⟩
    · rcases hq with ⟨k, hk, rfl, h3, rfl, rfl⟩ | ⟨e, rfl, rfl⟩ | ⟨k, hk, rfl, h3, rfl, rfl⟩
      · exact (c_in (by omega) hk e0).elim
      · exact Or.inl ⟨rfl, rfl, rel_q h _⟩
      · exact (c_in (by omega) hk e0).elim
    · rcases hq with ⟨k, hk, e, h3, rfl, rfl⟩ | ⟨e, rfl, rfl⟩ | ⟨k, hk, e, h3, rfl, rfl⟩
      · obtain rfl : j = k := nI_same (by omega) (by omega) e
        exact (c_bb (band_t (band_t (decide_eq_true hj) (nb_t h3.1)) (decide_eq_true h3.2)) h2).elim
      · exact (c_in (by omega) hj e).elim
      · exact Or.inr ⟨rfl, rfl, rel_q h _⟩
theorem cs_unplan {n : Nat} {B : kBd} {nx sz : Nat} {L0 L : List Nat} {ep fp s0 : Nat} {S : kCs} {M : kMs} (h : relD n B nx sz L0 L ep fp s0 S M) {x : Int32} :
    (∀ (r : Int32) (u : kCs) (r2 : Int32) (u2 : kMs), (fun r u => ∃ (j : Nat), x = nI j ∧ j < B.2 0 ∧ (((decide (j < B.2 0) && (B.2 2).testBit j) && decide (asgOf B j = 0))) = true ∧ r = nI (psum (bPut B 2 (andn (B.2 2) (2 ^ j))) 0) ∧ u = setB (hkS S B nx sz) 0 (bPut B 2 (andn (B.2 2) (2 ^ j)))) r u → (fun r u => (∃ k, k < B.2 0 ∧ x = nI k ∧ ((B.2 2).testBit k = true ∧ asgOf B k = 0) ∧ r = nI (plS (bPut B 2 (andn (B.2 2) (2 ^ k))) 0) ∧ u = setG (kpW (nPut M 3 (nI 0)) 0 0 sz) (bPut B 2 (andn (B.2 2) (2 ^ k)))) ∨ (inS (B.2 0) x = false ∧ r = nI 0 ∧ u = nPut M 3 (nI 1)) ∨ (∃ k, k < B.2 0 ∧ x = nI k ∧ ¬ ((B.2 2).testBit k = true ∧ asgOf B k = 0) ∧ r = nI 0 ∧ u = nPut M 3 (nI 2))) r2 u2 → u2.1 3 = nI 0 ∧ r = r2 ∧ rel (n + 1) u u2) ∧
    (∀ (E : String) (u : kCs) (r2 : Int32) (u2 : kMs), (fun E u => (E = "java/lang/IndexOutOfBoundsException" ∧ inR (B.2 0) x = false ∧ u = setB S 0 B) ∨ (∃ (j : Nat), x = nI j ∧ j < B.2 0 ∧ E = "java/lang/IllegalStateException" ∧ (((decide (j < B.2 0) && (B.2 2).testBit j) && decide (asgOf B j = 0))) = false ∧ u = setB S 0 B)) E u → (fun r u => (∃ k, k < B.2 0 ∧ x = nI k ∧ ((B.2 2).testBit k = true ∧ asgOf B k = 0) ∧ r = nI (plS (bPut B 2 (andn (B.2 2) (2 ^ k))) 0) ∧ u = setG (kpW (nPut M 3 (nI 0)) 0 0 sz) (bPut B 2 (andn (B.2 2) (2 ^ k)))) ∨ (inS (B.2 0) x = false ∧ r = nI 0 ∧ u = nPut M 3 (nI 1)) ∨ (∃ k, k < B.2 0 ∧ x = nI k ∧ ¬ ((B.2 2).testBit k = true ∧ asgOf B k = 0) ∧ r = nI 0 ∧ u = nPut M 3 (nI 2))) r2 u2 → (E = "java/lang/IndexOutOfBoundsException" ∧ u2.1 3 = nI 1 ∧ rel (n + 1) u u2) ∨ (E = "java/lang/IllegalStateException" ∧ u2.1 3 = nI 2 ∧ rel (n + 1) u u2)) := by
  have hA := h.2.1
  have hI := hA.1
  have hn := hI.2.2.1
  have hm := hI.2.2.2.1
  have hQ := hA.2.2.2.2.1
  have hP := hA.2.2.2.2.2.1
  have hr9 := hI.2.2.2.2.2.2.2.2.1
  refine ⟨fun r u r2 u2 hp hq => ?_, fun E u r2 u2 hp hq => ?_⟩
  · obtain ⟨j, rfl, hj, h2, rfl, rfl⟩ := hp
    rcases hq with ⟨k, hk, e, h3, rfl, rfl⟩ | ⟨e, rfl, rfl⟩ | ⟨k, hk, e, h3, rfl, rfl⟩
    · obtain rfl : j = k := nI_same (by omega) (by omega) e
      have hb : bA (bPut B 2 (andn (B.2 2) (2 ^ j))) := bA_unpl hA
      exact ⟨code_c _ _ _, by rw [psum_pl hb.1.2.2.1 hb.2.2.2.2.2.1], rel_c h hb⟩
    · exact (c_in (by omega) hj e).elim
    · obtain rfl : j = k := nI_same (by omega) (by omega) e
      exact absurd ⟨band_r (band_l h2), of_decide_eq_true (band_r h2)⟩ h3
  · rcases hp with ⟨rfl, e0, rfl⟩ | ⟨j, rfl, hj, rfl, h2, rfl⟩
    · rcases hq with ⟨k, hk, rfl, h3, rfl, rfl⟩ | ⟨e, rfl, rfl⟩ | ⟨k, hk, rfl, h3, rfl, rfl⟩
      · exact (c_in (by omega) hk e0).elim
      · exact Or.inl ⟨rfl, rfl, rel_q h _⟩
      · exact (c_in (by omega) hk e0).elim
    · rcases hq with ⟨k, hk, e, h3, rfl, rfl⟩ | ⟨e, rfl, rfl⟩ | ⟨k, hk, e, h3, rfl, rfl⟩
      · obtain rfl : j = k := nI_same (by omega) (by omega) e
        exact (c_bb (band_t (band_t (decide_eq_true hj) h3.1) (decide_eq_true h3.2)) h2).elim
      · exact (c_in (by omega) hj e).elim
      · exact Or.inr ⟨rfl, rfl, rel_q h _⟩
theorem cs_passDay {n : Nat} {B : kBd} {nx sz : Nat} {L0 L : List Nat} {ep fp s0 : Nat} {S : kCs} {M : kMs} (h : relD n B nx sz L0 L ep fp s0 S M) :
    (∀ (r : Int32) (u : kCs) (r2 : Int32) (u2 : kMs), (fun r u => ((decide (B.2 3 ≠ 0) && decide (B.2 5 < B.2 4))) = true ∧ r = nI (wkN (unf B) B 4).2 ∧ u = setB (hkS S B nx sz) 0 (dayB B)) r u → (fun r u => (B.2 3 ≠ 0 ∧ B.2 5 ≠ B.2 4 ∧ r = nI (wkM B (B.2 1)).2 ∧ u = setG (kpW (nPut M 3 (nI 0)) 0 0 sz) (dayS B)) ∨ ((B.2 3 = 0 ∨ B.2 5 = B.2 4) ∧ r = nI 0 ∧ u = nPut M 3 (nI 1))) r2 u2 → u2.1 3 = nI 0 ∧ r = r2 ∧ rel (n + 1) u u2) ∧
    (∀ (E : String) (u : kCs) (r2 : Int32) (u2 : kMs), (fun E u => (E = "java/lang/IllegalStateException" ∧ ((decide (B.2 3 ≠ 0) && decide (B.2 5 < B.2 4))) = false ∧ u = setB S 0 B)) E u → (fun r u => (B.2 3 ≠ 0 ∧ B.2 5 ≠ B.2 4 ∧ r = nI (wkM B (B.2 1)).2 ∧ u = setG (kpW (nPut M 3 (nI 0)) 0 0 sz) (dayS B)) ∨ ((B.2 3 = 0 ∨ B.2 5 = B.2 4) ∧ r = nI 0 ∧ u = nPut M 3 (nI 1))) r2 u2 → (E = "java/lang/IllegalStateException" ∧ u2.1 3 = nI 1 ∧ rel (n + 1) u u2)) := by
  have hA := h.2.1
  have hI := hA.1
  have hn := hI.2.2.1
  have hm := hI.2.2.2.1
  have hQ := hA.2.2.2.2.1
  have hP := hA.2.2.2.2.2.1
  have hr9 := hI.2.2.2.2.2.2.2.2.1
  refine ⟨fun r u r2 u2 hp hq => ?_, fun E u r2 u2 hp hq => ?_⟩
  · obtain ⟨h1, rfl, rfl⟩ := hp
    have g1 := of_decide_eq_true (band_l h1)
    have g2 := of_decide_eq_true (band_r h1)
    rcases hq with ⟨h2, h3, rfl, rfl⟩ | ⟨h2, rfl, rfl⟩
    · rw [day_S hA]
      exact ⟨code_c _ _ _, by rw [wkM_4 hA], rel_c h (bA_day hA g2)⟩
    · rcases h2 with h2 | h2
      · exact absurd h2 g1
      · omega
  · obtain ⟨rfl, h1, rfl⟩ := hp
    have h54 := hI.2.2.2.2.2.1
    rcases hq with ⟨h2, h3, rfl, rfl⟩ | ⟨h2, rfl, rfl⟩
    · exact (c_bb (band_t (decide_eq_true h2) (decide_eq_true (by omega))) h1).elim
    · exact ⟨rfl, rfl, rel_q h _⟩
theorem cs_endSprint {n : Nat} {B : kBd} {nx sz : Nat} {L0 L : List Nat} {ep fp s0 : Nat} {S : kCs} {M : kMs} (h : relD n B nx sz L0 L ep fp s0 S M) :
    (∀ (r : Int32) (u : kCs) (r2 : Int32) (u2 : kMs), (fun r u => (decide (B.2 3 ≠ 0)) = true ∧ r = nI (pfin B) ∧ u = setB (hkS S B nx sz) 0 (endB B)) r u → (fun r u => (B.2 3 ≠ 0 ∧ r = nI (pfS B (B.2 0)) ∧ u = setG (kpW (nPut M 3 (nI 0)) 0 0 sz) (endS B)) ∨ (B.2 3 = 0 ∧ r = nI 0 ∧ u = nPut M 3 (nI 1))) r2 u2 → u2.1 3 = nI 0 ∧ r = r2 ∧ rel (n + 1) u u2) ∧
    (∀ (E : String) (u : kCs) (r2 : Int32) (u2 : kMs), (fun E u => (E = "java/lang/IllegalStateException" ∧ (decide (B.2 3 ≠ 0)) = false ∧ u = setB S 0 B)) E u → (fun r u => (B.2 3 ≠ 0 ∧ r = nI (pfS B (B.2 0)) ∧ u = setG (kpW (nPut M 3 (nI 0)) 0 0 sz) (endS B)) ∨ (B.2 3 = 0 ∧ r = nI 0 ∧ u = nPut M 3 (nI 1))) r2 u2 → (E = "java/lang/IllegalStateException" ∧ u2.1 3 = nI 1 ∧ rel (n + 1) u u2)) := by
  have hA := h.2.1
  have hI := hA.1
  have hn := hI.2.2.1
  have hm := hI.2.2.2.1
  have hQ := hA.2.2.2.2.1
  have hP := hA.2.2.2.2.2.1
  have hr9 := hI.2.2.2.2.2.2.2.2.1
  refine ⟨fun r u r2 u2 hp hq => ?_, fun E u r2 u2 hp hq => ?_⟩
  · obtain ⟨h1, rfl, rfl⟩ := hp
    have g1 := of_decide_eq_true h1
    rcases hq with ⟨h2, rfl, rfl⟩ | ⟨h2, rfl, rfl⟩
    · rw [end_S hA]
      exact ⟨code_c _ _ _, by rw [pfin_pf hn hP], rel_c h (bA_end hA (hI.2.2.2.2.2.2.2.2.2.2.2.1 g1))⟩
    · exact absurd h2 g1
  · obtain ⟨rfl, h1, rfl⟩ := hp
    rcases hq with ⟨h2, rfl, rfl⟩ | ⟨h2, rfl, rfl⟩
    · exact absurd h2 (of_decide_eq_false h1)
    · exact ⟨rfl, rfl, rel_q h _⟩
theorem cs_unassign {n : Nat} {B : kBd} {nx sz : Nat} {L0 L : List Nat} {ep fp s0 : Nat} {S : kCs} {M : kMs} (h : relD n B nx sz L0 L ep fp s0 S M) {x : Int32} :
    (∀ (r : Int32) (u : kCs) (r2 : Int32) (u2 : kMs), (fun r u => ∃ (k : Nat), x = nI k ∧ k < B.2 1 ∧ ((decide (k < B.2 1) && decide (B.1 4 k ≠ 0))) = true ∧ r = nI (B.1 4 k) - 1 ∧ u = setB (hkS S B nx sz) 0 (bSet B 4 k 0)) r u → (fun r u => (∃ d, d < B.2 1 ∧ x = nI d ∧ B.1 4 d ≠ 0 ∧ r = nI (B.1 4 d) - 1 ∧ u = setG (kpW (nPut M 3 (nI 0)) 0 0 sz) (bSet B 4 d 0)) ∨ (inS (B.2 1) x = false ∧ r = nI 0 ∧ u = nPut M 3 (nI 1)) ∨ (∃ d, d < B.2 1 ∧ x = nI d ∧ B.1 4 d = 0 ∧ r = nI 0 ∧ u = nPut M 3 (nI 2))) r2 u2 → u2.1 3 = nI 0 ∧ r = r2 ∧ rel (n + 1) u u2) ∧
    (∀ (E : String) (u : kCs) (r2 : Int32) (u2 : kMs), (fun E u => (E = "java/lang/IndexOutOfBoundsException" ∧ inR (B.2 1) x = false ∧ u = setB S 0 B) ∨ (∃ (k : Nat), x = nI k ∧ k < B.2 1 ∧ E = "java/lang/IllegalStateException" ∧ ((decide (k < B.2 1) && decide (B.1 4 k ≠ 0))) = false ∧ u = setB S 0 B)) E u → (fun r u => (∃ d, d < B.2 1 ∧ x = nI d ∧ B.1 4 d ≠ 0 ∧ r = nI (B.1 4 d) - 1 ∧ u = setG (kpW (nPut M 3 (nI 0)) 0 0 sz) (bSet B 4 d 0)) ∨ (inS (B.2 1) x = false ∧ r = nI 0 ∧ u = nPut M 3 (nI 1)) ∨ (∃ d, d < B.2 1 ∧ x = nI d ∧ B.1 4 d = 0 ∧ r = nI 0 ∧ u = nPut M 3 (nI 2))) r2 u2 → (E = "java/lang/IndexOutOfBoundsException" ∧ u2.1 3 = nI 1 ∧ rel (n + 1) u u2) ∨ (E = "java/lang/IllegalStateException" ∧ u2.1 3 = nI 2 ∧ rel (n + 1) u u2)) := by
  have hA := h.2.1
  have hI := hA.1
  have hn := hI.2.2.1
  have hm := hI.2.2.2.1
  have hQ := hA.2.2.2.2.1
  have hP := hA.2.2.2.2.2.1
  have hr9 := hI.2.2.2.2.2.2.2.2.1
  refine ⟨fun r u r2 u2 hp hq => ?_, fun E u r2 u2 hp hq => ?_⟩
  · obtain ⟨k, rfl, hk, h2, rfl, rfl⟩ := hp
    have g := of_decide_eq_true (band_r h2)
    rcases hq with ⟨d, hd, e, h3, rfl, rfl⟩ | ⟨e, rfl, rfl⟩ | ⟨d, hd, e, h3, rfl, rfl⟩
    · obtain rfl : k = d := nI_same (by omega) (by omega) e
      exact ⟨code_c _ _ _, rfl, rel_c h (bA_free hA (by omega))⟩
    · exact (c_in (by omega) hk e).elim
    · obtain rfl : k = d := nI_same (by omega) (by omega) e
      exact absurd h3 g
  · rcases hp with ⟨rfl, e0, rfl⟩ | ⟨k, rfl, hk, rfl, h2, rfl⟩
    · rcases hq with ⟨d, hd, rfl, h3, rfl, rfl⟩ | ⟨e, rfl, rfl⟩ | ⟨d, hd, rfl, h3, rfl, rfl⟩
      · exact (c_in (by omega) hd e0).elim
      · exact Or.inl ⟨rfl, rfl, rel_q h _⟩
      · exact (c_in (by omega) hd e0).elim
    · rcases hq with ⟨d, hd, e, h3, rfl, rfl⟩ | ⟨e, rfl, rfl⟩ | ⟨d, hd, e, h3, rfl, rfl⟩
      · obtain rfl : k = d := nI_same (by omega) (by omega) e
        exact (c_bb (band_t (decide_eq_true hk) (decide_eq_true h3)) h2).elim
      · exact (c_in (by omega) hk e).elim
      · exact Or.inr ⟨rfl, rfl, rel_q h _⟩
theorem cs_reestimate {n : Nat} {B : kBd} {nx sz : Nat} {L0 L : List Nat} {ep fp s0 : Nat} {S : kCs} {M : kMs} (h : relD n B nx sz L0 L ep fp s0 S M) {x y : Int32} :
    (∀ (r : Int32) (u : kCs) (r2 : Int32) (u2 : kMs), (fun r u => ∃ (j : Nat) (p0 : Nat), x = nI j ∧ j < B.2 0 ∧ (isEst (y : Int32).toInt) = true ∧ y = nI p0 ∧ 1 ≤ p0 ∧ p0 ≤ 13 ∧ (((decide (j < B.2 0) && isEst (y : Int32).toInt) && decide (B.1 1 j ≠ 0))) = true ∧ r = nI (p0 - min (B.1 0 j - B.1 1 j) p0) ∧ u = setB (hkS S B nx sz) 0 (reB B j p0)) r u → (fun r u => (∃ k q, k < B.2 0 ∧ isEst (nI q : Int32).toInt = true ∧ q ≤ 13 ∧ x = nI k ∧ y = nI q ∧ B.1 1 k ≠ 0 ∧ r = nI ((reB B k q).1 1 k) ∧ u = setG (kpW (nPut M 3 (nI 0)) 0 0 sz) (reB B k q)) ∨ (inS (B.2 0) x = false ∧ r = nI 0 ∧ u = nPut M 3 (nI 1)) ∨ (∃ k, k < B.2 0 ∧ x = nI k ∧ isEst y.toInt = false ∧ r = nI 0 ∧ u = nPut M 3 (nI 2)) ∨ (∃ k q, k < B.2 0 ∧ isEst (nI q : Int32).toInt = true ∧ x = nI k ∧ y = nI q ∧ B.1 1 k = 0 ∧ r = nI 0 ∧ u = nPut M 3 (nI 3))) r2 u2 → u2.1 3 = nI 0 ∧ r = r2 ∧ rel (n + 1) u u2) ∧
    (∀ (E : String) (u : kCs) (r2 : Int32) (u2 : kMs), (fun E u => (E = "java/lang/IndexOutOfBoundsException" ∧ inR (B.2 0) x = false ∧ u = setB S 0 B) ∨ (∃ (j : Nat), x = nI j ∧ j < B.2 0 ∧ E = "java/lang/IllegalArgumentException" ∧ (isEst (y : Int32).toInt) = false ∧ u = setB S 0 B) ∨ (∃ (j : Nat) (p0 : Nat), x = nI j ∧ j < B.2 0 ∧ (isEst (y : Int32).toInt) = true ∧ y = nI p0 ∧ 1 ≤ p0 ∧ p0 ≤ 13 ∧ E = "java/lang/IllegalStateException" ∧ (((decide (j < B.2 0) && isEst (y : Int32).toInt) && decide (B.1 1 j ≠ 0))) = false ∧ u = setB S 0 B)) E u → (fun r u => (∃ k q, k < B.2 0 ∧ isEst (nI q : Int32).toInt = true ∧ q ≤ 13 ∧ x = nI k ∧ y = nI q ∧ B.1 1 k ≠ 0 ∧ r = nI ((reB B k q).1 1 k) ∧ u = setG (kpW (nPut M 3 (nI 0)) 0 0 sz) (reB B k q)) ∨ (inS (B.2 0) x = false ∧ r = nI 0 ∧ u = nPut M 3 (nI 1)) ∨ (∃ k, k < B.2 0 ∧ x = nI k ∧ isEst y.toInt = false ∧ r = nI 0 ∧ u = nPut M 3 (nI 2)) ∨ (∃ k q, k < B.2 0 ∧ isEst (nI q : Int32).toInt = true ∧ x = nI k ∧ y = nI q ∧ B.1 1 k = 0 ∧ r = nI 0 ∧ u = nPut M 3 (nI 3))) r2 u2 → (E = "java/lang/IndexOutOfBoundsException" ∧ u2.1 3 = nI 1 ∧ rel (n + 1) u u2) ∨ (E = "java/lang/IllegalArgumentException" ∧ u2.1 3 = nI 2 ∧ rel (n + 1) u u2) ∨ (E = "java/lang/IllegalStateException" ∧ u2.1 3 = nI 3 ∧ rel (n + 1) u u2)) := by
  have hA := h.2.1
  have hI := hA.1
  have hn := hI.2.2.1
  have hm := hI.2.2.2.1
  have hQ := hA.2.2.2.2.1
  have hP := hA.2.2.2.2.2.1
  have hr9 := hI.2.2.2.2.2.2.2.2.1
  refine ⟨fun r u r2 u2 hp hq => ?_, fun E u r2 u2 hp hq => ?_⟩
  · obtain ⟨j, p, rfl, hj, h1, rfl, hp1, hp13, h2, rfl, rfl⟩ := hp
    have g := of_decide_eq_true (band_r h2)
    rcases hq with ⟨k, q, hk, e1, e2, e3, e4, e5, rfl, rfl⟩ | ⟨e, rfl, rfl⟩ | ⟨k, hk, e, e1, rfl, rfl⟩ | ⟨k, q, hk, e1, e3, e4, e5, rfl, rfl⟩
    · obtain rfl : j = k := nI_same (by omega) (by omega) e3
      obtain rfl : p = q := nI_same (by omega) (by omega) e4
      exact ⟨code_c _ _ _, by rw [reB_1 (hr9 j)], rel_c h (bA_re hA hj hp13)⟩
    · exact (c_in (by omega) hj e).elim
    · exact (c_bb h1 e1).elim
    · obtain rfl : j = k := nI_same (by omega) (by omega) e3
      exact absurd e5 g
  · rcases hp with ⟨rfl, e0, rfl⟩ | ⟨j, rfl, hj, rfl, h1, rfl⟩ | ⟨j, p, rfl, hj, h1, rfl, hp1, hp13, rfl, h2, rfl⟩
    · rcases hq with ⟨k, q, hk, e1, e2, rfl, rfl, e5, rfl, rfl⟩ | ⟨e, rfl, rfl⟩ | ⟨k, hk, rfl, e1, rfl, rfl⟩ | ⟨k, q, hk, e1, rfl, rfl, e5, rfl, rfl⟩
      · exact (c_in (by omega) hk e0).elim
      · exact Or.inl ⟨rfl, rfl, rel_q h _⟩
      · exact (c_in (by omega) hk e0).elim
      · exact (c_in (by omega) hk e0).elim
    · rcases hq with ⟨k, q, hk, e1, e2, e3, rfl, e5, rfl, rfl⟩ | ⟨e, rfl, rfl⟩ | ⟨k, hk, e, e1, rfl, rfl⟩ | ⟨k, q, hk, e1, e3, rfl, e5, rfl, rfl⟩
      · exact (c_bb e1 h1).elim
      · exact (c_in (by omega) hj e).elim
      · exact Or.inr (Or.inl ⟨rfl, rfl, rel_q h _⟩)
      · exact (c_bb e1 h1).elim
    · rcases hq with ⟨k, q, hk, e1, e2, e3, e4, e5, rfl, rfl⟩ | ⟨e, rfl, rfl⟩ | ⟨k, hk, e, e1, rfl, rfl⟩ | ⟨k, q, hk, e1, e3, e4, e5, rfl, rfl⟩
      · obtain rfl : j = k := nI_same (by omega) (by omega) e3
        exact (c_bb (band_t (band_t (decide_eq_true hj) h1) (decide_eq_true e5)) h2).elim
      · exact (c_in (by omega) hj e).elim
      · exact (c_bb h1 e1).elim
      · exact Or.inr (Or.inr ⟨rfl, rfl, rel_q h _⟩)
theorem cs_unblock {n : Nat} {B : kBd} {nx sz : Nat} {L0 L : List Nat} {ep fp s0 : Nat} {S : kCs} {M : kMs} (h : relD n B nx sz L0 L ep fp s0 S M) {x y : Int32} :
    (∀ (r : Int32) (u : kCs) (r2 : Int32) (u2 : kMs), (fun r u => ∃ (j : Nat) (k : Nat), x = nI j ∧ j < B.2 0 ∧ y = nI k ∧ k < B.2 0 ∧ (((decide (j < B.2 0) && decide (k < B.2 0)) && (B.1 2 j).testBit k)) = true ∧ r = nI (pcn ((ublB B j k).1 2 j)) ∧ u = setB (hkS S B nx sz) 0 (ublB B j k)) r u → (fun r u => (∃ j k, j < B.2 0 ∧ k < B.2 0 ∧ x = nI j ∧ y = nI k ∧ (B.1 2 j).testBit k = true ∧ r = nI (brS (bSet B 2 j (andn (B.1 2 j) (2 ^ k))) j) ∧ u = setG (kpW (nPut M 3 (nI 0)) 0 0 sz) (bSet B 2 j (andn (B.1 2 j) (2 ^ k)))) ∨ ((inS (B.2 0) x && inS (B.2 0) y) = false ∧ r = nI 0 ∧ u = nPut M 3 (nI 1)) ∨ (∃ j k, j < B.2 0 ∧ k < B.2 0 ∧ x = nI j ∧ y = nI k ∧ (B.1 2 j).testBit k = false ∧ r = nI 0 ∧ u = nPut M 3 (nI 2))) r2 u2 → u2.1 3 = nI 0 ∧ r = r2 ∧ rel (n + 1) u u2) ∧
    (∀ (E : String) (u : kCs) (r2 : Int32) (u2 : kMs), (fun E u => (E = "java/lang/IndexOutOfBoundsException" ∧ inR (B.2 0) x = false ∧ u = setB S 0 B) ∨ (∃ (j : Nat), x = nI j ∧ j < B.2 0 ∧ E = "java/lang/IndexOutOfBoundsException" ∧ inR (B.2 0) y = false ∧ u = setB S 0 B) ∨ (∃ (j : Nat) (k : Nat), x = nI j ∧ j < B.2 0 ∧ y = nI k ∧ k < B.2 0 ∧ E = "java/lang/IllegalStateException" ∧ (((decide (j < B.2 0) && decide (k < B.2 0)) && (B.1 2 j).testBit k)) = false ∧ u = setB S 0 B)) E u → (fun r u => (∃ j k, j < B.2 0 ∧ k < B.2 0 ∧ x = nI j ∧ y = nI k ∧ (B.1 2 j).testBit k = true ∧ r = nI (brS (bSet B 2 j (andn (B.1 2 j) (2 ^ k))) j) ∧ u = setG (kpW (nPut M 3 (nI 0)) 0 0 sz) (bSet B 2 j (andn (B.1 2 j) (2 ^ k)))) ∨ ((inS (B.2 0) x && inS (B.2 0) y) = false ∧ r = nI 0 ∧ u = nPut M 3 (nI 1)) ∨ (∃ j k, j < B.2 0 ∧ k < B.2 0 ∧ x = nI j ∧ y = nI k ∧ (B.1 2 j).testBit k = false ∧ r = nI 0 ∧ u = nPut M 3 (nI 2))) r2 u2 → (E = "java/lang/IndexOutOfBoundsException" ∧ u2.1 3 = nI 1 ∧ rel (n + 1) u u2) ∨ (E = "java/lang/IllegalStateException" ∧ u2.1 3 = nI 2 ∧ rel (n + 1) u u2)) := by
  have hA := h.2.1
  have hI := hA.1
  have hn := hI.2.2.1
  have hm := hI.2.2.2.1
  have hQ := hA.2.2.2.2.1
  have hP := hA.2.2.2.2.2.1
  have hr9 := hI.2.2.2.2.2.2.2.2.1
  refine ⟨fun r u r2 u2 hp hq => ?_, fun E u r2 u2 hp hq => ?_⟩
  · obtain ⟨j, k, rfl, hj, rfl, hk, h1, rfl, rfl⟩ := hp
    have g := band_r h1
    rcases hq with ⟨j2, k2, hj2, hk2, e1, e2, h3, rfl, rfl⟩ | ⟨e, rfl, rfl⟩ | ⟨j2, k2, hj2, hk2, e1, e2, h3, rfl, rfl⟩
    · obtain rfl : j = j2 := nI_same (by omega) (by omega) e1
      obtain rfl : k = k2 := nI_same (by omega) (by omega) e2
      have hb := bA_ubl (k := k) hA hj
      exact ⟨code_c _ _ _, by rw [pcn_br hb.1.2.2.1 hb.2.2.2.2.1]; rfl, rel_c h hb⟩
    · exact (c_in2 (by omega) (by omega) hj hk e).elim
    · obtain rfl : j = j2 := nI_same (by omega) (by omega) e1
      obtain rfl : k = k2 := nI_same (by omega) (by omega) e2
      exact (c_bb g h3).elim
  · rcases hp with ⟨rfl, e0, rfl⟩ | ⟨j, rfl, hj, rfl, e0, rfl⟩ | ⟨j, k, rfl, hj, rfl, hk, rfl, h1, rfl⟩
    · rcases hq with ⟨j2, k2, hj2, hk2, rfl, rfl, h3, rfl, rfl⟩ | ⟨e, rfl, rfl⟩ | ⟨j2, k2, hj2, hk2, rfl, rfl, h3, rfl, rfl⟩
      · exact (c_in (by omega) hj2 e0).elim
      · exact Or.inl ⟨rfl, rfl, rel_q h _⟩
      · exact (c_in (by omega) hj2 e0).elim
    · rcases hq with ⟨j2, k2, hj2, hk2, e1, rfl, h3, rfl, rfl⟩ | ⟨e, rfl, rfl⟩ | ⟨j2, k2, hj2, hk2, e1, rfl, h3, rfl, rfl⟩
      · exact (c_in (by omega) hk2 e0).elim
      · exact Or.inl ⟨rfl, rfl, rel_q h _⟩
      · exact (c_in (by omega) hk2 e0).elim
    · rcases hq with ⟨j2, k2, hj2, hk2, e1, e2, h3, rfl, rfl⟩ | ⟨e, rfl, rfl⟩ | ⟨j2, k2, hj2, hk2, e1, e2, h3, rfl, rfl⟩
      · obtain rfl : j = j2 := nI_same (by omega) (by omega) e1
        obtain rfl : k = k2 := nI_same (by omega) (by omega) e2
        exact (c_bb (band_t (band_t (decide_eq_true hj) (decide_eq_true hk)) h3) h1).elim
      · exact (c_in2 (by omega) (by omega) hj hk e).elim
      · exact Or.inr ⟨rfl, rfl, rel_q h _⟩
theorem cs_block {n : Nat} {B : kBd} {nx sz : Nat} {L0 L : List Nat} {ep fp s0 : Nat} {S : kCs} {M : kMs} (h : relD n B nx sz L0 L ep fp s0 S M) {x y : Int32} :
    (∀ (r : Int32) (u : kCs) (r2 : Int32) (u2 : kMs), (fun r u => ∃ (j : Nat) (k : Nat), x = nI j ∧ j < B.2 0 ∧ y = nI k ∧ k < B.2 0 ∧ j ≠ k ∧ ((decide (j < B.2 0) && decide (k < B.2 0)) && (B.1 2 j).testBit k) = false ∧ (decide (j < B.2 0) && decide (B.1 1 j = 0)) = false ∧ ((((((decide (j < B.2 0) && decide (k < B.2 0)) && decide (j ≠ k)) && !(B.1 2 j).testBit k) && decide (B.1 1 j ≠ 0)) && !fnd B k j)) = true ∧ r = nI (pcn ((blkB B j k).1 2 j)) ∧ u = setB (hkS S B nx sz) 0 (blkB B j k)) r u → (fun r u => (∃ j k, j < B.2 0 ∧ k < B.2 0 ∧ x = nI j ∧ y = nI k ∧ j ≠ k ∧ (B.1 2 j).testBit k = false ∧ B.1 1 j ≠ 0 ∧ (und B k).testBit j = false ∧ r = nI (brS (blkB B j k) j) ∧ u = setG (kpW (nPut M 3 (nI 0)) 0 0 sz) (blkB B j k)) ∨ ((inS (B.2 0) x && inS (B.2 0) y) = false ∧ r = nI 0 ∧ u = nPut M 3 (nI 1)) ∨ (∃ j k, j < B.2 0 ∧ k < B.2 0 ∧ x = nI j ∧ y = nI k ∧ j = k ∧ r = nI 0 ∧ u = nPut M 3 (nI 2)) ∨ (∃ j k, j < B.2 0 ∧ k < B.2 0 ∧ x = nI j ∧ y = nI k ∧ j ≠ k ∧ ((B.1 2 j).testBit k = true ∨ B.1 1 j = 0) ∧ r = nI 0 ∧ u = nPut M 3 (nI 3)) ∨ (∃ j k, j < B.2 0 ∧ k < B.2 0 ∧ x = nI j ∧ y = nI k ∧ j ≠ k ∧ (B.1 2 j).testBit k = false ∧ B.1 1 j ≠ 0 ∧ (und B k).testBit j = true ∧ r = nI 0 ∧ u = nPut M 3 (nI 4))) r2 u2 → u2.1 3 = nI 0 ∧ r = r2 ∧ rel (n + 1) u u2) ∧
    (∀ (E : String) (u : kCs) (r2 : Int32) (u2 : kMs), (fun E u => (E = "java/lang/IndexOutOfBoundsException" ∧ inR (B.2 0) x = false ∧ u = setB S 0 B) ∨ (∃ (j : Nat), x = nI j ∧ j < B.2 0 ∧ E = "java/lang/IndexOutOfBoundsException" ∧ inR (B.2 0) y = false ∧ u = setB S 0 B) ∨ (∃ (j : Nat) (k : Nat), x = nI j ∧ j < B.2 0 ∧ y = nI k ∧ k < B.2 0 ∧ E = "java/lang/IllegalArgumentException" ∧ j = k ∧ u = setB S 0 B) ∨ (∃ (j : Nat) (k : Nat), x = nI j ∧ j < B.2 0 ∧ y = nI k ∧ k < B.2 0 ∧ j ≠ k ∧ E = "java/lang/IllegalStateException" ∧ (((decide (j < B.2 0) && decide (k < B.2 0)) && (B.1 2 j).testBit k) = true ∨ (decide (j < B.2 0) && decide (B.1 1 j = 0)) = true) ∧ u = setB S 0 B) ∨ (∃ (j : Nat) (k : Nat), x = nI j ∧ j < B.2 0 ∧ y = nI k ∧ k < B.2 0 ∧ j ≠ k ∧ ((decide (j < B.2 0) && decide (k < B.2 0)) && (B.1 2 j).testBit k) = false ∧ (decide (j < B.2 0) && decide (B.1 1 j = 0)) = false ∧ E = "java/lang/UnsupportedOperationException" ∧ ((((((decide (j < B.2 0) && decide (k < B.2 0)) && decide (j ≠ k)) && !(B.1 2 j).testBit k) && decide (B.1 1 j ≠ 0)) && !fnd B k j)) = false ∧ u = setB S 0 B)) E u → (fun r u => (∃ j k, j < B.2 0 ∧ k < B.2 0 ∧ x = nI j ∧ y = nI k ∧ j ≠ k ∧ (B.1 2 j).testBit k = false ∧ B.1 1 j ≠ 0 ∧ (und B k).testBit j = false ∧ r = nI (brS (blkB B j k) j) ∧ u = setG (kpW (nPut M 3 (nI 0)) 0 0 sz) (blkB B j k)) ∨ ((inS (B.2 0) x && inS (B.2 0) y) = false ∧ r = nI 0 ∧ u = nPut M 3 (nI 1)) ∨ (∃ j k, j < B.2 0 ∧ k < B.2 0 ∧ x = nI j ∧ y = nI k ∧ j = k ∧ r = nI 0 ∧ u = nPut M 3 (nI 2)) ∨ (∃ j k, j < B.2 0 ∧ k < B.2 0 ∧ x = nI j ∧ y = nI k ∧ j ≠ k ∧ ((B.1 2 j).testBit k = true ∨ B.1 1 j = 0) ∧ r = nI 0 ∧ u = nPut M 3 (nI 3)) ∨ (∃ j k, j < B.2 0 ∧ k < B.2 0 ∧ x = nI j ∧ y = nI k ∧ j ≠ k ∧ (B.1 2 j).testBit k = false ∧ B.1 1 j ≠ 0 ∧ (und B k).testBit j = true ∧ r = nI 0 ∧ u = nPut M 3 (nI 4))) r2 u2 → (E = "java/lang/IndexOutOfBoundsException" ∧ u2.1 3 = nI 1 ∧ rel (n + 1) u u2) ∨ (E = "java/lang/IllegalArgumentException" ∧ u2.1 3 = nI 2 ∧ rel (n + 1) u u2) ∨ (E = "java/lang/IllegalStateException" ∧ u2.1 3 = nI 3 ∧ rel (n + 1) u u2) ∨ (E = "java/lang/UnsupportedOperationException" ∧ u2.1 3 = nI 4 ∧ rel (n + 1) u u2)) := by
  have hA := h.2.1
  have hI := hA.1
  have hn := hI.2.2.1
  have hm := hI.2.2.2.1
  have hQ := hA.2.2.2.2.1
  have hP := hA.2.2.2.2.2.1
  have hr9 := hI.2.2.2.2.2.2.2.2.1
  refine ⟨fun r u r2 u2 hp hq => ?_, fun E u r2 u2 hp hq => ?_⟩
  · obtain ⟨j, k, rfl, hj, rfl, hk, hne, h1, h2, h3, rfl, rfl⟩ := hp
    have g1 := nb_i (band_r (band_l (band_l h3)))
    have g2 := of_decide_eq_true (band_r (band_l h3))
    have g3 := nb_i (band_r h3)
    rcases hq with ⟨j2, k2, hj2, hk2, e1, e2, e3, e4, e5, e6, rfl, rfl⟩ | ⟨e, rfl, rfl⟩ | ⟨j2, k2, hj2, hk2, e1, e2, e3, rfl, rfl⟩ | ⟨j2, k2, hj2, hk2, e1, e2, e3, e4, rfl, rfl⟩ | ⟨j2, k2, hj2, hk2, e1, e2, e3, e4, e5, e6, rfl, rfl⟩
    · obtain rfl : j = j2 := nI_same (by omega) (by omega) e1
      obtain rfl : k = k2 := nI_same (by omega) (by omega) e2
      have hb : bA (blkB B j k) := bA_blk hA hj hk hne (fun z => by
        have := (und_ok hI.1 hQ k j).mpr z
        rw [e6] at this; exact Bool.noConfusion this)
      exact ⟨code_c _ _ _, by rw [pcn_br hb.1.2.2.1 hb.2.2.2.2.1], rel_c h hb⟩
    · exact (c_in2 (by omega) (by omega) hj hk e).elim
    · obtain rfl : j = j2 := nI_same (by omega) (by omega) e1
      obtain rfl : k = k2 := nI_same (by omega) (by omega) e2
      exact absurd e3 hne
    · obtain rfl : j = j2 := nI_same (by omega) (by omega) e1
      obtain rfl : k = k2 := nI_same (by omega) (by omega) e2
      rcases e4 with e4 | e4
      · exact (c_bb e4 g1).elim
      · exact absurd e4 g2
    · obtain rfl : j = j2 := nI_same (by omega) (by omega) e1
      obtain rfl : k = k2 := nI_same (by omega) (by omega) e2
      rw [und_fnd hA hk hj] at e6
      exact (c_bb e6 g3).elim
  · rcases hp with ⟨rfl, e0, rfl⟩ | ⟨j, rfl, hj, rfl, e0, rfl⟩ | ⟨j, k, rfl, hj, rfl, hk, rfl, h1, rfl⟩ | ⟨j, k, rfl, hj, rfl, hk, hne, rfl, h1, rfl⟩ | ⟨j, k, rfl, hj, rfl, hk, hne, h1, h2, rfl, h3, rfl⟩
    · rcases hq with ⟨j2, k2, hj2, hk2, rfl, rfl, e3, e4, e5, e6, rfl, rfl⟩ | ⟨e, rfl, rfl⟩ | ⟨j2, k2, hj2, hk2, rfl, rfl, e3, rfl, rfl⟩ | ⟨j2, k2, hj2, hk2, rfl, rfl, e3, e4, rfl, rfl⟩ | ⟨j2, k2, hj2, hk2, rfl, rfl, e3, e4, e5, e6, rfl, rfl⟩
      · exact (c_in (by omega) hj2 e0).elim
      · exact Or.inl ⟨rfl, rfl, rel_q h _⟩
      · exact (c_in (by omega) hj2 e0).elim
      · exact (c_in (by omega) hj2 e0).elim
      · exact (c_in (by omega) hj2 e0).elim
    · rcases hq with ⟨j2, k2, hj2, hk2, e1, rfl, e3, e4, e5, e6, rfl, rfl⟩ | ⟨e, rfl, rfl⟩ | ⟨j2, k2, hj2, hk2, e1, rfl, e3, rfl, rfl⟩ | ⟨j2, k2, hj2, hk2, e1, rfl, e3, e4, rfl, rfl⟩ | ⟨j2, k2, hj2, hk2, e1, rfl, e3, e4, e5, e6, rfl, rfl⟩
      · exact (c_in (by omega) hk2 e0).elim
      · exact Or.inl ⟨rfl, rfl, rel_q h _⟩
      · exact (c_in (by omega) hk2 e0).elim
      · exact (c_in (by omega) hk2 e0).elim
      · exact (c_in (by omega) hk2 e0).elim
    · rcases hq with ⟨j2, k2, hj2, hk2, e1, e2, e3, e4, e5, e6, rfl, rfl⟩ | ⟨e, rfl, rfl⟩ | ⟨j2, k2, hj2, hk2, e1, e2, e3, rfl, rfl⟩ | ⟨j2, k2, hj2, hk2, e1, e2, e3, e4, rfl, rfl⟩ | ⟨j2, k2, hj2, hk2, e1, e2, e3, e4, e5, e6, rfl, rfl⟩
      · obtain rfl : j = j2 := nI_same (by omega) (by omega) e1
        obtain rfl : k = k2 := nI_same (by omega) (by omega) e2
        exact absurd h1 e3
      · exact (c_in2 (by omega) (by omega) hj hk e).elim
      · exact Or.inr (Or.inl ⟨rfl, rfl, rel_q h _⟩)
      · obtain rfl : j = j2 := nI_same (by omega) (by omega) e1
        obtain rfl : k = k2 := nI_same (by omega) (by omega) e2
        exact absurd h1 e3
      · obtain rfl : j = j2 := nI_same (by omega) (by omega) e1
        obtain rfl : k = k2 := nI_same (by omega) (by omega) e2
        exact absurd h1 e3
    · rcases hq with ⟨j2, k2, hj2, hk2, e1, e2, e3, e4, e5, e6, rfl, rfl⟩ | ⟨e, rfl, rfl⟩ | ⟨j2, k2, hj2, hk2, e1, e2, e3, rfl, rfl⟩ | ⟨j2, k2, hj2, hk2, e1, e2, e3, e4, rfl, rfl⟩ | ⟨j2, k2, hj2, hk2, e1, e2, e3, e4, e5, e6, rfl, rfl⟩
      · obtain rfl : j = j2 := nI_same (by omega) (by omega) e1
        obtain rfl : k = k2 := nI_same (by omega) (by omega) e2
        rcases h1 with h1 | h1
        · exact (c_bb (band_r h1) e4).elim
        · exact absurd (of_decide_eq_true (band_r h1)) e5
      · exact (c_in2 (by omega) (by omega) hj hk e).elim
      · obtain rfl : j = j2 := nI_same (by omega) (by omega) e1
        obtain rfl : k = k2 := nI_same (by omega) (by omega) e2
        exact absurd e3 hne
      · exact Or.inr (Or.inr (Or.inl ⟨rfl, rfl, rel_q h _⟩))
      · obtain rfl : j = j2 := nI_same (by omega) (by omega) e1
        obtain rfl : k = k2 := nI_same (by omega) (by omega) e2
        rcases h1 with h1 | h1
        · exact (c_bb (band_r h1) e4).elim
        · exact absurd (of_decide_eq_true (band_r h1)) e5
    · rcases hq with ⟨j2, k2, hj2, hk2, e1, e2, e3, e4, e5, e6, rfl, rfl⟩ | ⟨e, rfl, rfl⟩ | ⟨j2, k2, hj2, hk2, e1, e2, e3, rfl, rfl⟩ | ⟨j2, k2, hj2, hk2, e1, e2, e3, e4, rfl, rfl⟩ | ⟨j2, k2, hj2, hk2, e1, e2, e3, e4, e5, e6, rfl, rfl⟩
      · obtain rfl : j = j2 := nI_same (by omega) (by omega) e1
        obtain rfl : k = k2 := nI_same (by omega) (by omega) e2
        rw [und_fnd hA hk hj] at e6
        exact (c_bb (band_t (band_t (band_t (band_t (band_t (decide_eq_true hj) (decide_eq_true hk)) (decide_eq_true hne)) (nb_t e4)) (decide_eq_true e5)) (nb_t e6)) h3).elim
      · exact (c_in2 (by omega) (by omega) hj hk e).elim
      · obtain rfl : j = j2 := nI_same (by omega) (by omega) e1
        obtain rfl : k = k2 := nI_same (by omega) (by omega) e2
        exact absurd e3 hne
      · obtain rfl : j = j2 := nI_same (by omega) (by omega) e1
        obtain rfl : k = k2 := nI_same (by omega) (by omega) e2
        rcases e4 with e4 | e4
        · exact (c_bb (band_t (band_t (decide_eq_true hj) (decide_eq_true hk)) e4) h1).elim
        · exact (c_bb (band_t (decide_eq_true hj) (decide_eq_true e4)) h2).elim
      · exact Or.inr (Or.inr (Or.inr ⟨rfl, rfl, rel_q h _⟩))
theorem cs_assign {n : Nat} {B : kBd} {nx sz : Nat} {L0 L : List Nat} {ep fp s0 : Nat} {S : kCs} {M : kMs} (h : relD n B nx sz L0 L ep fp s0 S M) {x y : Int32} :
    (∀ (r : Int32) (u : kCs) (r2 : Int32) (u2 : kMs), (fun r u => ∃ (j : Nat) (k : Nat), x = nI j ∧ j < B.2 0 ∧ y = nI k ∧ k < B.2 1 ∧ (decide (B.2 3 ≠ 0)) = true ∧ ((((((decide (B.2 3 ≠ 0) && (decide (j < B.2 0) && (B.2 2).testBit j)) && decide (B.1 1 j ≠ 0)) && decide (asgOf B j = 0)) && decide (k < B.2 1)) && decide (B.1 4 k = 0))) = true ∧ r = bz (decide (0 < opn (bSet B 4 k (j + 1)) j)) ∧ u = setB (hkS S B nx sz) 0 (bSet B 4 k (j + 1))) r u → (fun r u => (∃ k d, k < B.2 0 ∧ d < B.2 1 ∧ x = nI k ∧ y = nI d ∧ B.2 3 ≠ 0 ∧ ((B.2 2).testBit k = true ∧ B.1 1 k ≠ 0 ∧ asgOf B k = 0 ∧ B.1 4 d = 0) ∧ r = bz (decide (0 < opS (bSet B 4 d (k + 1)) k)) ∧ u = setG (kpW (nPut M 3 (nI 0)) 0 0 sz) (bSet B 4 d (k + 1))) ∨ ((inS (B.2 0) x && inS (B.2 1) y) = false ∧ r = nI 0 ∧ u = nPut M 3 (nI 1)) ∨ (∃ k d, k < B.2 0 ∧ d < B.2 1 ∧ x = nI k ∧ y = nI d ∧ B.2 3 = 0 ∧ r = nI 0 ∧ u = nPut M 3 (nI 2)) ∨ (∃ k d, k < B.2 0 ∧ d < B.2 1 ∧ x = nI k ∧ y = nI d ∧ B.2 3 ≠ 0 ∧ ¬ ((B.2 2).testBit k = true ∧ B.1 1 k ≠ 0 ∧ asgOf B k = 0 ∧ B.1 4 d = 0) ∧ r = nI 0 ∧ u = nPut M 3 (nI 3))) r2 u2 → u2.1 3 = nI 0 ∧ r = r2 ∧ rel (n + 1) u u2) ∧
    (∀ (E : String) (u : kCs) (r2 : Int32) (u2 : kMs), (fun E u => (E = "java/lang/IndexOutOfBoundsException" ∧ inR (B.2 0) x = false ∧ u = setB S 0 B) ∨ (∃ (j : Nat), x = nI j ∧ j < B.2 0 ∧ E = "java/lang/IndexOutOfBoundsException" ∧ inR (B.2 1) y = false ∧ u = setB S 0 B) ∨ (∃ (j : Nat) (k : Nat), x = nI j ∧ j < B.2 0 ∧ y = nI k ∧ k < B.2 1 ∧ E = "java/lang/UnsupportedOperationException" ∧ (decide (B.2 3 ≠ 0)) = false ∧ u = setB S 0 B) ∨ (∃ (j : Nat) (k : Nat), x = nI j ∧ j < B.2 0 ∧ y = nI k ∧ k < B.2 1 ∧ (decide (B.2 3 ≠ 0)) = true ∧ E = "java/lang/IllegalStateException" ∧ ((((((decide (B.2 3 ≠ 0) && (decide (j < B.2 0) && (B.2 2).testBit j)) && decide (B.1 1 j ≠ 0)) && decide (asgOf B j = 0)) && decide (k < B.2 1)) && decide (B.1 4 k = 0))) = false ∧ u = setB S 0 B)) E u → (fun r u => (∃ k d, k < B.2 0 ∧ d < B.2 1 ∧ x = nI k ∧ y = nI d ∧ B.2 3 ≠ 0 ∧ ((B.2 2).testBit k = true ∧ B.1 1 k ≠ 0 ∧ asgOf B k = 0 ∧ B.1 4 d = 0) ∧ r = bz (decide (0 < opS (bSet B 4 d (k + 1)) k)) ∧ u = setG (kpW (nPut M 3 (nI 0)) 0 0 sz) (bSet B 4 d (k + 1))) ∨ ((inS (B.2 0) x && inS (B.2 1) y) = false ∧ r = nI 0 ∧ u = nPut M 3 (nI 1)) ∨ (∃ k d, k < B.2 0 ∧ d < B.2 1 ∧ x = nI k ∧ y = nI d ∧ B.2 3 = 0 ∧ r = nI 0 ∧ u = nPut M 3 (nI 2)) ∨ (∃ k d, k < B.2 0 ∧ d < B.2 1 ∧ x = nI k ∧ y = nI d ∧ B.2 3 ≠ 0 ∧ ¬ ((B.2 2).testBit k = true ∧ B.1 1 k ≠ 0 ∧ asgOf B k = 0 ∧ B.1 4 d = 0) ∧ r = nI 0 ∧ u = nPut M 3 (nI 3))) r2 u2 → (E = "java/lang/IndexOutOfBoundsException" ∧ u2.1 3 = nI 1 ∧ rel (n + 1) u u2) ∨ (E = "java/lang/UnsupportedOperationException" ∧ u2.1 3 = nI 2 ∧ rel (n + 1) u u2) ∨ (E = "java/lang/IllegalStateException" ∧ u2.1 3 = nI 3 ∧ rel (n + 1) u u2)) := by
  have hA := h.2.1
  have hI := hA.1
  have hn := hI.2.2.1
  have hm := hI.2.2.2.1
  have hQ := hA.2.2.2.2.1
  have hP := hA.2.2.2.2.2.1
  have hr9 := hI.2.2.2.2.2.2.2.2.1
  refine ⟨fun r u r2 u2 hp hq => ?_, fun E u r2 u2 hp hq => ?_⟩
  · obtain ⟨j, k, rfl, hj, rfl, hk, h1, h3, rfl, rfl⟩ := hp
    have g1 := of_decide_eq_true h1
    have g2 := band_r (band_r (band_l (band_l (band_l (band_l h3)))))
    have g3 := of_decide_eq_true (band_r (band_l (band_l (band_l h3))))
    have g4 := of_decide_eq_true (band_r (band_l (band_l h3)))
    have g5 := of_decide_eq_true (band_r h3)
    rcases hq with ⟨j2, k2, hj2, hk2, e1, e2, e3, e4, rfl, rfl⟩ | ⟨e, rfl, rfl⟩ | ⟨j2, k2, hj2, hk2, e1, e2, e3, rfl, rfl⟩ | ⟨j2, k2, hj2, hk2, e1, e2, e3, e4, rfl, rfl⟩
    · obtain rfl : j = j2 := nI_same (by omega) (by omega) e1
      obtain rfl : k = k2 := nI_same (by omega) (by omega) e2
      have hb := bA_asg hA hj hk g4
      exact ⟨code_c _ _ _, by rw [opn_op hb.1.2.2.1 hb.2.2.2.2.1 (show j < (bSet B 4 k (j + 1)).2 0 from hj)], rel_c h hb⟩
    · exact (c_in2 (by omega) (by omega) hj hk e).elim
    · obtain rfl : j = j2 := nI_same (by omega) (by omega) e1
      obtain rfl : k = k2 := nI_same (by omega) (by omega) e2
      exact absurd e3 g1
    · obtain rfl : j = j2 := nI_same (by omega) (by omega) e1
      obtain rfl : k = k2 := nI_same (by omega) (by omega) e2
      exact absurd ⟨g2, g3, g4, g5⟩ e4
  · rcases hp with ⟨rfl, e0, rfl⟩ | ⟨j, rfl, hj, rfl, e0, rfl⟩ | ⟨j, k, rfl, hj, rfl, hk, rfl, h1, rfl⟩ | ⟨j, k, rfl, hj, rfl, hk, h1, rfl, h3, rfl⟩
    · rcases hq with ⟨j2, k2, hj2, hk2, rfl, rfl, e3, e4, rfl, rfl⟩ | ⟨e, rfl, rfl⟩ | ⟨j2, k2, hj2, hk2, rfl, rfl, e3, rfl, rfl⟩ | ⟨j2, k2, hj2, hk2, rfl, rfl, e3, e4, rfl, rfl⟩
      · exact (c_in (by omega) hj2 e0).elim
      · exact Or.inl ⟨rfl, rfl, rel_q h _⟩
      · exact (c_in (by omega) hj2 e0).elim
      · exact (c_in (by omega) hj2 e0).elim
    · rcases hq with ⟨j2, k2, hj2, hk2, e1, rfl, e3, e4, rfl, rfl⟩ | ⟨e, rfl, rfl⟩ | ⟨j2, k2, hj2, hk2, e1, rfl, e3, rfl, rfl⟩ | ⟨j2, k2, hj2, hk2, e1, rfl, e3, e4, rfl, rfl⟩
      · exact (c_in (by omega) hk2 e0).elim
      · exact Or.inl ⟨rfl, rfl, rel_q h _⟩
      · exact (c_in (by omega) hk2 e0).elim
      · exact (c_in (by omega) hk2 e0).elim
    · have g1 := of_decide_eq_false h1
      rcases hq with ⟨j2, k2, hj2, hk2, e1, e2, e3, e4, rfl, rfl⟩ | ⟨e, rfl, rfl⟩ | ⟨j2, k2, hj2, hk2, e1, e2, e3, rfl, rfl⟩ | ⟨j2, k2, hj2, hk2, e1, e2, e3, e4, rfl, rfl⟩
      · exact absurd e3 g1
      · exact (c_in2 (by omega) (by omega) hj hk e).elim
      · exact Or.inr (Or.inl ⟨rfl, rfl, rel_q h _⟩)
      · exact absurd e3 g1
    · have g1 := of_decide_eq_true h1
      rcases hq with ⟨j2, k2, hj2, hk2, e1, e2, e3, e4, rfl, rfl⟩ | ⟨e, rfl, rfl⟩ | ⟨j2, k2, hj2, hk2, e1, e2, e3, rfl, rfl⟩ | ⟨j2, k2, hj2, hk2, e1, e2, e3, e4, rfl, rfl⟩
      · obtain rfl : j = j2 := nI_same (by omega) (by omega) e1
        obtain rfl : k = k2 := nI_same (by omega) (by omega) e2
        obtain ⟨f1, f2, f3, f4⟩ := e4
        exact (c_bb (band_t (band_t (band_t (band_t (band_t (decide_eq_true g1) (band_t (decide_eq_true hj) f1)) (decide_eq_true f2)) (decide_eq_true f3)) (decide_eq_true hk)) (decide_eq_true f4)) h3).elim
      · exact (c_in2 (by omega) (by omega) hj hk e).elim
      · exact absurd e3 g1
      · exact Or.inr (Or.inr ⟨rfl, rfl, rel_q h _⟩)
theorem cs_undo {n : Nat} {B : kBd} {nx sz : Nat} {L0 L : List Nat} {ep fp s0 : Nat} {S : kCs} {M : kMs} (h : relD n B nx sz L0 L ep fp s0 S M) :
    (∀ (r : Int32) (u : kCs) (r2 : Int32) (u2 : kMs), (fun r u => sz ≠ 0 ∧ r = nI (sz - 1) ∧ u = tbkS (setB S 0 B) 0 nx sz) r u → (fun r u => (sz ≠ 0 ∧ r = nI (sz - 1) ∧ u = cpG (nPut (nPut M 3 (nI 0)) 1 (nI (sz - 1))) 1 (115 * (sz - 1)) 0 0 115) ∨ (sz = 0 ∧ r = nI 0 ∧ u = nPut M 3 (nI 1))) r2 u2 → u2.1 3 = nI 0 ∧ r = r2 ∧ rel (n + 1) u u2) ∧
    (∀ (E : String) (u : kCs) (r2 : Int32) (u2 : kMs), (fun E u => (E = "java/lang/IllegalStateException" ∧ sz = 0 ∧ u = setB S 0 B)) E u → (fun r u => (sz ≠ 0 ∧ r = nI (sz - 1) ∧ u = cpG (nPut (nPut M 3 (nI 0)) 1 (nI (sz - 1))) 1 (115 * (sz - 1)) 0 0 115) ∨ (sz = 0 ∧ r = nI 0 ∧ u = nPut M 3 (nI 1))) r2 u2 → (E = "java/lang/IllegalStateException" ∧ u2.1 3 = nI 1 ∧ rel (n + 1) u u2)) := by
  have hA := h.2.1
  have hI := hA.1
  have hn := hI.2.2.1
  have hm := hI.2.2.2.1
  have hQ := hA.2.2.2.2.1
  have hP := hA.2.2.2.2.2.1
  have hr9 := hI.2.2.2.2.2.2.2.2.1
  refine ⟨fun r u r2 u2 hp hq => ?_, fun E u r2 u2 hp hq => ?_⟩
  · obtain ⟨h1, rfl, rfl⟩ := hp
    rcases hq with ⟨h2, rfl, rfl⟩ | ⟨h2, rfl, rfl⟩
    · exact ⟨rfl, rfl, rel_u h h1⟩
    · exact absurd h2 h1
  · obtain ⟨rfl, h1, rfl⟩ := hp
    rcases hq with ⟨h2, rfl, rfl⟩ | ⟨h2, rfl, rfl⟩
    · exact absurd h1 h2
    · exact ⟨rfl, rfl, rel_q h _⟩
theorem cs_restore {n : Nat} {B : kBd} {nx sz : Nat} {L0 L : List Nat} {ep fp s0 : Nat} {S : kCs} {M : kMs} (h : relD n B nx sz L0 L ep fp s0 S M) (B9 : kBd) (hb9 : s0 ≠ 0 → B9 = S.1 3) :
    (∀ (r : Int32) (u : kCs) (r2 : Int32) (u2 : kMs), (fun r u => ((decide (s0 ≠ 0))) = true ∧ r = nI ((S.1 3).2 0) ∧ u = sPut (setB S 0 (S.1 3)) 4 (nI 0)) r u → (fun r u => (s0 ≠ 0 ∧ r = nI (B9.2 0) ∧ u = nPut (cpG (nPut M 3 (nI 0)) 2 0 0 0 115) 1 (nI 0)) ∨ (s0 = 0 ∧ r = nI 0 ∧ u = nPut M 3 (nI 1))) r2 u2 → u2.1 3 = nI 0 ∧ r = r2 ∧ rel (n + 1) u u2) ∧
    (∀ (E : String) (u : kCs) (r2 : Int32) (u2 : kMs), (fun E u => (E = "java/lang/IllegalStateException" ∧ ((decide (s0 ≠ 0))) = false ∧ u = setB S 0 B)) E u → (fun r u => (s0 ≠ 0 ∧ r = nI (B9.2 0) ∧ u = nPut (cpG (nPut M 3 (nI 0)) 2 0 0 0 115) 1 (nI 0)) ∨ (s0 = 0 ∧ r = nI 0 ∧ u = nPut M 3 (nI 1))) r2 u2 → (E = "java/lang/IllegalStateException" ∧ u2.1 3 = nI 1 ∧ rel (n + 1) u u2)) := by
  have hA := h.2.1
  have hI := hA.1
  have hn := hI.2.2.1
  have hm := hI.2.2.2.1
  have hQ := hA.2.2.2.2.1
  have hP := hA.2.2.2.2.2.1
  have hr9 := hI.2.2.2.2.2.2.2.2.1
  refine ⟨fun r u r2 u2 hp hq => ?_, fun E u r2 u2 hp hq => ?_⟩
  · obtain ⟨h1, rfl, rfl⟩ := hp
    have g := of_decide_eq_true h1
    rcases hq with ⟨h2, rfl, rfl⟩ | ⟨h2, rfl, rfl⟩
    · exact ⟨rfl, by rw [hb9 h2], rel_r h h2⟩
    · exact absurd h2 g
  · obtain ⟨rfl, h1, rfl⟩ := hp
    have g := of_decide_eq_false h1
    rcases hq with ⟨h2, rfl, rfl⟩ | ⟨h2, rfl, rfl⟩
    · exact absurd h2 g
    · exact ⟨rfl, rfl, rel_q h _⟩
theorem cs_writeStory {n : Nat} {B : kBd} {nx sz : Nat} {L0 L : List Nat} {ep fp s0 : Nat} {S : kCs} {M : kMs} (h : relD n B nx sz L0 L ep fp s0 S M) {x : Int32} :
    (∀ (r : Int32) (u : kCs) (r2 : Int32) (u2 : kMs), (fun r u => ∃ j : Nat, x = nI j ∧ j < B.2 0 ∧ r = nI (lnS B j).length ∧ ∃ y, sbR y (lnS B j) ∧ u = setB (uPut S 0 y) 0 B) r u → (fun r u => (∃ k, k < B.2 0 ∧ x = nI k ∧ r = nI (lmS B k).length ∧ u = lW (nPut M 3 (nI 0)) (lmS B k)) ∨ (inS (B.2 0) x = false ∧ r = nI 0 ∧ u = nPut M 3 (nI 1))) r2 u2 → u2.1 3 = nI 0 ∧ r = r2 ∧ rel (n + 1) u u2) ∧
    (∀ (E : String) (u : kCs) (r2 : Int32) (u2 : kMs), (fun E u => (E = "java/lang/IndexOutOfBoundsException" ∧ inR (B.2 0) x = false ∧ u = setB S 0 B)) E u → (fun r u => (∃ k, k < B.2 0 ∧ x = nI k ∧ r = nI (lmS B k).length ∧ u = lW (nPut M 3 (nI 0)) (lmS B k)) ∨ (inS (B.2 0) x = false ∧ r = nI 0 ∧ u = nPut M 3 (nI 1))) r2 u2 → (E = "java/lang/IndexOutOfBoundsException" ∧ u2.1 3 = nI 1 ∧ rel (n + 1) u u2)) := by
  have hA := h.2.1
  have hI := hA.1
  have hn := hI.2.2.1
  have hm := hI.2.2.2.1
  have hQ := hA.2.2.2.2.1
  have hP := hA.2.2.2.2.2.1
  have hr9 := hI.2.2.2.2.2.2.2.2.1
  refine ⟨fun r u r2 u2 hp hq => ?_, fun E u r2 u2 hp hq => ?_⟩
  · obtain ⟨j, rfl, hj, rfl, y, hy, rfl⟩ := hp
    rcases hq with ⟨k, hk, e, rfl, rfl⟩ | ⟨e, rfl, rfl⟩
    · obtain rfl : j = k := nI_same (by omega) (by omega) e
      have el : lnS B j = lmS B j := by
        unfold lnS lmS ln3 lm3 ln2 lm2
        rw [opn_op hn hQ hj, decide_eq_true hj, Bool.true_and]
      rw [el] at hy ⊢
      exact ⟨rfl, rfl, rel_l h hy (lm_len hA hj)⟩
    · exact (c_in (by omega) hj e).elim
  · obtain ⟨rfl, e0, rfl⟩ := hp
    rcases hq with ⟨k, hk, rfl, rfl, rfl⟩ | ⟨e, rfl, rfl⟩
    · exact (c_in (by omega) hk e0).elim
    · exact ⟨rfl, rfl, rel_q h _⟩
theorem cs_type {n : Nat} {B : kBd} {nx sz : Nat} {L0 L : List Nat} {ep fp s0 : Nat} {S : kCs} {M : kMs} (h : relD n B nx sz L0 L ep fp s0 S M) {x : Int32} :
    (∀ (r : Int32) (u : kCs) (r2 : Int32) (u2 : kMs), (fun r u => ∃ (q : Nat), x = nI q ∧ 32 ≤ q ∧ q ≤ 126 ∧ (decide (L.length < 60)) = true ∧ r = nI (L ++ [q]).length ∧ ∃ y, sbR y (L ++ [q]) ∧ u = uPut (setB S 0 B) 1 y) r u → (fun r u => (∃ q, 32 ≤ q ∧ q ≤ 126 ∧ x = nI q ∧ L.length < 60 ∧ r = nI (L.length + 1) ∧ u = nPut (gPut (nPut M 3 (nI 0)) 4 L.length (nI q)) 4 (nI (L.length + 1))) ∨ (¬ (32 ≤ x.toInt ∧ x.toInt ≤ 126) ∧ r = nI 0 ∧ u = nPut M 3 (nI 1)) ∨ (∃ q, 32 ≤ q ∧ q ≤ 126 ∧ x = nI q ∧ L.length = 60 ∧ r = nI 0 ∧ u = nPut M 3 (nI 2))) r2 u2 → u2.1 3 = nI 0 ∧ r = r2 ∧ rel (n + 1) u u2) ∧
    (∀ (E : String) (u : kCs) (r2 : Int32) (u2 : kMs), (fun E u => (E = "java/lang/IllegalArgumentException" ∧ ¬ (32 ≤ (x : Int32).toInt ∧ (x : Int32).toInt ≤ 126) ∧ u = setB S 0 B) ∨ (∃ (q : Nat), x = nI q ∧ 32 ≤ q ∧ q ≤ 126 ∧ E = "java/lang/IllegalStateException" ∧ (decide (L.length < 60)) = false ∧ u = setB S 0 B)) E u → (fun r u => (∃ q, 32 ≤ q ∧ q ≤ 126 ∧ x = nI q ∧ L.length < 60 ∧ r = nI (L.length + 1) ∧ u = nPut (gPut (nPut M 3 (nI 0)) 4 L.length (nI q)) 4 (nI (L.length + 1))) ∨ (¬ (32 ≤ x.toInt ∧ x.toInt ≤ 126) ∧ r = nI 0 ∧ u = nPut M 3 (nI 1)) ∨ (∃ q, 32 ≤ q ∧ q ≤ 126 ∧ x = nI q ∧ L.length = 60 ∧ r = nI 0 ∧ u = nPut M 3 (nI 2))) r2 u2 → (E = "java/lang/IllegalArgumentException" ∧ u2.1 3 = nI 1 ∧ rel (n + 1) u u2) ∨ (E = "java/lang/IllegalStateException" ∧ u2.1 3 = nI 2 ∧ rel (n + 1) u u2)) := by
  have hA := h.2.1
  have hI := hA.1
  have hn := hI.2.2.1
  have hm := hI.2.2.2.1
  have hQ := hA.2.2.2.2.1
  have hP := hA.2.2.2.2.2.1
  have hr9 := hI.2.2.2.2.2.2.2.2.1
  refine ⟨fun r u r2 u2 hp hq => ?_, fun E u r2 u2 hp hq => ?_⟩
  · obtain ⟨q, rfl, hq1, hq2, h1, rfl, y, hy, rfl⟩ := hp
    have g := of_decide_eq_true h1
    rcases hq with ⟨q2, a1, a2, e, a3, rfl, rfl⟩ | ⟨e, rfl, rfl⟩ | ⟨q2, a1, a2, e, a3, rfl, rfl⟩
    · obtain rfl : q = q2 := nI_same (by omega) (by omega) e
      exact ⟨rfl, by rw [show (L ++ [q]).length = L.length + 1 by simp], rel_t h hy hq2 g⟩
    · rw [tN (n := q) (by omega)] at e; omega
    · omega
  · rcases hp with ⟨rfl, h1, rfl⟩ | ⟨q, rfl, hq1, hq2, rfl, h1, rfl⟩
    · rcases hq with ⟨q2, a1, a2, rfl, a3, rfl, rfl⟩ | ⟨e, rfl, rfl⟩ | ⟨q2, a1, a2, rfl, a3, rfl, rfl⟩
      · rw [tN (n := q2) (by omega)] at h1; omega
      · exact Or.inl ⟨rfl, rfl, rel_q h _⟩
      · rw [tN (n := q2) (by omega)] at h1; omega
    · have g := of_decide_eq_false h1
      rcases hq with ⟨q2, a1, a2, e, a3, rfl, rfl⟩ | ⟨e, rfl, rfl⟩ | ⟨q2, a1, a2, e, a3, rfl, rfl⟩
      · omega
      · rw [tN (n := q) (by omega)] at e; omega
      · exact Or.inr ⟨rfl, rfl, rel_q h _⟩
