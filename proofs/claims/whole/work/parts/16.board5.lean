def reB (B : kBd) (j p : Nat) : kBd :=
  if p - min (B.1 0 j - B.1 1 j) p = 0 ∧ 0 < asgOf B j ∧ asgOf B j - 1 < B.2 1 then bSet (bSet (bSet B 0 j p) 1 j (p - min (B.1 0 j - B.1 1 j) p)) 4 (asgOf B j - 1) 0
  else bSet (bSet B 0 j p) 1 j (p - min (B.1 0 j - B.1 1 j) p)
/-- one developer's day -/
def wst (U : Nat) (x : kBd × Nat) (d : Nat) : kBd × Nat :=
  if 0 < x.1.1 4 d ∧ x.1.1 4 d - 1 < x.1.2 0 ∧ (x.1.1 2 (x.1.1 4 d - 1) &&& U) = 0 then
    (if x.1.1 1 (x.1.1 4 d - 1) - x.1.1 3 d = 0 then (bSet (bSet x.1 1 (x.1.1 4 d - 1) (x.1.1 1 (x.1.1 4 d - 1) - x.1.1 3 d)) 4 d 0, x.2 + 1)
    else (bSet x.1 1 (x.1.1 4 d - 1) (x.1.1 1 (x.1.1 4 d - 1) - x.1.1 3 d), x.2))
  else x
def wkN (U : Nat) (B : kBd) : Nat → kBd × Nat
  | 0 => (B, 0)
  | d + 1 => wst U (wkN U B d) d
theorem wst_sm {U : Nat} {x : kBd × Nat} (h : kSm x.1) (d : Nat) : kSm (wst U x d).1 ∧ (wst U x d).1.2 = x.1.2 := by
  have hv : x.1.1 1 (x.1.1 4 d - 1) - x.1.1 3 d < 65536 := Nat.lt_of_le_of_lt (Nat.sub_le _ _) (h.1 _ _)
  unfold wst
  split
  · split
    · exact ⟨kSm_set (kSm_set h _ _ hv) _ _ (by decide), rfl⟩
    · exact ⟨kSm_set h _ _ hv, rfl⟩
  · exact ⟨h, rfl⟩
theorem wk_all {B : kBd} (h : kSm B) (U : Nat) : ∀ k, kSm (wkN U B k).1 ∧ (wkN U B k).1.2 = B.2
  | 0 => ⟨h, rfl⟩
  | k + 1 => by
    obtain ⟨h1, h2⟩ := wk_all h U k
    obtain ⟨h3, h4⟩ := wst_sm (U := U) h1 k
    exact ⟨h3, h4.trans h2⟩
theorem wk_sm {B : kBd} (h : kSm B) (U k : Nat) : kSm (wkN U B k).1 := (wk_all h U k).1
theorem wst_num (U : Nat) (x : kBd × Nat) (d : Nat) : (wst U x d).1.2 = x.1.2 := by
  unfold wst
  split
  · split <;> rfl
  · rfl
theorem wk_num (U : Nat) (B : kBd) : ∀ k, (wkN U B k).1.2 = B.2
  | 0 => rfl
  | k + 1 => (wst_num U _ k).trans (wk_num U B k)
def dayB (B : kBd) : kBd :=
  let B1 := (wkN (unf B) B 4).1
  let B2 := bPut B1 5 (B1.2 5 + 1)
  bSet B2 5 (B1.2 5 + 1) (psum B2 1)
/-- the first i places of array f taken from A -/
def cpR (B A : kBd) (f i : Nat) : kBd := (fun g k => if g = f ∧ k < i then A.1 f k else B.1 g k, B.2)
theorem cpR_0 (B A : kBd) (f : Nat) : cpR B A f 0 = B := by
  unfold cpR
  refine Prod.ext (funext fun g => funext fun k => ?_) rfl
  show (if g = f ∧ k < 0 then _ else _) = _
  rw [if_neg (fun z => Nat.not_lt_zero _ z.2)]
theorem cpR_s (B A : kBd) (f i : Nat) : bSet (cpR B A f i) f i (A.1 f i) = cpR B A f (i + 1) := by
  refine Prod.ext (funext fun g => funext fun k => ?_) rfl
  show va_up (cpR B A f i).1 f (va_up ((cpR B A f i).1 f) i (A.1 f i)) g k = if g = f ∧ k < i + 1 then A.1 f k else B.1 g k
  simp only [va_up]
  by_cases hg : g = f
  · subst hg
    rw [if_pos rfl]
    by_cases hk : k = i
    · subst hk
      rw [if_pos ⟨rfl, by omega⟩]
      exact if_pos rfl
    · show (if k = i then A.1 g i else if g = g ∧ k < i then A.1 g k else B.1 g k) = _
      rw [if_neg hk]
      by_cases h2 : k < i
      · rw [if_pos ⟨rfl, h2⟩, if_pos ⟨rfl, by omega⟩]
      · rw [if_neg (fun z => h2 z.2), if_neg (fun z => h2 (by omega))]
  · rw [if_neg hg, if_neg (fun z => hg z.1)]
    show (if g = f ∧ k < i then _ else _) = _
    rw [if_neg (fun z => hg z.1)]
/-- nothing lies outside -/
def bN (B : kBd) : Prop := (∀ f k, (7 ≤ f ∨ kLen f ≤ k) → B.1 f k = 0) ∧ ∀ f, 8 ≤ f → B.2 f = 0
theorem cp_all {A B : kBd} (ha : bN A) (hb : bN B) : bPut (bPut (bPut (bPut (bPut (bPut (bPut (bPut (cpR (cpR (cpR (cpR (cpR (cpR (cpR B A 0 (kLen 0)) A 1 (kLen 1)) A 2 (kLen 2)) A 3 (kLen 3)) A 4 (kLen 4)) A 5 (kLen 5)) A 6 (kLen 6)) 0 (A.2 0)) 1 (A.2 1)) 2 (A.2 2)) 3 (A.2 3)) 4 (A.2 4)) 5 (A.2 5)) 6 (A.2 6)) 7 (A.2 7) = A := by
  refine Prod.ext (funext fun g => funext fun k => ?_) (funext fun f => ?_)
  · simp only [bPut, cpR]
    by_cases hk : 7 ≤ g ∨ kLen g ≤ k
    · rw [ha.1 g k hk]
      rcases hk with hk | hk
      · rw [if_neg (by omega), if_neg (by omega), if_neg (by omega), if_neg (by omega), if_neg (by omega), if_neg (by omega), if_neg (by omega)]
        exact hb.1 g k (Or.inl hk)
      · have n : ∀ f, ¬ (g = f ∧ k < kLen f) := fun f z => by rw [← z.1] at z; omega
        rw [if_neg (n 6), if_neg (n 5), if_neg (n 4), if_neg (n 3), if_neg (n 2), if_neg (n 1), if_neg (n 0)]
        exact hb.1 g k (Or.inr hk)
    · have h1 : g < 7 := by omega
      have h2 : k < kLen g := by omega
      match g, h1, h2 with
      | 0, _, h2 => simp [h2]
      | 1, _, h2 => simp [h2]
      | 2, _, h2 => simp [h2]
      | 3, _, h2 => simp [h2]
      | 4, _, h2 => simp [h2]
      | 5, _, h2 => simp [h2]
      | 6, _, h2 => simp [h2]
  · show va_up (va_up (va_up (va_up (va_up (va_up (va_up (va_up B.2 0 (A.2 0)) 1 (A.2 1)) 2 (A.2 2)) 3 (A.2 3)) 4 (A.2 4)) 5 (A.2 5)) 6 (A.2 6)) 7 (A.2 7) f = A.2 f
    simp only [va_up]
    by_cases h : f < 8
    · match f, h with
      | 0, _ => rfl
      | 1, _ => rfl
      | 2, _ => rfl
      | 3, _ => rfl
      | 4, _ => rfl
      | 5, _ => rfl
      | 6, _ => rfl
      | 7, _ => rfl
    · rw [if_neg (by omega), if_neg (by omega), if_neg (by omega), if_neg (by omega), if_neg (by omega), if_neg (by omega), if_neg (by omega), if_neg (by omega), ha.2 f (by omega), hb.2 f (by omega)]
theorem ks_X0_copyRow : kSt yX0_copyRow cX0_copyRow 3 none 2 := ⟨mw_711, mw_57, mw_712, by decide, by decide, by decide +kernel⟩
theorem kv_X0_work : kV yX0_work cX0_work 5 (some .int) 0 := ⟨mw_747, mw_748, mw_57, mw_749, by decide, by decide, by decide +kernel⟩
set_option maxHeartbeats 4000000 in
set_option maxRecDepth 100000 in
/-- changeEstimate(j, p) -/
theorem met_X0_changeEstimate (l : Launch) (V : kEnv) (S : kCs) (b : Nat) (B : kBd) (hb : b < 12) (hz : kSm B) (hn : B.2 0 ≤ 16) (hm : B.2 1 ≤ 4) (j p0 : Nat) (hr : B.1 1 j ≤ B.1 0 j) (hj : j < B.2 0) (hp0 : p0 < 65536) : kI l yX0_changeEstimate cX0_changeEstimate 5 (some .int) { frames := 1, cells := 0, slots := 0, locals := 22 } V (cWs V) [.ref (eX V (8 * b)), .int (nI (j)), .int (nI (p0))] (setB S b B) (fun r u => r = nI (p0 - min (B.1 0 j - B.1 1 j) p0) ∧ u = setB S b (reB B j p0)) 0 0 := by
  refine kI_of (by decide +kernel) (Nat.le_of_ble_eq_true rfl) ?_
  intro p e s m args below meth c G hret hlocks hC hB h ls hl Q hQ
  have hl : lv_has ls 5 [(0, .ref (eX V (8 * b))), (1, .int (nI (j))), (2, .int (nI (p0)))] := hl
  have hx := G.1
  have hcd := G.2.1
  refine lv_aload_n hx hcd dX0_changeEstimate_0 rfl (lv_at hl 0 rfl) ?_
  refine lv_iload_n hx hcd dX0_changeEstimate_1 rfl (lv_at hl 1 rfl) ?_
  refine k_Vi (As := [.int (nI (j))]) (rest := []) (b := eX V (8 * b)) G hC hB h (met_X0_hasStoryN l V S b B hb hn j (by omega)) mw_745 kv_X0_hasStory ⟨rfl, rfl⟩ ⟨Nat.le_of_ble_eq_true rfl, Nat.le_of_ble_eq_true rfl⟩ (r_bV hC h b hb) rfl rfl hl.1 (Nat.le_of_ble_eq_true rfl) dX0_changeEstimate_2 ⟨Nat.le_of_ble_eq_true rfl, Nat.le_of_ble_eq_true rfl⟩ (fun r u H locs hp h => ?_)
  obtain ⟨rfl, rfl⟩ := hp
  refine lv_if_ne (tgt := 10) hx hcd dX0_changeEstimate_5 (by decide) (fun c_1 => ?_) (fun c_1 => ?_)
  · have c_1 := bz1 c_1
    have f_2 := of_decide_eq_true c_1
    refine lv_aload_n hx hcd dX0_changeEstimate_10 rfl (lv_at hl 0 rfl) ?_
    refine r_bA G hC h b 0 hb (by decide) mw_98 dX0_changeEstimate_11 ?_
    refine lv_iload_n hx hcd dX0_changeEstimate_14 rfl (lv_at hl 1 rfl) ?_
    refine r_bL G hC h b 0 j hb (by decide) (setB_at _ _ _) rfl (show j < 16 by omega) (x := nI (B.1 0 (j))) rfl dX0_changeEstimate_15 ?_
    have q_4 := hz.1 0 (j)
    refine lv_aload_n hx hcd dX0_changeEstimate_16 rfl (lv_at hl 0 rfl) ?_
    refine r_bA G hC h b 1 hb (by decide) mw_100 dX0_changeEstimate_17 ?_
    refine lv_iload_n hx hcd dX0_changeEstimate_20 rfl (lv_at hl 1 rfl) ?_
    refine r_bL G hC h b 1 j hb (by decide) (setB_at _ _ _) rfl (show j < 16 by omega) (x := nI (B.1 1 (j))) rfl dX0_changeEstimate_21 ?_
    have q_5 := hz.1 1 (j)
    refine w_isub (v := nI ((B.1 0 (j)) - (B.1 1 (j)))) hx hcd dX0_changeEstimate_22 (pk_sub (by omega)) ?_
    refine lv_iload_n hx hcd dX0_changeEstimate_23 rfl (lv_at hl 2 rfl) ?_
    refine va_mmin hx hcd (by rw [G.2.2.1]; exact hl.1.symm) G.2.2.2.1 (G.2.2.2.2 _ mw_875) (G.2.2.2.2 _ mw_383) (G.2.2.2.2 _ mw_70) (G.2.2.2.2 _ mw_384) (Nat.le_of_ble_eq_true rfl) (Nat.le_of_ble_eq_true rfl) (Nat.le_of_ble_eq_true rfl) (Nat.le_of_ble_eq_true rfl) dX0_changeEstimate_24 ?_
    refine lv_topi (fun z_7 e_z_7 => ?_)
    obtain rfl : z_7 = nI (min ((B.1 0 (j)) - (B.1 1 (j))) p0) := by rw [e_z_7]; exact n_min (by omega) (by omega)
    refine lv_istore_n (lv' := [(3, .int (nI (min ((B.1 0 (j)) - (B.1 1 (j))) p0))), (0, .ref (eX V (8 * b))), (1, .int (nI (j))), (2, .int (nI (p0)))]) hx hcd dX0_changeEstimate_27 rfl hl (by decide) rfl (fun ls hl => ?_)
    refine lv_aload_n hx hcd dX0_changeEstimate_28 rfl (lv_at hl 1 rfl) ?_
    refine r_bA G hC h b 0 hb (by decide) mw_98 dX0_changeEstimate_29 ?_
    refine lv_iload_n hx hcd dX0_changeEstimate_32 rfl (lv_at hl 2 rfl) ?_
    refine lv_iload_n hx hcd dX0_changeEstimate_33 rfl (lv_at hl 3 rfl) ?_
    refine r_bT G hC h b 0 j hb (by decide) (setB_at _ _ _) rfl (show j < 16 by omega) (p0) rfl (setB_set _ _ _ _) dX0_changeEstimate_34 (fun H locs h => ?_)
    refine lv_aload_n hx hcd dX0_changeEstimate_35 rfl (lv_at hl 1 rfl) ?_
    refine r_bA G hC h b 1 hb (by decide) mw_100 dX0_changeEstimate_36 ?_
    refine lv_iload_n hx hcd dX0_changeEstimate_39 rfl (lv_at hl 2 rfl) ?_
    refine lv_iload_n hx hcd dX0_changeEstimate_40 rfl (lv_at hl 3 rfl) ?_
    refine lv_iload_n hx hcd dX0_changeEstimate_41 rfl (lv_at hl 0 rfl) ?_
    refine w_isub (v := nI (p0 - (min ((B.1 0 (j)) - (B.1 1 (j))) p0))) hx hcd dX0_changeEstimate_42 (pk_sub (by omega)) ?_
    refine r_bT G hC h b 1 j hb (by decide) (setB_at _ _ _) rfl (show j < 16 by omega) (p0 - (min ((B.1 0 (j)) - (B.1 1 (j))) p0)) rfl (setB_set _ _ _ _) dX0_changeEstimate_43 (fun H locs h => ?_)
    have z2 : kSm (bSet (bSet B 0 j p0) 1 j (p0 - min (B.1 0 j - B.1 1 j) p0)) := kSm_set (kSm_set hz 0 j hp0) 1 j (by omega)
    refine lv_aload_n hx hcd dX0_changeEstimate_44 rfl (lv_at hl 1 rfl) ?_
    refine lv_iload_n hx hcd dX0_changeEstimate_45 rfl (lv_at hl 2 rfl) ?_
    refine k_Vi (As := [.int (nI (j))]) (rest := []) (b := eX V (8 * b)) G hC hB h (met_X0_assigneeOf l V S b (bSet (bSet B 0 (j) (p0)) 1 (j) (p0 - (min ((B.1 0 (j)) - (B.1 1 (j))) p0))) hb (by assumption) j (by omega)) mw_762 kv_X0_assigneeOf ⟨rfl, rfl⟩ ⟨Nat.le_of_ble_eq_true rfl, Nat.le_of_ble_eq_true rfl⟩ (r_bV hC h b hb) rfl rfl hl.1 (Nat.le_of_ble_eq_true rfl) dX0_changeEstimate_46 ⟨Nat.le_of_ble_eq_true rfl, Nat.le_of_ble_eq_true rfl⟩ (fun r u H locs hp h => ?_)
    obtain ⟨rfl, rfl⟩ := hp
    have q_9 := asgOf_le (bSet (bSet B 0 (j) (p0)) 1 (j) (p0 - (min ((B.1 0 (j)) - (B.1 1 (j))) p0))) j
    have ea : asgOf (bSet (bSet B 0 j p0) 1 j (p0 - min (B.1 0 j - B.1 1 j) p0)) j = asgOf B j := rfl
    have e1 : (bSet (bSet B 0 j p0) 1 j (p0 - min (B.1 0 j - B.1 1 j) p0)).2 1 = B.2 1 := rfl
    refine lv_istore (lv' := [(4, .int (nI (asgOf (bSet (bSet B 0 (j) (p0)) 1 (j) (p0 - (min ((B.1 0 (j)) - (B.1 1 (j))) p0))) j) - 1)), (3, .int (nI (min ((B.1 0 (j)) - (B.1 1 (j))) p0))), (0, .ref (eX V (8 * b))), (1, .int (nI (j))), (2, .int (nI (p0)))]) hx hcd dX0_changeEstimate_49 hl (by decide) rfl (fun ls hl => ?_)
    refine lv_aload_n hx hcd dX0_changeEstimate_51 rfl (lv_at hl 2 rfl) ?_
    refine r_bA G hC h b 1 hb (by decide) mw_100 dX0_changeEstimate_52 ?_
    refine lv_iload_n hx hcd dX0_changeEstimate_55 rfl (lv_at hl 3 rfl) ?_
    refine r_bL G hC h b 1 j hb (by decide) (setB_at _ _ _) rfl (show j < 16 by omega) (x := nI (p0 - (min ((B.1 0 (j)) - (B.1 1 (j))) p0))) (congrArg (kE 1) (bset_1 (bSet B 0 (j) (p0)) 1 (j) (p0 - (min ((B.1 0 (j)) - (B.1 1 (j))) p0)))) dX0_changeEstimate_56 ?_
    refine lv_if_ne (tgt := 77) hx hcd dX0_changeEstimate_57 (by decide) (fun c_11 => ?_) (fun c_11 => ?_)
    · have c_11 := cNe (tN (n := p0 - (min ((B.1 0 (j)) - (B.1 1 (j))) p0)) (by omega)) t0 c_11
      refine lv_aload_n hx hcd dX0_changeEstimate_77 rfl (lv_at hl 2 rfl) ?_
      refine r_bA G hC h b 1 hb (by decide) mw_100 dX0_changeEstimate_78 ?_
      refine lv_iload_n hx hcd dX0_changeEstimate_81 rfl (lv_at hl 3 rfl) ?_
      refine r_bL G hC h b 1 j hb (by decide) (setB_at _ _ _) rfl (show j < 16 by omega) (x := nI (p0 - (min ((B.1 0 (j)) - (B.1 1 (j))) p0))) (congrArg (kE 1) (bset_1 (bSet B 0 (j) (p0)) 1 (j) (p0 - (min ((B.1 0 (j)) - (B.1 1 (j))) p0)))) dX0_changeEstimate_82 ?_
      exact k_reti hQ G hret hlocks h (⟨rfl, congrArg (setB S b) (if_neg (fun z => by omega)).symm⟩) (Nat.le_of_ble_eq_true rfl) (Nat.le_of_ble_eq_true rfl) dX0_changeEstimate_83
    · have c_11 := cEq (tN (n := p0 - (min ((B.1 0 (j)) - (B.1 1 (j))) p0)) (by omega)) t0 c_11
      refine lv_aload_n hx hcd dX0_changeEstimate_60 rfl (lv_at hl 2 rfl) ?_
      refine lv_iload hx hcd dX0_changeEstimate_61 (lv_at hl 0 rfl) ?_
      refine k_Vi (As := [.int (nI (asgOf (bSet (bSet B 0 (j) (p0)) 1 (j) (p0 - (min ((B.1 0 (j)) - (B.1 1 (j))) p0))) j) - 1)]) (rest := []) (b := eX V (8 * b)) G hC hB h (met_X0_hasDeveloperA l V S b (bSet (bSet B 0 (j) (p0)) 1 (j) (p0 - (min ((B.1 0 (j)) - (B.1 1 (j))) p0))) hb hm (asgOf (bSet (bSet B 0 (j) (p0)) 1 (j) (p0 - (min ((B.1 0 (j)) - (B.1 1 (j))) p0))) j) (by omega)) mw_766 kv_X0_hasDeveloper ⟨rfl, rfl⟩ ⟨Nat.le_of_ble_eq_true rfl, Nat.le_of_ble_eq_true rfl⟩ (r_bV hC h b hb) rfl rfl hl.1 (Nat.le_of_ble_eq_true rfl) dX0_changeEstimate_63 ⟨Nat.le_of_ble_eq_true rfl, Nat.le_of_ble_eq_true rfl⟩ (fun r u H locs hp h => ?_)
      obtain ⟨rfl, rfl⟩ := hp
      refine lv_if_eq (tgt := 77) hx hcd dX0_changeEstimate_66 (by decide) (fun c_13 => ?_) (fun c_13 => ?_)
      · have c_13 := bz0 c_13
        have f_15 := of_decide_eq_false c_13
        refine lv_aload_n hx hcd dX0_changeEstimate_77 rfl (lv_at hl 2 rfl) ?_
        refine r_bA G hC h b 1 hb (by decide) mw_100 dX0_changeEstimate_78 ?_
        refine lv_iload_n hx hcd dX0_changeEstimate_81 rfl (lv_at hl 3 rfl) ?_
        refine r_bL G hC h b 1 j hb (by decide) (setB_at _ _ _) rfl (show j < 16 by omega) (x := nI (p0 - (min ((B.1 0 (j)) - (B.1 1 (j))) p0))) (congrArg (kE 1) (bset_1 (bSet B 0 (j) (p0)) 1 (j) (p0 - (min ((B.1 0 (j)) - (B.1 1 (j))) p0)))) dX0_changeEstimate_82 ?_
        exact k_reti hQ G hret hlocks h (⟨rfl, congrArg (setB S b) (if_neg (fun z => by omega)).symm⟩) (Nat.le_of_ble_eq_true rfl) (Nat.le_of_ble_eq_true rfl) dX0_changeEstimate_83
      · have c_13 := bz1 c_13
        have f_14 := of_decide_eq_true c_13
        refine lv_aload_n hx hcd dX0_changeEstimate_69 rfl (lv_at hl 2 rfl) ?_
        refine r_bA G hC h b 4 hb (by decide) mw_105 dX0_changeEstimate_70 ?_
        refine lv_iload hx hcd dX0_changeEstimate_73 (lv_at hl 0 rfl) ?_
        refine lv_iconst (v := -1) hx hcd dX0_changeEstimate_75 (by decide) ?_
        refine r_bT G hC h b 4 ((asgOf (bSet (bSet B 0 (j) (p0)) 1 (j) (p0 - (min ((B.1 0 (j)) - (B.1 1 (j))) p0))) j) - 1) hb (by decide) (setB_at _ _ _) (pk_sub (b := 1) (by omega)) (show (asgOf (bSet (bSet B 0 (j) (p0)) 1 (j) (p0 - (min ((B.1 0 (j)) - (B.1 1 (j))) p0))) j) - 1 < 4 by omega) (0) a0.symm (setB_set _ _ _ _) dX0_changeEstimate_76 (fun H locs h => ?_)
        refine lv_aload_n hx hcd dX0_changeEstimate_77 rfl (lv_at hl 2 rfl) ?_
        refine r_bA G hC h b 1 hb (by decide) mw_100 dX0_changeEstimate_78 ?_
        refine lv_iload_n hx hcd dX0_changeEstimate_81 rfl (lv_at hl 3 rfl) ?_
        refine r_bL G hC h b 1 j hb (by decide) (setB_at _ _ _) rfl (show j < 16 by omega) (x := nI (p0 - (min ((B.1 0 (j)) - (B.1 1 (j))) p0))) (congrArg (kE 1) (bset_1 (bSet B 0 (j) (p0)) 1 (j) (p0 - (min ((B.1 0 (j)) - (B.1 1 (j))) p0)))) dX0_changeEstimate_82 ?_
        exact k_reti hQ G hret hlocks h (⟨rfl, congrArg (setB S b) (if_pos ⟨by omega, by omega, by omega⟩).symm⟩) (Nat.le_of_ble_eq_true rfl) (Nat.le_of_ble_eq_true rfl) dX0_changeEstimate_83
  · have c_1 := bz0 c_1
    have f_3 := of_decide_eq_false c_1
    exact absurd hj (by assumption)
set_option maxHeartbeats 4000000 in
set_option maxRecDepth 100000 in
/-- work() -/
theorem met_X0_work (l : Launch) (V : kEnv) (S : kCs) (b : Nat) (B : kBd) (hb : b < 12) (hz : kSm B) (hn : B.2 0 ≤ 16) : kI l yX0_work cX0_work 5 (some .int) { frames := 2, cells := 0, slots := 0, locals := 42 } V (cWs V) [.ref (eX V (8 * b))] (setB S b B) (fun r u => r = nI (wkN (unf B) B 4).2 ∧ u = setB S b ((wkN (unf B) B 4).1)) 0 0 := by
  refine kI_of (by decide +kernel) (Nat.le_of_ble_eq_true rfl) ?_
  intro p e s m args below meth c G hret hlocks hC hB h ls hl Q hQ
  have hl : lv_has ls 5 [(0, .ref (eX V (8 * b)))] := hl
  have hx := G.1
  have hcd := G.2.1
  refine lv_aload_n hx hcd dX0_work_0 rfl (lv_at hl 0 rfl) ?_
  refine k_Vi (As := []) (rest := []) (b := eX V (8 * b)) G hC hB h (met_X0_unfinishedSet l V S b B hb hz) mw_750 kv_X0_unfinishedSet ⟨rfl, rfl⟩ ⟨Nat.le_of_ble_eq_true rfl, Nat.le_of_ble_eq_true rfl⟩ (r_bV hC h b hb) rfl rfl hl.1 (Nat.le_of_ble_eq_true rfl) dX0_work_1 ⟨Nat.le_of_ble_eq_true rfl, Nat.le_of_ble_eq_true rfl⟩ (fun r u H locs hp h => ?_)
  obtain ⟨rfl, rfl⟩ := hp
  have hU := unf_lt B
  refine lv_istore_n (lv' := [(1, .int (nI (unf B))), (0, .ref (eX V (8 * b)))]) hx hcd dX0_work_4 rfl hl (by decide) rfl (fun ls hl => ?_)
  refine lv_iconst (v := nI 0) hx hcd dX0_work_5 (by decide) ?_
  refine lv_istore_n (lv' := [(2, .int (nI 0)), (1, .int (nI (unf B))), (0, .ref (eX V (8 * b)))]) hx hcd dX0_work_6 rfl hl (by decide) rfl (fun ls hl => ?_)
  refine lv_iconst (v := nI 0) hx hcd dX0_work_7 (by decide) ?_
  refine lv_istore_n (lv' := [(3, .int (nI 0)), (2, .int (nI 0)), (1, .int (nI (unf B))), (0, .ref (eX V (8 * b)))]) hx hcd dX0_work_8 rfl hl (by decide) rfl (fun ls hl => ?_)
  have L_1 : ∀ (fu_3 : Nat) (i : Nat) (Bi : kBd) (fi : Nat) (hi : i ≤ 4) (hBi : wkN (unf B) B i = (Bi, fi)) (hzi : kSm Bi) (hni : Bi.2 0 ≤ 16) (hfi : fi ≤ i), 5 - i < fu_3 → ∀ (H : Heap) (locs : List Loc), cH V s H locs (cWs V (setB S b Bi)) → ∀ ls : Array Slot, lv_has ls 5 [(1, .int (nI (unf B))), (2, .int (nI (fi))), (3, .int (nI (i))), (0, .ref (eX V (8 * b)))] → W p l e { frames := 2, cells := 0, slots := 0, locals := 42 } s m args below meth c H locs 0 0 Q (F0 m 9 ls []) := by
    intro fu_3
    induction fu_3 with
    | zero => intro i Bi fi hi hBi hzi hni hfi hm; exact absurd hm (Nat.not_lt_zero _)
    | succ fu_3 ih_2 =>
      intro i Bi fi hi hBi hzi hni hfi hm H locs h ls hl
      refine lv_iload_n hx hcd dX0_work_9 rfl (lv_at hl 2 rfl) ?_
      refine lv_aload_n hx hcd dX0_work_10 rfl (lv_at hl 3 rfl) ?_
      refine r_bA G hC h b 4 hb (by decide) mw_105 dX0_work_11 ?_
      refine r_bN G hC h b 4 hb (by decide) (x := nI (4)) rfl dX0_work_14 ?_
      refine lv_icmp_ge (tgt := 98) hx hcd dX0_work_15 (by decide) (fun c_4 => ?_) (fun c_4 => ?_)
      · have c_4 := cLe (tN (n := 4) (by decide)) (tN (n := i) (by omega)) c_4
        refine lv_iload_n hx hcd dX0_work_98 rfl (lv_at hl 1 rfl) ?_
        exact k_reti hQ G hret hlocks h (⟨by rw [show (4 : Nat) = i by omega, hBi], by rw [show (4 : Nat) = i by omega, hBi]⟩) (Nat.le_of_ble_eq_true rfl) (Nat.le_of_ble_eq_true rfl) dX0_work_99
      · have c_4 := cNle (tN (n := 4) (by decide)) (tN (n := i) (by omega)) c_4
        refine lv_aload_n hx hcd dX0_work_18 rfl (lv_at hl 3 rfl) ?_
        refine r_bA G hC h b 4 hb (by decide) mw_105 dX0_work_19 ?_
        refine lv_iload_n hx hcd dX0_work_22 rfl (lv_at hl 2 rfl) ?_
        refine r_bL G hC h b 4 i hb (by decide) (setB_at _ _ _) rfl (show i < 4 by omega) (x := nI (Bi.1 4 (i)) - 1) rfl dX0_work_23 ?_
        have q_5 := hzi.1 4 (i)
        refine lv_istore (lv' := [(4, .int (nI (Bi.1 4 (i)) - 1)), (1, .int (nI (unf B))), (2, .int (nI (fi))), (3, .int (nI (i))), (0, .ref (eX V (8 * b)))]) hx hcd dX0_work_24 hl (by decide) rfl (fun ls hl => ?_)
        refine lv_aload_n hx hcd dX0_work_26 rfl (lv_at hl 4 rfl) ?_
        refine lv_iload hx hcd dX0_work_27 (lv_at hl 0 rfl) ?_
        refine k_Vi (As := [.int (nI (Bi.1 4 (i)) - 1)]) (rest := []) (b := eX V (8 * b)) G hC hB h (met_X0_hasStoryA l V S b Bi hb hni (Bi.1 4 (i)) (by omega)) mw_745 kv_X0_hasStory ⟨rfl, rfl⟩ ⟨Nat.le_of_ble_eq_true rfl, Nat.le_of_ble_eq_true rfl⟩ (r_bV hC h b hb) rfl rfl hl.1 (Nat.le_of_ble_eq_true rfl) dX0_work_29 ⟨Nat.le_of_ble_eq_true rfl, Nat.le_of_ble_eq_true rfl⟩ (fun r u H locs hp h => ?_)
        obtain ⟨rfl, rfl⟩ := hp
        refine lv_if_eq (tgt := 92) hx hcd dX0_work_32 (by decide) (fun c_6 => ?_) (fun c_6 => ?_)
        · have c_6 := bz0 c_6
          have f_8 := of_decide_eq_false c_6
          refine lv_iinc (v := nI (i + 1)) (lv' := [(3, .int (nI (i + 1))), (4, .int (nI (Bi.1 4 (i)) - 1)), (1, .int (nI (unf B))), (2, .int (nI (fi))), (0, .ref (eX V (8 * b)))]) hx hcd dX0_work_92 hl (k := 3) rfl (by exact nI_add (i) 1) (by decide) rfl (fun ls hl => ?_)
          refine lv_goto (tgt := 9) hx hcd dX0_work_95 (by decide) ?_
          exact ih_2 (i + 1) Bi fi (by omega) (by rw [wkN, hBi]; exact if_neg (fun z => by dsimp only at z; omega)) hzi hni (by omega) (by omega) _ _ h _ (lv_sub hl [2, 3, 0, 4] rfl)
        · have c_6 := bz1 c_6
          have f_7 := of_decide_eq_true c_6
          refine lv_aload_n hx hcd dX0_work_35 rfl (lv_at hl 4 rfl) ?_
          refine r_bA G hC h b 2 hb (by decide) mw_102 dX0_work_36 ?_
          refine lv_iload hx hcd dX0_work_39 (lv_at hl 0 rfl) ?_
          refine r_bL G hC h b 2 ((Bi.1 4 (i)) - 1) hb (by decide) (setB_at _ _ _) (pk_sub (b := 1) (by omega)) (show (Bi.1 4 (i)) - 1 < 16 by omega) (x := nI (Bi.1 2 ((Bi.1 4 (i)) - 1))) rfl dX0_work_41 ?_
          have q_9 := hzi.1 2 ((Bi.1 4 (i)) - 1)
          refine lv_iload_n hx hcd dX0_work_42 rfl (lv_at hl 1 rfl) ?_
          refine w_iand (v := nI ((Bi.1 2 ((Bi.1 4 (i)) - 1)) &&& (unf B))) hx hcd dX0_work_43 (n_and _ _) ?_
          have q_10 : (Bi.1 2 ((Bi.1 4 (i)) - 1)) &&& (unf B) < 65536 := and16 (by first | omega | exact p16 (by omega) | assumption)
          refine lv_if_ne (tgt := 92) hx hcd dX0_work_44 (by decide) (fun c_11 => ?_) (fun c_11 => ?_)
          · have c_11 := cNe (tN (n := (Bi.1 2 ((Bi.1 4 (i)) - 1)) &&& (unf B)) (by omega)) t0 c_11
            refine lv_iinc (v := nI (i + 1)) (lv' := [(3, .int (nI (i + 1))), (4, .int (nI (Bi.1 4 (i)) - 1)), (1, .int (nI (unf B))), (2, .int (nI (fi))), (0, .ref (eX V (8 * b)))]) hx hcd dX0_work_92 hl (k := 3) rfl (by exact nI_add (i) 1) (by decide) rfl (fun ls hl => ?_)
            refine lv_goto (tgt := 9) hx hcd dX0_work_95 (by decide) ?_
            exact ih_2 (i + 1) Bi fi (by omega) (by rw [wkN, hBi]; exact if_neg (fun z => by dsimp only at z; omega)) hzi hni (by omega) (by omega) _ _ h _ (lv_sub hl [2, 3, 0, 4] rfl)
          · have c_11 := cEq (tN (n := (Bi.1 2 ((Bi.1 4 (i)) - 1)) &&& (unf B)) (by omega)) t0 c_11
            refine lv_aload_n hx hcd dX0_work_47 rfl (lv_at hl 4 rfl) ?_
            refine r_bA G hC h b 1 hb (by decide) mw_100 dX0_work_48 ?_
            refine lv_iload hx hcd dX0_work_51 (lv_at hl 0 rfl) ?_
            refine lv_aload_n hx hcd dX0_work_53 rfl (lv_at hl 4 rfl) ?_
            refine r_bA G hC h b 1 hb (by decide) mw_100 dX0_work_54 ?_
            refine lv_iload hx hcd dX0_work_57 (lv_at hl 0 rfl) ?_
            refine r_bL G hC h b 1 ((Bi.1 4 (i)) - 1) hb (by decide) (setB_at _ _ _) (pk_sub (b := 1) (by omega)) (show (Bi.1 4 (i)) - 1 < 16 by omega) (x := nI (Bi.1 1 ((Bi.1 4 (i)) - 1))) rfl dX0_work_59 ?_
            have q_12 := hzi.1 1 ((Bi.1 4 (i)) - 1)
            refine lv_aload_n hx hcd dX0_work_60 rfl (lv_at hl 4 rfl) ?_
            refine r_bA G hC h b 3 hb (by decide) mw_103 dX0_work_61 ?_
            refine lv_iload_n hx hcd dX0_work_64 rfl (lv_at hl 3 rfl) ?_
            refine r_bL G hC h b 3 i hb (by decide) (setB_at _ _ _) rfl (show i < 4 by omega) (x := nI (Bi.1 3 (i))) rfl dX0_work_65 ?_
            have q_13 := hzi.1 3 (i)
            refine w_isub (v := nI (Bi.1 1 ((Bi.1 4 (i)) - 1)) - nI (Bi.1 3 (i))) hx hcd dX0_work_66 rfl ?_
            refine lv_iconst (v := nI 0) hx hcd dX0_work_67 (by decide) ?_
            refine va_mmax hx hcd (by rw [G.2.2.1]; exact hl.1.symm) G.2.2.2.1 (G.2.2.2.2 _ mw_754) (G.2.2.2.2 _ mw_365) (G.2.2.2.2 _ mw_70) (G.2.2.2.2 _ mw_366) (Nat.le_of_ble_eq_true rfl) (Nat.le_of_ble_eq_true rfl) (Nat.le_of_ble_eq_true rfl) (Nat.le_of_ble_eq_true rfl) dX0_work_68 ?_
            refine lv_topi (fun z_14 e_z_14 => ?_)
            obtain rfl : z_14 = nI ((Bi.1 1 ((Bi.1 4 (i)) - 1)) - (Bi.1 3 (i))) := by rw [e_z_14]; exact n_max0 (by omega) (by omega)
            refine r_bT G hC h b 1 ((Bi.1 4 (i)) - 1) hb (by decide) (setB_at _ _ _) (pk_sub (b := 1) (by omega)) (show (Bi.1 4 (i)) - 1 < 16 by omega) ((Bi.1 1 ((Bi.1 4 (i)) - 1)) - (Bi.1 3 (i))) rfl (setB_set _ _ _ _) dX0_work_71 (fun H locs h => ?_)
            refine lv_aload_n hx hcd dX0_work_72 rfl (lv_at hl 4 rfl) ?_
            refine r_bA G hC h b 1 hb (by decide) mw_100 dX0_work_73 ?_
            refine lv_iload hx hcd dX0_work_76 (lv_at hl 0 rfl) ?_
            refine r_bL G hC h b 1 ((Bi.1 4 (i)) - 1) hb (by decide) (setB_at _ _ _) (pk_sub (b := 1) (by omega)) (show (Bi.1 4 (i)) - 1 < 16 by omega) (x := nI ((Bi.1 1 ((Bi.1 4 (i)) - 1)) - (Bi.1 3 (i)))) (congrArg (kE 1) (bset_1 Bi 1 ((Bi.1 4 (i)) - 1) ((Bi.1 1 ((Bi.1 4 (i)) - 1)) - (Bi.1 3 (i))))) dX0_work_78 ?_
            refine lv_if_ne (tgt := 92) hx hcd dX0_work_79 (by decide) (fun c_16 => ?_) (fun c_16 => ?_)
            · have c_16 := cNe (tN (n := (Bi.1 1 ((Bi.1 4 (i)) - 1)) - (Bi.1 3 (i))) (by omega)) t0 c_16
              refine lv_iinc (v := nI (i + 1)) (lv' := [(3, .int (nI (i + 1))), (4, .int (nI (Bi.1 4 (i)) - 1)), (1, .int (nI (unf B))), (2, .int (nI (fi))), (0, .ref (eX V (8 * b)))]) hx hcd dX0_work_92 hl (k := 3) rfl (by exact nI_add (i) 1) (by decide) rfl (fun ls hl => ?_)
              refine lv_goto (tgt := 9) hx hcd dX0_work_95 (by decide) ?_
              exact ih_2 (i + 1) (bSet Bi 1 ((Bi.1 4 (i)) - 1) ((Bi.1 1 ((Bi.1 4 (i)) - 1)) - (Bi.1 3 (i)))) fi (by omega) (by rw [wkN, hBi]; exact (if_pos ⟨by show 0 < Bi.1 4 i; omega, by show Bi.1 4 i - 1 < Bi.2 0; omega, by show (Bi.1 2 (Bi.1 4 i - 1) &&& unf B) = 0; omega⟩).trans (if_neg (by show ¬ Bi.1 1 (Bi.1 4 i - 1) - Bi.1 3 i = 0; omega))) (kSm_set hzi _ _ (by omega)) hni (by omega) (by omega) _ _ h _ (lv_sub hl [2, 3, 0, 4] rfl)
            · have c_16 := cEq (tN (n := (Bi.1 1 ((Bi.1 4 (i)) - 1)) - (Bi.1 3 (i))) (by omega)) t0 c_16
              refine lv_aload_n hx hcd dX0_work_82 rfl (lv_at hl 4 rfl) ?_
              refine r_bA G hC h b 4 hb (by decide) mw_105 dX0_work_83 ?_
              refine lv_iload_n hx hcd dX0_work_86 rfl (lv_at hl 3 rfl) ?_
              refine lv_iconst (v := -1) hx hcd dX0_work_87 (by decide) ?_
              refine r_bT G hC h b 4 i hb (by decide) (setB_at _ _ _) rfl (show i < 4 by omega) (0) a0.symm (setB_set _ _ _ _) dX0_work_88 (fun H locs h => ?_)
              refine lv_iinc (v := nI (fi + 1)) (lv' := [(2, .int (nI (fi + 1))), (4, .int (nI (Bi.1 4 (i)) - 1)), (1, .int (nI (unf B))), (3, .int (nI (i))), (0, .ref (eX V (8 * b)))]) hx hcd dX0_work_89 hl (k := 2) rfl (by exact nI_add (fi) 1) (by decide) rfl (fun ls hl => ?_)
              refine lv_iinc (v := nI (i + 1)) (lv' := [(3, .int (nI (i + 1))), (2, .int (nI (fi + 1))), (4, .int (nI (Bi.1 4 (i)) - 1)), (1, .int (nI (unf B))), (0, .ref (eX V (8 * b)))]) hx hcd dX0_work_92 hl (k := 3) rfl (by exact nI_add (i) 1) (by decide) rfl (fun ls hl => ?_)
              refine lv_goto (tgt := 9) hx hcd dX0_work_95 (by decide) ?_
              exact ih_2 (i + 1) (bSet (bSet Bi 1 ((Bi.1 4 (i)) - 1) ((Bi.1 1 ((Bi.1 4 (i)) - 1)) - (Bi.1 3 (i)))) 4 (i) (0)) (fi + 1) (by omega) (by rw [wkN, hBi]; exact (if_pos ⟨by show 0 < Bi.1 4 i; omega, by show Bi.1 4 i - 1 < Bi.2 0; omega, by show (Bi.1 2 (Bi.1 4 i - 1) &&& unf B) = 0; omega⟩).trans (if_pos (by show Bi.1 1 (Bi.1 4 i - 1) - Bi.1 3 i = 0; omega))) (kSm_set (kSm_set hzi _ _ (by omega)) _ _ (by omega)) hni (by omega) (by omega) _ _ h _ (lv_sub hl [3, 1, 0, 4] rfl)
  exact L_1 (5 + 1) 0 B 0 (by omega) rfl hz hn (by omega) (by omega) _ _ h _ (lv_sub hl [2, 1, 0, 3] rfl)
set_option maxHeartbeats 4000000 in
set_option maxRecDepth 100000 in
/-- spendDay() -/
theorem met_X0_spendDay (l : Launch) (V : kEnv) (S : kCs) (b : Nat) (B : kBd) (hb : b < 12) (hz : kSm B) (hn : B.2 0 ≤ 16) (hp5 : B.2 5 < 10) : kI l yX0_spendDay cX0_spendDay 2 (some .int) { frames := 3, cells := 0, slots := 0, locals := 66 } V (cWs V) [.ref (eX V (8 * b))] (setB S b B) (fun r u => r = nI (wkN (unf B) B 4).2 ∧ u = setB S b (dayB B)) 0 0 := by
  refine kI_of (by decide +kernel) (Nat.le_of_ble_eq_true rfl) ?_
  intro p e s m args below meth c G hret hlocks hC hB h ls hl Q hQ
  have hl : lv_has ls 2 [(0, .ref (eX V (8 * b)))] := hl
  have hx := G.1
  have hcd := G.2.1
  refine lv_aload_n hx hcd dX0_spendDay_0 rfl (lv_at hl 0 rfl) ?_
  refine k_Vi (As := []) (rest := []) (b := eX V (8 * b)) G hC hB h (met_X0_work l V S b B hb hz hn) mw_1193 kv_X0_work ⟨rfl, rfl⟩ ⟨Nat.le_of_ble_eq_true rfl, Nat.le_of_ble_eq_true rfl⟩ (r_bV hC h b hb) rfl rfl hl.1 (Nat.le_of_ble_eq_true rfl) dX0_spendDay_1 ⟨Nat.le_of_ble_eq_true rfl, Nat.le_of_ble_eq_true rfl⟩ (fun r u H locs hp h => ?_)
  obtain ⟨rfl, rfl⟩ := hp
  have z1 := wk_sm hz (unf B) 4
  have e5 : (wkN (unf B) B 4).1.2 5 = B.2 5 := by rw [wk_num]
  have z2 := kSm_put z1 5 (v := (wkN (unf B) B 4).1.2 5 + 1) (by omega)
  refine lv_istore_n (lv' := [(1, .int (nI ((wkN (unf B) B 4).2))), (0, .ref (eX V (8 * b)))]) hx hcd dX0_spendDay_4 rfl hl (by decide) rfl (fun ls hl => ?_)
  refine lv_aload_n hx hcd dX0_spendDay_5 rfl (lv_at hl 1 rfl) ?_
  refine lv_dup hx hcd dX0_spendDay_6 rfl ?_
  refine r_bS G hC h b 5 hb (by decide) (setB_at _ _ _) mw_120 (x := nI ((wkN (unf B) B 4).1.2 5)) rfl dX0_spendDay_7 ?_
  refine lv_iconst (v := nI 1) hx hcd dX0_spendDay_10 (by decide) ?_
  refine w_iadd (v := nI (((wkN (unf B) B 4).1.2 5) + 1)) hx hcd dX0_spendDay_11 (nI_add _ _) ?_
  refine r_bP G hC h b 5 hb (by decide) (setB_at _ _ _) mw_120 (v := (((wkN (unf B) B 4).1.2 5) + 1)) rfl (fun z => absurd z (by decide)) (setB_set _ _ _ _) dX0_spendDay_12 (fun H locs h => ?_)
  refine lv_aload_n hx hcd dX0_spendDay_15 rfl (lv_at hl 1 rfl) ?_
  refine r_bS G hC h b 5 hb (by decide) (setB_at _ _ _) mw_120 (x := nI (((wkN (unf B) B 4).1.2 5) + 1)) rfl dX0_spendDay_16 ?_
  refine lv_if_lt (tgt := 47) hx hcd dX0_spendDay_19 (by decide) (fun c_4 => ?_) (fun c_4 => ?_)
  · have c_4 := cLt (tN (n := ((wkN (unf B) B 4).1.2 5) + 1) (by omega)) t0 c_4
    exact absurd c_4 (by omega)
  · have c_4 := cNlt (tN (n := ((wkN (unf B) B 4).1.2 5) + 1) (by omega)) t0 c_4
    refine lv_aload_n hx hcd dX0_spendDay_22 rfl (lv_at hl 1 rfl) ?_
    refine r_bS G hC h b 5 hb (by decide) (setB_at _ _ _) mw_120 (x := nI (((wkN (unf B) B 4).1.2 5) + 1)) rfl dX0_spendDay_23 ?_
    refine lv_aload_n hx hcd dX0_spendDay_26 rfl (lv_at hl 1 rfl) ?_
    refine r_bA G hC h b 5 hb (by decide) mw_107 dX0_spendDay_27 ?_
    refine r_bN G hC h b 5 hb (by decide) (x := nI (11)) rfl dX0_spendDay_30 ?_
    refine lv_icmp_ge (tgt := 47) hx hcd dX0_spendDay_31 (by decide) (fun c_6 => ?_) (fun c_6 => ?_)
    · have c_6 := cLe (tN (n := 11) (by decide)) (tN (n := ((wkN (unf B) B 4).1.2 5) + 1) (by omega)) c_6
      exact absurd c_6 (by omega)
    · have c_6 := cNle (tN (n := 11) (by decide)) (tN (n := ((wkN (unf B) B 4).1.2 5) + 1) (by omega)) c_6
      refine lv_aload_n hx hcd dX0_spendDay_34 rfl (lv_at hl 1 rfl) ?_
      refine r_bA G hC h b 5 hb (by decide) mw_107 dX0_spendDay_35 ?_
      refine lv_aload_n hx hcd dX0_spendDay_38 rfl (lv_at hl 1 rfl) ?_
      refine r_bS G hC h b 5 hb (by decide) (setB_at _ _ _) mw_120 (x := nI (((wkN (unf B) B 4).1.2 5) + 1)) rfl dX0_spendDay_39 ?_
      refine lv_aload_n hx hcd dX0_spendDay_42 rfl (lv_at hl 1 rfl) ?_
      refine k_Vi (As := []) (rest := [.int (nI (((wkN (unf B) B 4).1.2 5) + 1)), .ref (eX V (8 * b + (5 + 1)))]) (b := eX V (8 * b)) G hC hB h (met_X0_plannedRemains l V S b (bPut ((wkN (unf B) B 4).1) 5 (((wkN (unf B) B 4).1.2 5) + 1)) hb (by assumption)) mw_1177 kv_X0_plannedRemains ⟨rfl, rfl⟩ ⟨Nat.le_of_ble_eq_true rfl, Nat.le_of_ble_eq_true rfl⟩ (r_bV hC h b hb) rfl rfl hl.1 (Nat.le_of_ble_eq_true rfl) dX0_spendDay_43 ⟨Nat.le_of_ble_eq_true rfl, Nat.le_of_ble_eq_true rfl⟩ (fun r u H locs hp h => ?_)
      obtain ⟨rfl, rfl⟩ := hp
      refine r_bT G hC h b 5 (((wkN (unf B) B 4).1.2 5) + 1) hb (by decide) (setB_at _ _ _) rfl (show ((wkN (unf B) B 4).1.2 5) + 1 < 11 by omega) (psum (bPut ((wkN (unf B) B 4).1) 5 (((wkN (unf B) B 4).1.2 5) + 1)) 1) rfl (setB_set _ _ _ _) dX0_spendDay_46 (fun H locs h => ?_)
      refine lv_iload_n hx hcd dX0_spendDay_47 rfl (lv_at hl 0 rfl) ?_
      exact k_reti hQ G hret hlocks h (⟨rfl, rfl⟩) (Nat.le_of_ble_eq_true rfl) (Nat.le_of_ble_eq_true rfl) dX0_spendDay_48
set_option maxHeartbeats 4000000 in
set_option maxRecDepth 100000 in
/-- copyRow(board a, board b) -/
theorem met_X0_copyRow (l : Launch) (V : kEnv) (S : kCs) (a b : Nat) (B : kBd) (ha : a < 12) (hb : b < 12) (hab : a ≠ b) (f : Nat) (hf : f < 7) : kU l yX0_copyRow cX0_copyRow 3 { frames := 0, cells := 0, slots := 0, locals := 0 } V (cWs V) [.ref (eX V (8 * a + (f + 1))), .ref (eX V (8 * b + (f + 1)))] (setB S b B) (fun u => u = setB S b (cpR B (S.1 a) f (kLen f))) 0 0 := by
  refine kU_of (by decide +kernel) (Nat.le_of_ble_eq_true rfl) ?_
  intro p e s m args below meth c G hret hlocks hC hB h ls hl Q hQ
  have hl : lv_has ls 3 [(0, .ref (eX V (8 * a + (f + 1)))), (1, .ref (eX V (8 * b + (f + 1))))] := hl
  have hx := G.1
  have hcd := G.2.1
  have hk : kLen f ≤ 16 := by unfold kLen; split <;> decide
  refine lv_iconst (v := nI 0) hx hcd dX0_copyRow_0 (by decide) ?_
  refine lv_istore_n (lv' := [(2, .int (nI 0)), (0, .ref (eX V (8 * a + (f + 1)))), (1, .ref (eX V (8 * b + (f + 1))))]) hx hcd dX0_copyRow_1 rfl hl (by decide) rfl (fun ls hl => ?_)
  have L_1 : ∀ (fu_3 : Nat) (i : Nat) (hi : i ≤ kLen f), kLen f - i < fu_3 → ∀ (H : Heap) (locs : List Loc), cH V s H locs (cWs V (setB S b ((cpR B (S.1 a) f i)))) → ∀ ls : Array Slot, lv_has ls 3 [(2, .int (nI (i))), (0, .ref (eX V (8 * a + (f + 1)))), (1, .ref (eX V (8 * b + (f + 1))))] → W p l e { frames := 0, cells := 0, slots := 0, locals := 0 } s m args below meth c H locs 0 0 Q (F0 m 2 ls []) := by
    intro fu_3
    induction fu_3 with
    | zero => intro i hi hm; exact absurd hm (Nat.not_lt_zero _)
    | succ fu_3 ih_2 =>
      intro i hi hm H locs h ls hl
      refine lv_iload_n hx hcd dX0_copyRow_2 rfl (lv_at hl 0 rfl) ?_
      refine lv_aload_n hx hcd dX0_copyRow_3 rfl (lv_at hl 1 rfl) ?_
      refine r_bN G hC h a f ha hf (x := nI (kLen f)) rfl dX0_copyRow_4 ?_
      refine lv_icmp_ge (tgt := 26) hx hcd dX0_copyRow_5 (by decide) (fun c_4 => ?_) (fun c_4 => ?_)
      · have c_4 := cLe (tN (n := kLen f) (by omega)) (tN (n := i) (by omega)) c_4
        exact k_retv hQ G hret hlocks h (by rw [show kLen f = i by omega]) (Nat.le_of_ble_eq_true rfl) (Nat.le_of_ble_eq_true rfl) dX0_copyRow_26
      · have c_4 := cNle (tN (n := kLen f) (by omega)) (tN (n := i) (by omega)) c_4
        refine lv_iload_n hx hcd dX0_copyRow_8 rfl (lv_at hl 0 rfl) ?_
        refine lv_aload_n hx hcd dX0_copyRow_9 rfl (lv_at hl 2 rfl) ?_
        refine r_bN G hC h b f hb hf (x := nI (kLen f)) rfl dX0_copyRow_10 ?_
        refine lv_icmp_ge (tgt := 26) hx hcd dX0_copyRow_11 (by decide) (fun c_5 => ?_) (fun c_5 => ?_)
        · have c_5 := cLe (tN (n := kLen f) (by omega)) (tN (n := i) (by omega)) c_5
          exact absurd c_5 (by omega)
        · have c_5 := cNle (tN (n := kLen f) (by omega)) (tN (n := i) (by omega)) c_5
          refine lv_aload_n hx hcd dX0_copyRow_14 rfl (lv_at hl 2 rfl) ?_
          refine lv_iload_n hx hcd dX0_copyRow_15 rfl (lv_at hl 0 rfl) ?_
          refine lv_aload_n hx hcd dX0_copyRow_16 rfl (lv_at hl 1 rfl) ?_
          refine lv_iload_n hx hcd dX0_copyRow_17 rfl (lv_at hl 0 rfl) ?_
          refine r_bL G hC h a f i ha hf (setB_ne _ _ (by omega)) rfl (show i < kLen f by omega) (x := kE f ((S.1 a).1 f (i))) rfl dX0_copyRow_18 ?_
          refine r_bT G hC h b f i hb hf (setB_at _ _ _) rfl (show i < kLen f by omega) ((S.1 a).1 f (i)) rfl (setB_set _ _ _ _) dX0_copyRow_19 (fun H locs h => ?_)
          refine lv_iinc (v := nI (i + 1)) (lv' := [(2, .int (nI (i + 1))), (0, .ref (eX V (8 * a + (f + 1)))), (1, .ref (eX V (8 * b + (f + 1))))]) hx hcd dX0_copyRow_20 hl (k := 0) rfl (by exact nI_add (i) 1) (by decide) rfl (fun ls hl => ?_)
          refine lv_goto (tgt := 2) hx hcd dX0_copyRow_23 (by decide) ?_
          exact ih_2 (i + 1) (by omega) (by omega) _ _ (by rw [← cpR_s]; exact h) _ (lv_sub hl [0, 1, 2] rfl)
  exact L_1 (kLen f + 1) 0 (by omega) (by omega) _ _ (by rw [cpR_0]; exact h) _ (lv_sub hl [0, 1, 2] rfl)
set_option maxHeartbeats 4000000 in
set_option maxRecDepth 100000 in
/-- copyFrom(board a) -/
theorem met_X0_copyFrom (l : Launch) (V : kEnv) (S : kCs) (b : Nat) (B : kBd) (hb : b < 12) (a : Nat) (ha : a < 12) (hab : a ≠ b) (hza : kSm (S.1 a)) (ha3 : (S.1 a).2 3 < 2) (hna : bN (S.1 a)) (hnb : bN B) : kU l yX0_copyFrom cX0_copyFrom 2 { frames := 1, cells := 0, slots := 0, locals := 22 } V (cWs V) [.ref (eX V (8 * b)), .ref (eX V (8 * a))] (setB S b B) (fun u => u = setB S b (S.1 a)) 0 0 := by
  refine kU_of (by decide +kernel) (Nat.le_of_ble_eq_true rfl) ?_
  intro p e s m args below meth c G hret hlocks hC hB h ls hl Q hQ
  have hl : lv_has ls 2 [(0, .ref (eX V (8 * b))), (1, .ref (eX V (8 * a)))] := hl
  have hx := G.1
  have hcd := G.2.1
  refine lv_aload_n hx hcd dX0_copyFrom_0 rfl (lv_at hl 1 rfl) ?_
  refine r_bA G hC h a 0 ha (by decide) mw_98 dX0_copyFrom_1 ?_
  refine lv_aload_n hx hcd dX0_copyFrom_4 rfl (lv_at hl 0 rfl) ?_
  refine r_bA G hC h b 0 hb (by decide) mw_98 dX0_copyFrom_5 ?_
  refine k_Sv (As := [.ref (eX V (8 * a + (0 + 1))), .ref (eX V (8 * b + (0 + 1)))]) (rest := []) G hC hB h (met_X0_copyRow l V S a b B ha hb (by first | assumption | decide) 0 (by decide)) mw_710 ks_X0_copyRow ⟨rfl, rfl⟩ ⟨Nat.le_of_ble_eq_true rfl, Nat.le_of_ble_eq_true rfl⟩ rfl rfl hl.1 (Nat.le_of_ble_eq_true rfl) dX0_copyFrom_8 ⟨Nat.le_of_ble_eq_true rfl, Nat.le_of_ble_eq_true rfl⟩ (fun u H locs hp h => ?_)
  obtain rfl := hp
  refine lv_aload_n hx hcd dX0_copyFrom_11 rfl (lv_at hl 1 rfl) ?_
  refine r_bA G hC h a 1 ha (by decide) mw_100 dX0_copyFrom_12 ?_
  refine lv_aload_n hx hcd dX0_copyFrom_15 rfl (lv_at hl 0 rfl) ?_
  refine r_bA G hC h b 1 hb (by decide) mw_100 dX0_copyFrom_16 ?_
  refine k_Sv (As := [.ref (eX V (8 * a + (1 + 1))), .ref (eX V (8 * b + (1 + 1)))]) (rest := []) G hC hB h (met_X0_copyRow l V S a b (cpR B (S.1 a) 0 (kLen 0)) ha hb (by first | assumption | decide) 1 (by decide)) mw_710 ks_X0_copyRow ⟨rfl, rfl⟩ ⟨Nat.le_of_ble_eq_true rfl, Nat.le_of_ble_eq_true rfl⟩ rfl rfl hl.1 (Nat.le_of_ble_eq_true rfl) dX0_copyFrom_19 ⟨Nat.le_of_ble_eq_true rfl, Nat.le_of_ble_eq_true rfl⟩ (fun u H locs hp h => ?_)
  obtain rfl := hp
  refine lv_aload_n hx hcd dX0_copyFrom_22 rfl (lv_at hl 1 rfl) ?_
  refine r_bA G hC h a 2 ha (by decide) mw_102 dX0_copyFrom_23 ?_
  refine lv_aload_n hx hcd dX0_copyFrom_26 rfl (lv_at hl 0 rfl) ?_
  refine r_bA G hC h b 2 hb (by decide) mw_102 dX0_copyFrom_27 ?_
  refine k_Sv (As := [.ref (eX V (8 * a + (2 + 1))), .ref (eX V (8 * b + (2 + 1)))]) (rest := []) G hC hB h (met_X0_copyRow l V S a b (cpR (cpR B (S.1 a) 0 (kLen 0)) (S.1 a) 1 (kLen 1)) ha hb (by first | assumption | decide) 2 (by decide)) mw_710 ks_X0_copyRow ⟨rfl, rfl⟩ ⟨Nat.le_of_ble_eq_true rfl, Nat.le_of_ble_eq_true rfl⟩ rfl rfl hl.1 (Nat.le_of_ble_eq_true rfl) dX0_copyFrom_30 ⟨Nat.le_of_ble_eq_true rfl, Nat.le_of_ble_eq_true rfl⟩ (fun u H locs hp h => ?_)
  obtain rfl := hp
  refine lv_aload_n hx hcd dX0_copyFrom_33 rfl (lv_at hl 1 rfl) ?_
  refine r_bA G hC h a 3 ha (by decide) mw_103 dX0_copyFrom_34 ?_
  refine lv_aload_n hx hcd dX0_copyFrom_37 rfl (lv_at hl 0 rfl) ?_
  refine r_bA G hC h b 3 hb (by decide) mw_103 dX0_copyFrom_38 ?_
  refine k_Sv (As := [.ref (eX V (8 * a + (3 + 1))), .ref (eX V (8 * b + (3 + 1)))]) (rest := []) G hC hB h (met_X0_copyRow l V S a b (cpR (cpR (cpR B (S.1 a) 0 (kLen 0)) (S.1 a) 1 (kLen 1)) (S.1 a) 2 (kLen 2)) ha hb (by first | assumption | decide) 3 (by decide)) mw_710 ks_X0_copyRow ⟨rfl, rfl⟩ ⟨Nat.le_of_ble_eq_true rfl, Nat.le_of_ble_eq_true rfl⟩ rfl rfl hl.1 (Nat.le_of_ble_eq_true rfl) dX0_copyFrom_41 ⟨Nat.le_of_ble_eq_true rfl, Nat.le_of_ble_eq_true rfl⟩ (fun u H locs hp h => ?_)
  obtain rfl := hp
  refine lv_aload_n hx hcd dX0_copyFrom_44 rfl (lv_at hl 1 rfl) ?_
  refine r_bA G hC h a 4 ha (by decide) mw_105 dX0_copyFrom_45 ?_
  refine lv_aload_n hx hcd dX0_copyFrom_48 rfl (lv_at hl 0 rfl) ?_
  refine r_bA G hC h b 4 hb (by decide) mw_105 dX0_copyFrom_49 ?_
  refine k_Sv (As := [.ref (eX V (8 * a + (4 + 1))), .ref (eX V (8 * b + (4 + 1)))]) (rest := []) G hC hB h (met_X0_copyRow l V S a b (cpR (cpR (cpR (cpR B (S.1 a) 0 (kLen 0)) (S.1 a) 1 (kLen 1)) (S.1 a) 2 (kLen 2)) (S.1 a) 3 (kLen 3)) ha hb (by first | assumption | decide) 4 (by decide)) mw_710 ks_X0_copyRow ⟨rfl, rfl⟩ ⟨Nat.le_of_ble_eq_true rfl, Nat.le_of_ble_eq_true rfl⟩ rfl rfl hl.1 (Nat.le_of_ble_eq_true rfl) dX0_copyFrom_52 ⟨Nat.le_of_ble_eq_true rfl, Nat.le_of_ble_eq_true rfl⟩ (fun u H locs hp h => ?_)
  obtain rfl := hp
  refine lv_aload_n hx hcd dX0_copyFrom_55 rfl (lv_at hl 1 rfl) ?_
  refine r_bA G hC h a 5 ha (by decide) mw_107 dX0_copyFrom_56 ?_
  refine lv_aload_n hx hcd dX0_copyFrom_59 rfl (lv_at hl 0 rfl) ?_
  refine r_bA G hC h b 5 hb (by decide) mw_107 dX0_copyFrom_60 ?_
  refine k_Sv (As := [.ref (eX V (8 * a + (5 + 1))), .ref (eX V (8 * b + (5 + 1)))]) (rest := []) G hC hB h (met_X0_copyRow l V S a b (cpR (cpR (cpR (cpR (cpR B (S.1 a) 0 (kLen 0)) (S.1 a) 1 (kLen 1)) (S.1 a) 2 (kLen 2)) (S.1 a) 3 (kLen 3)) (S.1 a) 4 (kLen 4)) ha hb (by first | assumption | decide) 5 (by decide)) mw_710 ks_X0_copyRow ⟨rfl, rfl⟩ ⟨Nat.le_of_ble_eq_true rfl, Nat.le_of_ble_eq_true rfl⟩ rfl rfl hl.1 (Nat.le_of_ble_eq_true rfl) dX0_copyFrom_63 ⟨Nat.le_of_ble_eq_true rfl, Nat.le_of_ble_eq_true rfl⟩ (fun u H locs hp h => ?_)
  obtain rfl := hp
  refine lv_aload_n hx hcd dX0_copyFrom_66 rfl (lv_at hl 1 rfl) ?_
  refine r_bA G hC h a 6 ha (by decide) mw_109 dX0_copyFrom_67 ?_
  refine lv_aload_n hx hcd dX0_copyFrom_70 rfl (lv_at hl 0 rfl) ?_
  refine r_bA G hC h b 6 hb (by decide) mw_109 dX0_copyFrom_71 ?_
  refine k_Sv (As := [.ref (eX V (8 * a + (6 + 1))), .ref (eX V (8 * b + (6 + 1)))]) (rest := []) G hC hB h (met_X0_copyRow l V S a b (cpR (cpR (cpR (cpR (cpR (cpR B (S.1 a) 0 (kLen 0)) (S.1 a) 1 (kLen 1)) (S.1 a) 2 (kLen 2)) (S.1 a) 3 (kLen 3)) (S.1 a) 4 (kLen 4)) (S.1 a) 5 (kLen 5)) ha hb (by first | assumption | decide) 6 (by decide)) mw_710 ks_X0_copyRow ⟨rfl, rfl⟩ ⟨Nat.le_of_ble_eq_true rfl, Nat.le_of_ble_eq_true rfl⟩ rfl rfl hl.1 (Nat.le_of_ble_eq_true rfl) dX0_copyFrom_74 ⟨Nat.le_of_ble_eq_true rfl, Nat.le_of_ble_eq_true rfl⟩ (fun u H locs hp h => ?_)
  obtain rfl := hp
  refine lv_aload_n hx hcd dX0_copyFrom_77 rfl (lv_at hl 0 rfl) ?_
  refine lv_aload_n hx hcd dX0_copyFrom_78 rfl (lv_at hl 1 rfl) ?_
  refine r_bS G hC h a 0 ha (by decide) (setB_ne _ _ (by omega)) mw_111 (x := nI ((S.1 a).2 0)) rfl dX0_copyFrom_79 ?_
  have q_1 := hza.2 0
  refine r_bP G hC h b 0 hb (by decide) (setB_at _ _ _) mw_111 (v := ((S.1 a).2 0)) rfl (fun z => absurd z (by decide)) (setB_set _ _ _ _) dX0_copyFrom_82 (fun H locs h => ?_)
  refine lv_aload_n hx hcd dX0_copyFrom_85 rfl (lv_at hl 0 rfl) ?_
  refine lv_aload_n hx hcd dX0_copyFrom_86 rfl (lv_at hl 1 rfl) ?_
  refine r_bS G hC h a 1 ha (by decide) (setB_ne _ _ (by omega)) mw_113 (x := nI ((S.1 a).2 1)) rfl dX0_copyFrom_87 ?_
  have q_2 := hza.2 1
  refine r_bP G hC h b 1 hb (by decide) (setB_at _ _ _) mw_113 (v := ((S.1 a).2 1)) rfl (fun z => absurd z (by decide)) (setB_set _ _ _ _) dX0_copyFrom_90 (fun H locs h => ?_)
  refine lv_aload_n hx hcd dX0_copyFrom_93 rfl (lv_at hl 0 rfl) ?_
  refine lv_aload_n hx hcd dX0_copyFrom_94 rfl (lv_at hl 1 rfl) ?_
  refine r_bS G hC h a 2 ha (by decide) (setB_ne _ _ (by omega)) mw_115 (x := nI ((S.1 a).2 2)) rfl dX0_copyFrom_95 ?_
  have q_3 := hza.2 2
  refine r_bP G hC h b 2 hb (by decide) (setB_at _ _ _) mw_115 (v := ((S.1 a).2 2)) rfl (fun z => absurd z (by decide)) (setB_set _ _ _ _) dX0_copyFrom_98 (fun H locs h => ?_)
  refine lv_aload_n hx hcd dX0_copyFrom_101 rfl (lv_at hl 0 rfl) ?_
  refine lv_aload_n hx hcd dX0_copyFrom_102 rfl (lv_at hl 1 rfl) ?_
  refine r_bS G hC h a 3 ha (by decide) (setB_ne _ _ (by omega)) mw_116 (x := nI ((S.1 a).2 3)) rfl dX0_copyFrom_103 ?_
  have q_4 := hza.2 3
  refine r_bP G hC h b 3 hb (by decide) (setB_at _ _ _) mw_116 (v := ((S.1 a).2 3)) rfl (by first | decide | (intro _; omega)) (setB_set _ _ _ _) dX0_copyFrom_106 (fun H locs h => ?_)
  refine lv_aload_n hx hcd dX0_copyFrom_109 rfl (lv_at hl 0 rfl) ?_
  refine lv_aload_n hx hcd dX0_copyFrom_110 rfl (lv_at hl 1 rfl) ?_
  refine r_bS G hC h a 4 ha (by decide) (setB_ne _ _ (by omega)) mw_118 (x := nI ((S.1 a).2 4)) rfl dX0_copyFrom_111 ?_
  have q_5 := hza.2 4
  refine r_bP G hC h b 4 hb (by decide) (setB_at _ _ _) mw_118 (v := ((S.1 a).2 4)) rfl (fun z => absurd z (by decide)) (setB_set _ _ _ _) dX0_copyFrom_114 (fun H locs h => ?_)
  refine lv_aload_n hx hcd dX0_copyFrom_117 rfl (lv_at hl 0 rfl) ?_
  refine lv_aload_n hx hcd dX0_copyFrom_118 rfl (lv_at hl 1 rfl) ?_
  refine r_bS G hC h a 5 ha (by decide) (setB_ne _ _ (by omega)) mw_120 (x := nI ((S.1 a).2 5)) rfl dX0_copyFrom_119 ?_
  have q_6 := hza.2 5
  refine r_bP G hC h b 5 hb (by decide) (setB_at _ _ _) mw_120 (v := ((S.1 a).2 5)) rfl (fun z => absurd z (by decide)) (setB_set _ _ _ _) dX0_copyFrom_122 (fun H locs h => ?_)
  refine lv_aload_n hx hcd dX0_copyFrom_125 rfl (lv_at hl 0 rfl) ?_
  refine lv_aload_n hx hcd dX0_copyFrom_126 rfl (lv_at hl 1 rfl) ?_
  refine r_bS G hC h a 6 ha (by decide) (setB_ne _ _ (by omega)) mw_122 (x := nI ((S.1 a).2 6)) rfl dX0_copyFrom_127 ?_
  have q_7 := hza.2 6
  refine r_bP G hC h b 6 hb (by decide) (setB_at _ _ _) mw_122 (v := ((S.1 a).2 6)) rfl (fun z => absurd z (by decide)) (setB_set _ _ _ _) dX0_copyFrom_130 (fun H locs h => ?_)
  refine lv_aload_n hx hcd dX0_copyFrom_133 rfl (lv_at hl 0 rfl) ?_
  refine lv_aload_n hx hcd dX0_copyFrom_134 rfl (lv_at hl 1 rfl) ?_
  refine r_bS G hC h a 7 ha (by decide) (setB_ne _ _ (by omega)) mw_124 (x := nI ((S.1 a).2 7)) rfl dX0_copyFrom_135 ?_
  have q_8 := hza.2 7
  refine r_bP G hC h b 7 hb (by decide) (setB_at _ _ _) mw_124 (v := ((S.1 a).2 7)) rfl (fun z => absurd z (by decide)) (setB_set _ _ _ _) dX0_copyFrom_138 (fun H locs h => ?_)
  exact k_retv hQ G hret hlocks h (congrArg (setB S b) (cp_all hna hnb)) (Nat.le_of_ble_eq_true rfl) (Nat.le_of_ble_eq_true rfl) dX0_copyFrom_141
