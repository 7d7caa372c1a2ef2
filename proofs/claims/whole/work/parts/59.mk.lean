/-! THE REFERENCE: stories in order, the days that each needs. -/
theorem frdN_spec (B : kBd) (q : Nat) : ∀ f k, frdN B q f k = 0 ∨ ∃ j, k ≤ j ∧ frdN B q f k = j + 1 ∧ j < B.2 0 ∧ (q.testBit j = false ∧ andn (B.1 2 j) q = 0) ∧ ∀ i, k ≤ i → i < j → ¬ (q.testBit i = false ∧ andn (B.1 2 i) q = 0)
  | 0, k => Or.inl rfl
  | f + 1, k => by
    unfold frdN
    by_cases h1 : k < B.2 0
    · rw [if_pos h1]
      by_cases h2 : q.testBit k = false ∧ andn (B.1 2 k) q = 0
      · rw [if_pos h2]
        exact Or.inr ⟨k, Nat.le_refl _, rfl, h1, h2, fun i h3 h4 => by omega⟩
      · rw [if_neg h2]
        rcases frdN_spec B q f (k + 1) with h3 | ⟨j, h4, h5, h6, h7, h8⟩
        · exact Or.inl h3
        · refine Or.inr ⟨j, by omega, h5, h6, h7, fun i h9 h10 => ?_⟩
          by_cases e : i = k
          · rw [e]; exact h2
          · exact h8 i (by omega) h10
    · rw [if_neg h1]; exact Or.inl rfl
theorem frd_go {B : kBd} {c st : Nat} (h : st < frd B c) (hn : ¬ (c.testBit st = false ∧ andn (B.1 2 st) c = 0)) : st + 1 < frd B c := by
  rcases frdN_spec B c 17 0 with h0 | ⟨j, _, h2, _, h4, h5⟩
  · unfold frd at h; omega
  · have e : frd B c = j + 1 := h2
    by_cases h6 : st = j
    · rw [h6] at hn; exact absurd h4 hn
    · omega
theorem frd_st {B : kBd} {c st : Nat} (h : st < frd B c) (h1 : c.testBit st = false) (h2 : andn (B.1 2 st) c = 0) : st + 1 = frd B c := by
  rcases frdN_spec B c 17 0 with h0 | ⟨j, _, h3, _, h4, h5⟩
  · unfold frd at h; omega
  · have e : frd B c = j + 1 := h3
    by_cases h6 : st = j
    · omega
    · exact absurd ⟨h1, h2⟩ (h5 st (Nat.zero_le _) (by omega))
theorem andn_sub {a c k : Nat} (h : andn a c = 0) (ha : a.testBit k = true) (hk : k < 16) : c.testBit k = true := by
  have h1 : (andn a c).testBit k = false := by rw [h]; exact Nat.zero_testBit k
  unfold andn at h1
  rw [Nat.testBit_and, ha, Nat.testBit_xor, (by decide : ∀ i, i < 16 → Nat.testBit 65535 i = true) k hk] at h1
  cases hc : c.testBit k
  · rw [hc] at h1; exact Bool.noConfusion h1
  · rfl
/-- the stories that are placed first -/
def cmN (B : kBd) : Nat → Nat
  | 0 => 0
  | n + 1 => cmN B n ||| 2 ^ (frd B (cmN B n) - 1)
/-- days: of the first k blockers; one up, 0: never -/
def rdD (B : kBd) (g : Nat → Nat) (st : Nat) : Nat → Nat
  | 0 => if asgOf B st = 0 then 0 else 1
  | k + 1 => if rdD B g st k = 0 then 0 else if (B.1 2 st).testBit k then (if g k = 0 then 0 else max (rdD B g st k) (g k)) else rdD B g st k
theorem rdD_t {B : kBd} {g : Nat → Nat} {st k d : Nat} (h : d = rdD B g st k) (h0 : d ≠ 0) (hb : (B.1 2 st).testBit k = true) (hk : g k ≠ 0) : max d (g k) = rdD B g st (k + 1) := by
  unfold rdD
  rw [← h, if_neg h0, if_pos hb, if_neg hk]
theorem rdD_n {B : kBd} {g : Nat → Nat} {st k d : Nat} (h : d = rdD B g st k) (h0 : d ≠ 0) (hb : (B.1 2 st).testBit k = true) (hk : g k = 0) : 0 = rdD B g st (k + 1) := by
  unfold rdD
  rw [← h, if_neg h0, if_pos hb, if_pos hk]
theorem rdD_f {B : kBd} {g : Nat → Nat} {st k d : Nat} (h : d = rdD B g st k) (h0 : d ≠ 0) (hb : (B.1 2 st).testBit k = false) : d = rdD B g st (k + 1) := by
  conv => rhs; unfold rdD
  rw [← h, if_neg h0, if_neg (by rw [hb]; decide)]
theorem rdD_0 {B : kBd} {g : Nat → Nat} {st k : Nat} (h : rdD B g st k = 0) : ∀ m, rdD B g st (k + m) = 0
  | 0 => h
  | m + 1 => by
    show (if rdD B g st (k + m) = 0 then 0 else _) = 0
    exact if_pos (rdD_0 h m)
theorem rdD_end {B : kBd} {g : Nat → Nat} {st k n d : Nat} (h : d = rdD B g st k) (hk : k ≤ n) (h0 : k = n ∨ d = 0) : d = rdD B g st n := by
  rcases h0 with rfl | rfl
  · exact h
  · have := rdD_0 h.symm (n - k)
    rw [show k + (n - k) = n by omega] at this
    exact this.symm
theorem rdD_asg {B : kBd} {g : Nat → Nat} {st k d : Nat} (h : d = rdD B g st k) (h0 : d ≠ 0) : asgOf B st ≠ 0 := by
  intro z
  have h1 : rdD B g st 0 = 0 := if_pos z
  have := rdD_0 h1 k
  rw [Nat.zero_add] at this
  omega
/-- what a story needs, one up -/
def ndV (B : kBd) (g : Nat → Nat) (st : Nat) : Nat := if B.1 1 st = 0 then 1 else if rdD B g st (B.2 0) = 0 then 0 else rdD B g st (B.2 0) + (B.1 1 st + B.1 3 (asgOf B st - 1) - 1) / B.1 3 (asgOf B st - 1)
def neN (B : kBd) (g : Nat → Nat) : Nat → Nat → Nat
  | 0 => g
  | n + 1 => va_up (neN B g n) (frd B (cmN B n) - 1) (ndV B (neN B g n) (frd B (cmN B n) - 1))
theorem neN_s {B : kBd} {g g0 : Nat → Nat} {n st came v : Nat} (h : g = neN B g0 n) (hc : came = cmN B n) (hs : st + 1 = frd B came) (hv : v = ndV B g st) : va_up g st v = neN B g0 (n + 1) := by
  subst h; subst hc; subst hv
  show _ = va_up (neN B g0 n) (frd B (cmN B n) - 1) (ndV B (neN B g0 n) (frd B (cmN B n) - 1))
  rw [← hs, Nat.add_sub_cancel]
theorem neN_b {g : Nat → Nat} {c st v b : Nat} (h : ∀ k, c.testBit k = true → g k ≤ b) (hv : v ≤ b + 20) : ∀ k, (c ||| 2 ^ st).testBit k = true → va_up g st v k ≤ b + 20 := by
  intro k hk
  show (if k = st then v else g k) ≤ b + 20
  by_cases e : k = st
  · rw [if_pos e]; exact hv
  · rw [if_neg e]
    rw [Nat.testBit_or, Nat.testBit_two_pow_of_ne (fun z => e z.symm), Bool.or_false] at hk
    have := h k hk; omega
theorem dv16 {a s : Nat} (ha : a ≤ 13) (h1 : 1 ≤ s) (h4 : s ≤ 4) : (a + s - 1) / s ≤ 16 := Nat.le_trans (Nat.div_le_self _ _) (by omega)
def ndW (M : kMs) (g : Nat → Nat) : kMs := (M.1, va_up M.2 7 (fun k => nI (g k) - 1))
theorem ndW_0 {M : kMs} {f : Nat → Nat} (h : M.2 7 = fun k => nI (f k) - 1) : ndW M f = M := by
  unfold ndW
  refine Prod.ext rfl (funext fun r => ?_)
  show va_up M.2 7 _ r = M.2 r
  simp only [va_up]
  split
  · rename_i e; rw [e, h]
  · rfl
theorem ndW_s {M : kMs} {f : Nat → Nat} {j v : Nat} {x : Int32} (hx : x = nI v - 1) : gPut (ndW M f) 7 j x = ndW M (va_up f j v) := by
  unfold gPut ndW
  refine Prod.ext rfl (funext fun r => ?_)
  show va_up (va_up M.2 7 (fun k => nI (f k) - 1)) 7 (upd (fun k => nI (f k) - 1) j x) r = va_up M.2 7 (fun k => nI (va_up f j v k) - 1) r
  simp only [va_up]
  by_cases h : r = 7
  · rw [if_pos h, if_pos h, hx]
    funext k
    simp only [upd]
    split <;> rfl
  · rw [if_neg h, if_neg h, if_neg h]
/-- speeds are 1 to 4 -/
def bW (B : kBd) : Prop := ∀ d, d < B.2 1 → 1 ≤ B.1 3 d ∧ B.1 3 d ≤ 4
theorem asg_there {B : kBd} {k : Nat} (hv : bV B) (h : asgOf B k ≠ 0) : asgOf B k - 1 < B.2 1 := by
  rcases Nat.lt_or_ge (asgOf B k - 1) (B.2 1) with h1 | h1
  · exact h1
  · have h2 := hv _ h1
    have h3 := (asgOf_is h).2
    omega
/-- there is a next story as long as stories are left -/
def bR (B : kBd) : Prop := ∀ n, n < B.2 0 → frd B (cmN B n) ≠ 0
theorem n_mostA {a b : Nat} (ha : a < 1073741824) (hb : b < 1073741824) : (if (nI b - 1 : Int32).toInt < (nI a - 1 : Int32).toInt then nI a - 1 else nI b - 1) = nI (max a b) - 1 := by
  rw [tA (n := a) (by omega), tA (n := b) (by omega)]
  by_cases h : ((b : Int) - 1) < a - 1
  · rw [if_pos h, Nat.max_eq_left (by omega)]
  · rw [if_neg h, Nat.max_eq_right (by omega)]
set_option maxHeartbeats 4000000 in
set_option maxRecDepth 100000 in
/-- storyInOrder(x) -/
theorem met_X4_storyInOrder (l : Launch) (V : kEnv) (M : kMs) (B : kBd) (hg : M.2 0 = gOf B) (hI : bI B) (x : Int32) (hR : bR B) : kI l yX4_storyInOrder cX4_storyInOrder 5 (some .int) { frames := 2, cells := 0, slots := 0, locals := 43 } V (mWs V) [.ref (eX V 500), .int (x)] (M) (fun r u => (∃ k, k < B.2 0 ∧ x = nI k ∧ r = nI (frd B (cmN B k) - 1) ∧ u = nPut M 3 (nI 0)) ∨ (inS (B.2 0) x = false ∧ r = nI 0 ∧ u = nPut M 3 (nI 1))) 0 0 := by
  refine kI_of (by decide +kernel) (Nat.le_of_ble_eq_true rfl) ?_
  intro pg e s m args below meth c G hret hlocks hC hB h ls hl Q hQ
  have hl : lv_has ls 5 [(0, .ref (eX V 500)), (1, .int (x))] := hl
  have hx := G.1
  have hcd := G.2.1
  have hI0 := hI
  obtain ⟨hz, hbn, hn, hm, h3, h54, h4, h7, hr, he, ha, hact, h5⟩ := hI
  refine lv_aload_n hx hcd dX4_storyInOrder_0 rfl (lv_at hl 0 rfl) ?_
  refine lv_aload_n hx hcd dX4_storyInOrder_1 rfl (lv_at hl 0 rfl) ?_
  refine lv_iload_n hx hcd dX4_storyInOrder_2 rfl (lv_at hl 1 rfl) ?_
  refine k_Vi (As := [.int (x)]) (rest := [.ref (eX V 500)]) (b := eX V 500) G hC hB h (met_X4_isStory l V M B hg hI0 x) mw_1564 kv_X4_isStory ⟨rfl, rfl⟩ ⟨Nat.le_of_ble_eq_true rfl, Nat.le_of_ble_eq_true rfl⟩ (r_mV hC h) rfl rfl hl.1 (Nat.le_of_ble_eq_true rfl) dX4_storyInOrder_3 ⟨Nat.le_of_ble_eq_true rfl, Nat.le_of_ble_eq_true rfl⟩ (fun r u H locs hp h => ?_)
  obtain ⟨hr9, hu9⟩ := hp
  rw [hu9] at h
  rcases bsp (inS (B.2 0) x) with c9 | c9
  · skip
    obtain rfl : r = nI 1 := (hr9.trans ((congrArg bz c9).trans (by decide)))
    obtain ⟨k, hk, rfl⟩ := inS_ex (by omega) c9
    refine lv_if_eq (tgt := 13) hx hcd dX4_storyInOrder_6 (by decide) (fun c_1 => absurd c_1 (by decide)) (fun _ => ?_)
    refine lv_iconst (v := nI 0) hx hcd dX4_storyInOrder_9 (by decide) ?_
    refine lv_goto (tgt := 14) hx hcd dX4_storyInOrder_10 (by decide) ?_
    refine k_Vi (As := [.int (nI 0)]) (rest := []) (b := eX V 500) G hC hB h (met_X4_fails l V M (nI 0)) mw_1545 kv_X4_fails ⟨rfl, rfl⟩ ⟨Nat.le_of_ble_eq_true rfl, Nat.le_of_ble_eq_true rfl⟩ (r_mV hC h) rfl rfl hl.1 (Nat.le_of_ble_eq_true rfl) dX4_storyInOrder_14 ⟨Nat.le_of_ble_eq_true rfl, Nat.le_of_ble_eq_true rfl⟩ (fun r u H locs hp h => ?_)
    obtain ⟨hr9, hu9⟩ := hp
    obtain rfl : r = nI 0 := (hr9.trans (by decide))
    rw [hu9] at h
    refine lv_if_eq (tgt := 22) hx hcd dX4_storyInOrder_17 (by decide) (fun _ => ?_) (fun c_2 => absurd c_2 (by decide))
    refine lv_iconst (v := nI 0) hx hcd dX4_storyInOrder_22 (by decide) ?_
    refine lv_istore_n (lv' := [(2, .int (nI 0)), (0, .ref (eX V 500)), (1, .int (nI (k)))]) hx hcd dX4_storyInOrder_23 rfl hl (by decide) rfl (fun ls hl => ?_)
    refine lv_iconst (v := nI 0) hx hcd dX4_storyInOrder_24 (by decide) ?_
    refine lv_istore_n (lv' := [(3, .int (nI 0)), (2, .int (nI 0)), (0, .ref (eX V 500)), (1, .int (nI (k)))]) hx hcd dX4_storyInOrder_25 rfl hl (by decide) rfl (fun ls hl => ?_)
    refine lv_iconst (v := nI 0) hx hcd dX4_storyInOrder_26 (by decide) ?_
    refine lv_istore (lv' := [(4, .int (nI 0)), (3, .int (nI 0)), (2, .int (nI 0)), (0, .ref (eX V 500)), (1, .int (nI (k)))]) hx hcd dX4_storyInOrder_27 hl (by decide) rfl (fun ls hl => ?_)
    have L_3 : ∀ (fu_5 : Nat) (n9 : Nat) (came : Nat) (s9 : Nat) (hn9 : n9 ≤ k + 1) (hcm : came = cmN B n9) (hcb : came < 65536) (hs9 : n9 = 0 ∨ s9 + 1 = frd B (cmN B (n9 - 1))), k + 1 - n9 < fu_5 → ∀ (H : Heap) (locs : List Loc), cH V s H locs (mWs V (nPut M 3 (nI 0))) → ∀ ls : Array Slot, lv_has ls 5 [(4, .int (nI (n9))), (3, .int (nI (s9))), (2, .int (nI (came))), (1, .int (nI (k))), (0, .ref (eX V 500))] → W pg l e { frames := 2, cells := 0, slots := 0, locals := 43 } s m args below meth c H locs 0 0 Q (F0 m 29 ls []) := by
      intro fu_5
      induction fu_5 with
      | zero => intro n9 came s9 hn9 hcm hcb hs9 hmz; exact absurd hmz (Nat.not_lt_zero _)
      | succ fu_5 ih_4 =>
        intro n9 came s9 hn9 hcm hcb hs9 hmz H locs h ls hl
        refine lv_iload hx hcd dX4_storyInOrder_29 (lv_at hl 0 rfl) ?_
        refine lv_iload_n hx hcd dX4_storyInOrder_31 rfl (lv_at hl 3 rfl) ?_
        refine lv_icmp_gt (tgt := 77) hx hcd dX4_storyInOrder_32 (by decide) (fun c_6 => ?_) (fun c_6 => ?_)
        · have c_6 := cLt (tN (n := k) (by omega)) (tN (n := n9) (by omega)) c_6
          refine lv_iload_n hx hcd dX4_storyInOrder_77 rfl (lv_at hl 1 rfl) ?_
          exact k_reti hQ G hret hlocks h (Or.inl ⟨k, hk, rfl, by rw [show s9 = frd B (cmN B (n9 - 1)) - 1 by omega, show n9 - 1 = k by omega], rfl⟩) (Nat.le_of_ble_eq_true rfl) (Nat.le_of_ble_eq_true rfl) dX4_storyInOrder_78
        · have c_6 := cNlt (tN (n := k) (by omega)) (tN (n := n9) (by omega)) c_6
          have hrn := hR n9 (by omega)
          rw [← hcm] at hrn
          refine lv_iconst (v := nI 0) hx hcd dX4_storyInOrder_35 (by decide) ?_
          refine lv_istore_n (lv' := [(3, .int (nI 0)), (4, .int (nI (n9))), (2, .int (nI (came))), (1, .int (nI (k))), (0, .ref (eX V 500))]) hx hcd dX4_storyInOrder_36 rfl hl (by decide) rfl (fun ls hl => ?_)
          have L_7 : ∀ (fu_9 : Nat) (st9 : Nat) (hst : st9 < frd B came), 17 - st9 < fu_9 → ∀ (H : Heap) (locs : List Loc), cH V s H locs (mWs V (nPut M 3 (nI 0))) → ∀ ls : Array Slot, lv_has ls 5 [(3, .int (nI (st9))), (4, .int (nI (n9))), (2, .int (nI (came))), (1, .int (nI (k))), (0, .ref (eX V 500))] → W pg l e { frames := 2, cells := 0, slots := 0, locals := 43 } s m args below meth c H locs 0 0 Q (F0 m 37 ls []) := by
            intro fu_9
            induction fu_9 with
            | zero => intro st9 hst hmz; exact absurd hmz (Nat.not_lt_zero _)
            | succ fu_9 ih_8 =>
              intro st9 hst hmz H locs h ls hl
              have hfl := frd_le B came
              refine lv_iload_n hx hcd dX4_storyInOrder_37 rfl (lv_at hl 2 rfl) ?_
              refine lv_iload_n hx hcd dX4_storyInOrder_38 rfl (lv_at hl 0 rfl) ?_
              refine w_ishr (v := nI (came / 2 ^ st9)) hx hcd dX4_storyInOrder_39 (n_shr (by omega) (by omega)) ?_
              refine lv_iconst (v := nI 1) hx hcd dX4_storyInOrder_40 (by decide) ?_
              refine w_iand (v := nI ((came / 2 ^ st9) % 2)) hx hcd dX4_storyInOrder_41 (n_and1' _) ?_
              refine lv_iconst (v := nI 1) hx hcd dX4_storyInOrder_42 (by decide) ?_
              refine lv_icmp_eq (tgt := 59) hx hcd dX4_storyInOrder_43 (by decide) (fun c_12 => ?_) (fun c_12 => ?_)
              · have c_12 := cEq (tN (n := (came / 2 ^ st9) % 2) (by omega)) (tN (n := 1) (by decide)) c_12
                refine lv_iinc (v := nI (st9 + 1)) (lv' := [(3, .int (nI (st9 + 1))), (4, .int (nI (n9))), (2, .int (nI (came))), (1, .int (nI (k))), (0, .ref (eX V 500))]) hx hcd dX4_storyInOrder_59 hl (k := 0) rfl (by exact nI_add (st9) 1) (by decide) rfl (fun ls hl => ?_)
                refine lv_goto (tgt := 37) hx hcd dX4_storyInOrder_62 (by decide) ?_
                exact ih_8 (st9 + 1) (frd_go hst (fun z => by first | exact Bool.noConfusion (z.1.symm.trans (tb_t (by omega))) | exact absurd z.2 (by omega))) (by omega) _ _ h _ (lv_sub hl [0, 1, 2, 3, 4] rfl)
              · have c_12 := cNe (tN (n := (came / 2 ^ st9) % 2) (by omega)) (tN (n := 1) (by decide)) c_12
                refine lv_aload_n hx hcd dX4_storyInOrder_46 rfl (lv_at hl 4 rfl) ?_
                refine lv_iload_n hx hcd dX4_storyInOrder_47 rfl (lv_at hl 0 rfl) ?_
                refine lv_iconst (v := nI 4) hx hcd dX4_storyInOrder_48 (by decide) ?_
                refine k_Vi (As := [.int (nI (st9)), .int (nI 4)]) (rest := []) (b := eX V 500) G hC hB h (met_X4_of l V (nPut M 3 (nI 0)) st9 4 (by omega) (by decide)) mw_1572 kv_X4_of ⟨rfl, rfl⟩ ⟨Nat.le_of_ble_eq_true rfl, Nat.le_of_ble_eq_true rfl⟩ (r_mV hC h) rfl rfl hl.1 (Nat.le_of_ble_eq_true rfl) dX4_storyInOrder_49 ⟨Nat.le_of_ble_eq_true rfl, Nat.le_of_ble_eq_true rfl⟩ (fun r u H locs hp h => ?_)
                obtain ⟨hr9, hu9⟩ := hp
                obtain rfl : r = nI (B.1 2 st9) := (hr9.trans (gOf_s hg hn (k := st9) (w := 4) (by omega) (by decide)))
                rw [hu9] at h
                have q_13 := hz.1 2 st9
                refine lv_iload_n hx hcd dX4_storyInOrder_52 rfl (lv_at hl 2 rfl) ?_
                refine lv_iconst (v := -1) hx hcd dX4_storyInOrder_53 (by decide) ?_
                refine w_ixor (v := nI (came) ^^^ (-1)) hx hcd dX4_storyInOrder_54 rfl ?_
                refine w_iand (v := nI (andn (B.1 2 st9) came)) hx hcd dX4_storyInOrder_55 (n_andn (by first | omega | exact p16 (by omega) | assumption) (by first | omega | exact p16 (by omega) | assumption)) ?_
                have q_14 : andn (B.1 2 st9) came < 65536 := andn_lt (by first | omega | exact p16 (by omega) | assumption)
                refine lv_if_eq (tgt := 65) hx hcd dX4_storyInOrder_56 (by decide) (fun c_15 => ?_) (fun c_15 => ?_)
                · have c_15 := cEq (tN (n := andn (B.1 2 st9) came) (by omega)) t0 c_15
                  have hfs : st9 + 1 = frd B came := frd_st hst (tb_f (by omega)) (by omega)
                  refine lv_iload_n hx hcd dX4_storyInOrder_65 rfl (lv_at hl 2 rfl) ?_
                  refine lv_iconst (v := nI 1) hx hcd dX4_storyInOrder_66 (by decide) ?_
                  refine lv_iload_n hx hcd dX4_storyInOrder_67 rfl (lv_at hl 0 rfl) ?_
                  refine w_ishl (v := nI (2 ^ st9)) hx hcd dX4_storyInOrder_68 (n_shl1 (by omega)) ?_
                  refine w_ior (v := nI (came ||| (2 ^ st9))) hx hcd dX4_storyInOrder_69 (n_or _ _) ?_
                  have q_17 : came ||| (2 ^ st9) < 65536 := or16 (by first | omega | exact p16 (by omega) | assumption) (by first | omega | exact p16 (by omega) | assumption)
                  refine lv_istore_n (lv' := [(2, .int (nI (came ||| (2 ^ st9)))), (3, .int (nI (st9))), (4, .int (nI (n9))), (1, .int (nI (k))), (0, .ref (eX V 500))]) hx hcd dX4_storyInOrder_70 rfl hl (by decide) rfl (fun ls hl => ?_)
                  refine lv_iinc (v := nI (n9 + 1)) (lv' := [(4, .int (nI (n9 + 1))), (2, .int (nI (came ||| (2 ^ st9)))), (3, .int (nI (st9))), (1, .int (nI (k))), (0, .ref (eX V 500))]) hx hcd dX4_storyInOrder_71 hl (k := 2) rfl (by exact nI_add (n9) 1) (by decide) rfl (fun ls hl => ?_)
                  refine lv_goto (tgt := 29) hx hcd dX4_storyInOrder_74 (by decide) ?_
                  exact ih_4 (n9 + 1) (came ||| 2 ^ st9) st9 (by omega) (by rw [show st9 = frd B came - 1 by omega, hcm]; rfl) (or16 hcb (p16 (by omega))) (Or.inr (by rw [Nat.add_sub_cancel, ← hcm]; exact hfs)) (by omega) _ _ h _ (lv_sub hl [0, 2, 1, 3, 4] rfl)
                · have c_15 := cNe (tN (n := andn (B.1 2 st9) came) (by omega)) t0 c_15
                  refine lv_iinc (v := nI (st9 + 1)) (lv' := [(3, .int (nI (st9 + 1))), (4, .int (nI (n9))), (2, .int (nI (came))), (1, .int (nI (k))), (0, .ref (eX V 500))]) hx hcd dX4_storyInOrder_59 hl (k := 0) rfl (by exact nI_add (st9) 1) (by decide) rfl (fun ls hl => ?_)
                  refine lv_goto (tgt := 37) hx hcd dX4_storyInOrder_62 (by decide) ?_
                  exact ih_8 (st9 + 1) (frd_go hst (fun z => by first | exact Bool.noConfusion (z.1.symm.trans (tb_t (by omega))) | exact absurd z.2 (by omega))) (by omega) _ _ h _ (lv_sub hl [0, 1, 2, 3, 4] rfl)
          exact L_7 (17 + 1) 0 (Nat.pos_of_ne_zero hrn) (by omega) _ _ h _ (lv_sub hl [0, 1, 2, 3, 4] rfl)
    exact L_3 (k + 1 + 1) 0 0 0 (Nat.zero_le _) rfl (by decide) (Or.inl rfl) (by omega) _ _ h _ (lv_sub hl [0, 1, 2, 4, 3] rfl)
  · skip
    obtain rfl : r = nI 0 := (hr9.trans ((congrArg bz c9).trans (by decide)))
    refine lv_if_eq (tgt := 13) hx hcd dX4_storyInOrder_6 (by decide) (fun _ => ?_) (fun c_18 => absurd c_18 (by decide))
    refine lv_iconst (v := nI 1) hx hcd dX4_storyInOrder_13 (by decide) ?_
    refine k_Vi (As := [.int (nI 1)]) (rest := []) (b := eX V 500) G hC hB h (met_X4_fails l V M (nI 1)) mw_1545 kv_X4_fails ⟨rfl, rfl⟩ ⟨Nat.le_of_ble_eq_true rfl, Nat.le_of_ble_eq_true rfl⟩ (r_mV hC h) rfl rfl hl.1 (Nat.le_of_ble_eq_true rfl) dX4_storyInOrder_14 ⟨Nat.le_of_ble_eq_true rfl, Nat.le_of_ble_eq_true rfl⟩ (fun r u H locs hp h => ?_)
    obtain ⟨hr9, hu9⟩ := hp
    obtain rfl : r = nI 1 := (hr9.trans (by decide))
    rw [hu9] at h
    refine lv_if_eq (tgt := 22) hx hcd dX4_storyInOrder_17 (by decide) (fun c_19 => absurd c_19 (by decide)) (fun _ => ?_)
    refine lv_iconst (v := nI 0) hx hcd dX4_storyInOrder_20 (by decide) ?_
    exact k_reti hQ G hret hlocks h (Or.inr ⟨c9, rfl, rfl⟩) (Nat.le_of_ble_eq_true rfl) (Nat.le_of_ble_eq_true rfl) dX4_storyInOrder_21
set_option maxHeartbeats 4000000 in
set_option maxRecDepth 100000 in
/-- needs() -/
theorem met_X4_needs (l : Launch) (V : kEnv) (M : kMs) (B : kBd) (hg : M.2 0 = gOf B) (hI : bI B) (g0 : Nat → Nat) (hg0 : M.2 7 = fun k => nI (g0 k) - 1) (hR : bR B) (hv : bV B) (hw9 : bW B) : kU l yX4_needs cX4_needs 6 { frames := 2, cells := 0, slots := 0, locals := 44 } V (mWs V) [.ref (eX V 500)] (M) (fun u => u = ndW M (neN B g0 (B.2 0))) 0 0 := by
  refine kU_of (by decide +kernel) (Nat.le_of_ble_eq_true rfl) ?_
  intro pg e s m args below meth c G hret hlocks hC hB h ls hl Q hQ
  have hl : lv_has ls 6 [(0, .ref (eX V 500))] := hl
  have hx := G.1
  have hcd := G.2.1
  have hI0 := hI
  obtain ⟨hz, hbn, hn, hm, h3, h54, h4, h7, hr, he, ha, hact, h5⟩ := hI
  refine lv_iconst (v := nI 0) hx hcd dX4_needs_0 (by decide) ?_
  refine lv_istore_n (lv' := [(1, .int (nI 0)), (0, .ref (eX V 500))]) hx hcd dX4_needs_1 rfl hl (by decide) rfl (fun ls hl => ?_)
  refine lv_iconst (v := nI 0) hx hcd dX4_needs_2 (by decide) ?_
  refine lv_istore_n (lv' := [(2, .int (nI 0)), (1, .int (nI 0)), (0, .ref (eX V 500))]) hx hcd dX4_needs_3 rfl hl (by decide) rfl (fun ls hl => ?_)
  have L_1 : ∀ (fu_3 : Nat) (n9 : Nat) (came : Nat) (nd : Nat → Nat) (hn9 : n9 ≤ B.2 0) (hcm : came = cmN B n9) (hcb : came < 65536) (hnd : nd = neN B g0 n9) (hnb : ∀ k, came.testBit k = true → nd k ≤ 1 + 20 * n9), B.2 0 - n9 < fu_3 → ∀ (H : Heap) (locs : List Loc), cH V s H locs (mWs V (ndW M nd)) → ∀ ls : Array Slot, lv_has ls 6 [(2, .int (nI (n9))), (1, .int (nI (came))), (0, .ref (eX V 500))] → W pg l e { frames := 2, cells := 0, slots := 0, locals := 44 } s m args below meth c H locs 0 0 Q (F0 m 4 ls []) := by
    intro fu_3
    induction fu_3 with
    | zero => intro n9 came nd hn9 hcm hcb hnd hnb hmz; exact absurd hmz (Nat.not_lt_zero _)
    | succ fu_3 ih_2 =>
      intro n9 came nd hn9 hcm hcb hnd hnb hmz H locs h ls hl
      refine lv_iload_n hx hcd dX4_needs_4 rfl (lv_at hl 0 rfl) ?_
      refine lv_aload_n hx hcd dX4_needs_5 rfl (lv_at hl 2 rfl) ?_
      refine r_mA G hC h 0 (by decide) mw_1472 dX4_needs_6 ?_
      refine lv_iconst (v := nI 0) hx hcd dX4_needs_9 (by decide) ?_
      refine r_mL G hC h 0 (0) (by decide) (by decide) rfl (show 0 < 115 by omega) (x := nI (B.2 0)) (gOf_n hg (f := 0) (by decide)) dX4_needs_10 ?_
      have q_4 := hz.2 0
      refine lv_icmp_ge (tgt := 197) hx hcd dX4_needs_11 (by decide) (fun c_5 => ?_) (fun c_5 => ?_)
      · have c_5 := cLe (tN (n := B.2 0) (by omega)) (tN (n := n9) (by omega)) c_5
        exact k_retv hQ G hret hlocks h (by rw [hnd, show n9 = B.2 0 by omega]) (Nat.le_of_ble_eq_true rfl) (Nat.le_of_ble_eq_true rfl) dX4_needs_197
      · have c_5 := cNle (tN (n := B.2 0) (by omega)) (tN (n := n9) (by omega)) c_5
        have hrn := hR n9 (by omega)
        rw [← hcm] at hrn
        refine lv_iconst (v := nI 0) hx hcd dX4_needs_14 (by decide) ?_
        refine lv_istore_n (lv' := [(3, .int (nI 0)), (2, .int (nI (n9))), (1, .int (nI (came))), (0, .ref (eX V 500))]) hx hcd dX4_needs_15 rfl hl (by decide) rfl (fun ls hl => ?_)
        have L_6 : ∀ (fu_8 : Nat) (st9 : Nat) (hst : st9 < frd B came), 17 - st9 < fu_8 → ∀ (H : Heap) (locs : List Loc), cH V s H locs (mWs V (ndW M nd)) → ∀ ls : Array Slot, lv_has ls 6 [(3, .int (nI (st9))), (2, .int (nI (n9))), (1, .int (nI (came))), (0, .ref (eX V 500))] → W pg l e { frames := 2, cells := 0, slots := 0, locals := 44 } s m args below meth c H locs 0 0 Q (F0 m 16 ls []) := by
          intro fu_8
          induction fu_8 with
          | zero => intro st9 hst hmz; exact absurd hmz (Nat.not_lt_zero _)
          | succ fu_8 ih_7 =>
            intro st9 hst hmz H locs h ls hl
            have hfl := frd_le B came
            refine lv_iload_n hx hcd dX4_needs_16 rfl (lv_at hl 2 rfl) ?_
            refine lv_iload_n hx hcd dX4_needs_17 rfl (lv_at hl 0 rfl) ?_
            refine w_ishr (v := nI (came / 2 ^ st9)) hx hcd dX4_needs_18 (n_shr (by omega) (by omega)) ?_
            refine lv_iconst (v := nI 1) hx hcd dX4_needs_19 (by decide) ?_
            refine w_iand (v := nI ((came / 2 ^ st9) % 2)) hx hcd dX4_needs_20 (n_and1' _) ?_
            refine lv_iconst (v := nI 1) hx hcd dX4_needs_21 (by decide) ?_
            refine lv_icmp_eq (tgt := 38) hx hcd dX4_needs_22 (by decide) (fun c_11 => ?_) (fun c_11 => ?_)
            · have c_11 := cEq (tN (n := (came / 2 ^ st9) % 2) (by omega)) (tN (n := 1) (by decide)) c_11
              refine lv_iinc (v := nI (st9 + 1)) (lv' := [(3, .int (nI (st9 + 1))), (2, .int (nI (n9))), (1, .int (nI (came))), (0, .ref (eX V 500))]) hx hcd dX4_needs_38 hl (k := 0) rfl (by exact nI_add (st9) 1) (by decide) rfl (fun ls hl => ?_)
              refine lv_goto (tgt := 16) hx hcd dX4_needs_41 (by decide) ?_
              exact ih_7 (st9 + 1) (frd_go hst (fun z => by first | exact Bool.noConfusion (z.1.symm.trans (tb_t (by omega))) | exact absurd z.2 (by omega))) (by omega) _ _ h _ (lv_sub hl [0, 1, 2, 3] rfl)
            · have c_11 := cNe (tN (n := (came / 2 ^ st9) % 2) (by omega)) (tN (n := 1) (by decide)) c_11
              refine lv_aload_n hx hcd dX4_needs_25 rfl (lv_at hl 3 rfl) ?_
              refine lv_iload_n hx hcd dX4_needs_26 rfl (lv_at hl 0 rfl) ?_
              refine lv_iconst (v := nI 4) hx hcd dX4_needs_27 (by decide) ?_
              refine k_Vi (As := [.int (nI (st9)), .int (nI 4)]) (rest := []) (b := eX V 500) G hC hB h (met_X4_of l V (ndW M nd) st9 4 (by omega) (by decide)) mw_1572 kv_X4_of ⟨rfl, rfl⟩ ⟨Nat.le_of_ble_eq_true rfl, Nat.le_of_ble_eq_true rfl⟩ (r_mV hC h) rfl rfl hl.1 (Nat.le_of_ble_eq_true rfl) dX4_needs_28 ⟨Nat.le_of_ble_eq_true rfl, Nat.le_of_ble_eq_true rfl⟩ (fun r u H locs hp h => ?_)
              obtain ⟨hr9, hu9⟩ := hp
              obtain rfl : r = nI (B.1 2 st9) := (hr9.trans (gOf_s hg hn (k := st9) (w := 4) (by omega) (by decide)))
              rw [hu9] at h
              have q_12 := hz.1 2 st9
              refine lv_iload_n hx hcd dX4_needs_31 rfl (lv_at hl 2 rfl) ?_
              refine lv_iconst (v := -1) hx hcd dX4_needs_32 (by decide) ?_
              refine w_ixor (v := nI (came) ^^^ (-1)) hx hcd dX4_needs_33 rfl ?_
              refine w_iand (v := nI (andn (B.1 2 st9) came)) hx hcd dX4_needs_34 (n_andn (by first | omega | exact p16 (by omega) | assumption) (by first | omega | exact p16 (by omega) | assumption)) ?_
              have q_13 : andn (B.1 2 st9) came < 65536 := andn_lt (by first | omega | exact p16 (by omega) | assumption)
              refine lv_if_eq (tgt := 44) hx hcd dX4_needs_35 (by decide) (fun c_14 => ?_) (fun c_14 => ?_)
              · have c_14 := cEq (tN (n := andn (B.1 2 st9) came) (by omega)) t0 c_14
                have hfs : st9 + 1 = frd B came := frd_st hst (tb_f (by omega)) (by omega)
                have han : andn (B.1 2 st9) came = 0 := by omega
                refine lv_iload_n hx hcd dX4_needs_44 rfl (lv_at hl 2 rfl) ?_
                refine lv_iconst (v := nI 1) hx hcd dX4_needs_45 (by decide) ?_
                refine lv_iload_n hx hcd dX4_needs_46 rfl (lv_at hl 0 rfl) ?_
                refine w_ishl (v := nI (2 ^ st9)) hx hcd dX4_needs_47 (n_shl1 (by omega)) ?_
                refine w_ior (v := nI (came ||| (2 ^ st9))) hx hcd dX4_needs_48 (n_or _ _) ?_
                have q_16 : came ||| (2 ^ st9) < 65536 := or16 (by first | omega | exact p16 (by omega) | assumption) (by first | omega | exact p16 (by omega) | assumption)
                refine lv_istore_n (lv' := [(1, .int (nI (came ||| (2 ^ st9)))), (3, .int (nI (st9))), (2, .int (nI (n9))), (0, .ref (eX V 500))]) hx hcd dX4_needs_49 rfl hl (by decide) rfl (fun ls hl => ?_)
                refine lv_aload_n hx hcd dX4_needs_50 rfl (lv_at hl 3 rfl) ?_
                refine lv_iload_n hx hcd dX4_needs_51 rfl (lv_at hl 1 rfl) ?_
                refine lv_iconst (v := nI 3) hx hcd dX4_needs_52 (by decide) ?_
                refine k_Vi (As := [.int (nI (st9)), .int (nI 3)]) (rest := []) (b := eX V 500) G hC hB h (met_X4_of l V (ndW M nd) st9 3 (by omega) (by decide)) mw_1572 kv_X4_of ⟨rfl, rfl⟩ ⟨Nat.le_of_ble_eq_true rfl, Nat.le_of_ble_eq_true rfl⟩ (r_mV hC h) rfl rfl hl.1 (Nat.le_of_ble_eq_true rfl) dX4_needs_53 ⟨Nat.le_of_ble_eq_true rfl, Nat.le_of_ble_eq_true rfl⟩ (fun r u H locs hp h => ?_)
                obtain ⟨hr9, hu9⟩ := hp
                obtain rfl : r = nI (asgOf B st9) - 1 := (hr9.trans (gOf_s hg hn (k := st9) (w := 3) (by omega) (by decide)))
                rw [hu9] at h
                have q_17 := asgOf_le B st9
                refine lv_if_ge (tgt := 63) hx hcd dX4_needs_56 (by decide) (fun c_18 => ?_) (fun c_18 => ?_)
                · have c_18 := cLe t0 (tA (n := asgOf B st9) (by omega)) c_18
                  refine lv_iconst (v := nI 0) hx hcd dX4_needs_63 (by decide) ?_
                  refine lv_istore (lv' := [(4, .int (nI 0)), (1, .int (nI (came ||| (2 ^ st9)))), (3, .int (nI (st9))), (2, .int (nI (n9))), (0, .ref (eX V 500))]) hx hcd dX4_needs_64 hl (by decide) rfl (fun ls hl => ?_)
                  rw [show nI 0 = nI 1 - 1 from aOf.symm] at hl
                  have hd0 : 1 = rdD B nd st9 0 := (if_neg (show ¬ asgOf B st9 = 0 by omega)).symm
                  refine lv_iconst (v := nI 0) hx hcd dX4_needs_66 (by decide) ?_
                  refine lv_istore (lv' := [(5, .int (nI 0)), (4, .int (nI (1) - 1)), (1, .int (nI (came ||| (2 ^ st9)))), (3, .int (nI (st9))), (2, .int (nI (n9))), (0, .ref (eX V 500))]) hx hcd dX4_needs_67 hl (by decide) rfl (fun ls hl => ?_)
                  have L_19 : ∀ (fu_21 : Nat) (k9 : Nat) (d9 : Nat) (hk9 : k9 ≤ B.2 0) (hd9 : d9 = rdD B nd st9 k9) (hdb : d9 ≤ 1 + 20 * n9), B.2 0 - k9 < fu_21 → ∀ (H : Heap) (locs : List Loc), cH V s H locs (mWs V (ndW M nd)) → ∀ ls : Array Slot, lv_has ls 6 [(5, .int (nI (k9))), (4, .int (nI (d9) - 1)), (3, .int (nI (st9))), (2, .int (nI (n9))), (1, .int (nI (came ||| (2 ^ st9)))), (0, .ref (eX V 500))] → W pg l e { frames := 2, cells := 0, slots := 0, locals := 44 } s m args below meth c H locs 0 0 Q (F0 m 69 ls []) := by
                    intro fu_21
                    induction fu_21 with
                    | zero => intro k9 d9 hk9 hd9 hdb hmz; exact absurd hmz (Nat.not_lt_zero _)
                    | succ fu_21 ih_20 =>
                      intro k9 d9 hk9 hd9 hdb hmz H locs h ls hl
                      refine lv_iload hx hcd dX4_needs_69 (lv_at hl 0 rfl) ?_
                      refine lv_aload_n hx hcd dX4_needs_71 rfl (lv_at hl 5 rfl) ?_
                      refine r_mA G hC h 0 (by decide) mw_1472 dX4_needs_72 ?_
                      refine lv_iconst (v := nI 0) hx hcd dX4_needs_75 (by decide) ?_
                      refine r_mL G hC h 0 (0) (by decide) (by decide) rfl (show 0 < 115 by omega) (x := nI (B.2 0)) (gOf_n hg (f := 0) (by decide)) dX4_needs_76 ?_
                      have q_22 := hz.2 0
                      refine lv_icmp_ge (tgt := 129) hx hcd dX4_needs_77 (by decide) (fun c_23 => ?_) (fun c_23 => ?_)
                      · have c_23 := cLe (tN (n := B.2 0) (by omega)) (tN (n := k9) (by omega)) c_23
                        have hdd : d9 = rdD B nd st9 (B.2 0) := rdD_end hd9 hk9 (by omega)
                        refine lv_iload hx hcd dX4_needs_129 (lv_at hl 1 rfl) ?_
                        refine lv_if_lt (tgt := 171) hx hcd dX4_needs_131 (by decide) (fun c_24 => ?_) (fun c_24 => ?_)
                        · have c_24 := cLt (tA (n := d9) (by omega)) t0 c_24
                          refine lv_aload_n hx hcd dX4_needs_171 rfl (lv_at hl 5 rfl) ?_
                          refine r_mA G hC h 7 (by decide) mw_1487 dX4_needs_172 ?_
                          refine lv_iload_n hx hcd dX4_needs_175 rfl (lv_at hl 2 rfl) ?_
                          refine lv_aload_n hx hcd dX4_needs_176 rfl (lv_at hl 5 rfl) ?_
                          refine lv_iload_n hx hcd dX4_needs_177 rfl (lv_at hl 2 rfl) ?_
                          refine k_Vi (As := [.int (nI (st9))]) (rest := [.int (nI (st9)), .ref (eX V (501 + 7))]) (b := eX V 500) G hC hB h (met_X4_isOver l V (ndW M nd) B hg hI0 st9 (by omega)) mw_1568 kv_X4_isOver ⟨rfl, rfl⟩ ⟨Nat.le_of_ble_eq_true rfl, Nat.le_of_ble_eq_true rfl⟩ (r_mV hC h) rfl rfl hl.1 (Nat.le_of_ble_eq_true rfl) dX4_needs_178 ⟨Nat.le_of_ble_eq_true rfl, Nat.le_of_ble_eq_true rfl⟩ (fun r u H locs hp h => ?_)
                          obtain ⟨hr9, hu9⟩ := hp
                          obtain rfl : r = bz (decide (B.1 1 st9 = 0)) := hr9
                          rw [hu9] at h
                          refine lv_if_eq (tgt := 188) hx hcd dX4_needs_181 (by decide) (fun c_25 => ?_) (fun c_25 => ?_)
                          · have c_25 := bz0 c_25
                            have f_27 := of_decide_eq_false c_25
                            refine lv_iload hx hcd dX4_needs_188 (lv_at hl 1 rfl) ?_
                            refine r_mT G hC h 7 (st9) (by decide) (by decide) rfl (show st9 < 16 by omega) rfl dX4_needs_190 (fun H locs h => ?_)
                            refine lv_iinc (v := nI (n9 + 1)) (lv' := [(2, .int (nI (n9 + 1))), (5, .int (nI (k9))), (4, .int (nI (d9) - 1)), (3, .int (nI (st9))), (1, .int (nI (came ||| (2 ^ st9)))), (0, .ref (eX V 500))]) hx hcd dX4_needs_191 hl (k := 3) rfl (by exact nI_add (n9) 1) (by decide) rfl (fun ls hl => ?_)
                            refine lv_goto (tgt := 4) hx hcd dX4_needs_194 (by decide) ?_
                            exact ih_2 (n9 + 1) (came ||| 2 ^ st9) (va_up nd st9 (d9)) (by omega) (by rw [show st9 = frd B came - 1 by omega, hcm]; rfl) (or16 hcb (p16 (by omega))) (neN_s hnd hcm hfs (by unfold ndV; rw [if_neg (by omega), if_pos (by omega)]; omega)) (fun k hk => by have := neN_b (st := st9) (v := d9) hnb (by omega) k hk; omega) (by omega) _ _ (by rw [ndW_s (v := d9) rfl] at h; exact h) _ (lv_sub hl [0, 4, 5] rfl)
                          · have c_25 := bz1 c_25
                            have f_26 := of_decide_eq_true c_25
                            refine lv_iconst (v := nI 0) hx hcd dX4_needs_184 (by decide) ?_
                            refine lv_goto (tgt := 190) hx hcd dX4_needs_185 (by decide) ?_
                            refine r_mT G hC h 7 (st9) (by decide) (by decide) rfl (show st9 < 16 by omega) rfl dX4_needs_190 (fun H locs h => ?_)
                            refine lv_iinc (v := nI (n9 + 1)) (lv' := [(2, .int (nI (n9 + 1))), (5, .int (nI (k9))), (4, .int (nI (d9) - 1)), (3, .int (nI (st9))), (1, .int (nI (came ||| (2 ^ st9)))), (0, .ref (eX V 500))]) hx hcd dX4_needs_191 hl (k := 3) rfl (by exact nI_add (n9) 1) (by decide) rfl (fun ls hl => ?_)
                            refine lv_goto (tgt := 4) hx hcd dX4_needs_194 (by decide) ?_
                            exact ih_2 (n9 + 1) (came ||| 2 ^ st9) (va_up nd st9 (1)) (by omega) (by rw [show st9 = frd B came - 1 by omega, hcm]; rfl) (or16 hcb (p16 (by omega))) (neN_s hnd hcm hfs (if_pos (by omega)).symm) (fun k hk => by have := neN_b (st := st9) (v := 1) hnb (by omega) k hk; omega) (by omega) _ _ (by rw [ndW_s (v := 1) (aOf (n := 0)).symm] at h; exact h) _ (lv_sub hl [0, 4, 5] rfl)
                        · have c_24 := cNlt (tA (n := d9) (by omega)) t0 c_24
                          have hasg := rdD_asg hd9 (by omega)
                          have hasb := asg_there hv hasg
                          have hspd := hw9 _ hasb
                          have hre9 := hr st9
                          have hes9 := he st9
                          have hdv := dv16 (a := B.1 1 st9) (s := B.1 3 (asgOf B st9 - 1)) (by omega) hspd.1 hspd.2
                          refine lv_iload hx hcd dX4_needs_134 (lv_at hl 1 rfl) ?_
                          refine lv_topi (fun z_28 e_z_28 => ?_)
                          obtain rfl : z_28 = nI (d9 - 1) := by rw [e_z_28]; exact pk_sub (b := 1) (by omega)
                          refine lv_aload_n hx hcd dX4_needs_136 rfl (lv_at hl 5 rfl) ?_
                          refine lv_iload_n hx hcd dX4_needs_137 rfl (lv_at hl 2 rfl) ?_
                          refine lv_iconst (v := nI 1) hx hcd dX4_needs_138 (by decide) ?_
                          refine k_Vi (As := [.int (nI (st9)), .int (nI 1)]) (rest := [.int (nI (d9 - 1))]) (b := eX V 500) G hC hB h (met_X4_of l V (ndW M nd) st9 1 (by omega) (by decide)) mw_1572 kv_X4_of ⟨rfl, rfl⟩ ⟨Nat.le_of_ble_eq_true rfl, Nat.le_of_ble_eq_true rfl⟩ (r_mV hC h) rfl rfl hl.1 (Nat.le_of_ble_eq_true rfl) dX4_needs_139 ⟨Nat.le_of_ble_eq_true rfl, Nat.le_of_ble_eq_true rfl⟩ (fun r u H locs hp h => ?_)
                          obtain ⟨hr9, hu9⟩ := hp
                          obtain rfl : r = nI (B.1 1 st9) := (hr9.trans (gOf_s hg hn (k := st9) (w := 1) (by omega) (by decide)))
                          rw [hu9] at h
                          have q_29 := hz.1 1 st9
                          refine lv_aload_n hx hcd dX4_needs_142 rfl (lv_at hl 5 rfl) ?_
                          refine lv_aload_n hx hcd dX4_needs_143 rfl (lv_at hl 5 rfl) ?_
                          refine lv_iload_n hx hcd dX4_needs_144 rfl (lv_at hl 2 rfl) ?_
                          refine lv_iconst (v := nI 3) hx hcd dX4_needs_145 (by decide) ?_
                          refine k_Vi (As := [.int (nI (st9)), .int (nI 3)]) (rest := [.ref (eX V 500), .int (nI (B.1 1 st9)), .int (nI (d9 - 1))]) (b := eX V 500) G hC hB h (met_X4_of l V (ndW M nd) st9 3 (by omega) (by decide)) mw_1572 kv_X4_of ⟨rfl, rfl⟩ ⟨Nat.le_of_ble_eq_true rfl, Nat.le_of_ble_eq_true rfl⟩ (r_mV hC h) rfl rfl hl.1 (Nat.le_of_ble_eq_true rfl) dX4_needs_146 ⟨Nat.le_of_ble_eq_true rfl, Nat.le_of_ble_eq_true rfl⟩ (fun r u H locs hp h => ?_)
                          obtain ⟨hr9, hu9⟩ := hp
                          obtain rfl : r = nI (asgOf B st9) - 1 := (hr9.trans (gOf_s hg hn (k := st9) (w := 3) (by omega) (by decide)))
                          rw [hu9] at h
                          have q_30 := asgOf_le B st9
                          refine lv_topi (fun z_31 e_z_31 => ?_)
                          obtain rfl : z_31 = nI ((asgOf B st9) - 1) := by rw [e_z_31]; exact pk_sub (b := 1) (by omega)
                          refine lv_iconst (v := nI 0) hx hcd dX4_needs_149 (by decide) ?_
                          refine k_Vi (As := [.int (nI ((asgOf B st9) - 1)), .int (nI 0)]) (rest := [.int (nI (B.1 1 st9)), .int (nI (d9 - 1))]) (b := eX V 500) G hC hB h (met_X4_by l V (ndW M nd) ((asgOf B st9) - 1) 0 (by omega) (by decide)) mw_1690 kv_X4_by ⟨rfl, rfl⟩ ⟨Nat.le_of_ble_eq_true rfl, Nat.le_of_ble_eq_true rfl⟩ (r_mV hC h) rfl rfl hl.1 (Nat.le_of_ble_eq_true rfl) dX4_needs_150 ⟨Nat.le_of_ble_eq_true rfl, Nat.le_of_ble_eq_true rfl⟩ (fun r u H locs hp h => ?_)
                          obtain ⟨hr9, hu9⟩ := hp
                          obtain rfl : r = nI (B.1 3 ((asgOf B st9) - 1)) := (hr9.trans (gOf_p0 hg hm (d := ((asgOf B st9) - 1)) (by omega)))
                          rw [hu9] at h
                          have q_32 := hz.1 3 ((asgOf B st9) - 1)
                          refine w_iadd (v := nI ((B.1 1 st9) + (B.1 3 ((asgOf B st9) - 1)))) hx hcd dX4_needs_153 (nI_add _ _) ?_
                          refine lv_iconst (v := nI 1) hx hcd dX4_needs_154 (by decide) ?_
                          refine w_isub (v := nI (((B.1 1 st9) + (B.1 3 ((asgOf B st9) - 1))) - 1)) hx hcd dX4_needs_155 (pk_sub (by omega)) ?_
                          refine lv_aload_n hx hcd dX4_needs_156 rfl (lv_at hl 5 rfl) ?_
                          refine lv_aload_n hx hcd dX4_needs_157 rfl (lv_at hl 5 rfl) ?_
                          refine lv_iload_n hx hcd dX4_needs_158 rfl (lv_at hl 2 rfl) ?_
                          refine lv_iconst (v := nI 3) hx hcd dX4_needs_159 (by decide) ?_
                          refine k_Vi (As := [.int (nI (st9)), .int (nI 3)]) (rest := [.ref (eX V 500), .int (nI (((B.1 1 st9) + (B.1 3 ((asgOf B st9) - 1))) - 1)), .int (nI (d9 - 1))]) (b := eX V 500) G hC hB h (met_X4_of l V (ndW M nd) st9 3 (by omega) (by decide)) mw_1572 kv_X4_of ⟨rfl, rfl⟩ ⟨Nat.le_of_ble_eq_true rfl, Nat.le_of_ble_eq_true rfl⟩ (r_mV hC h) rfl rfl hl.1 (Nat.le_of_ble_eq_true rfl) dX4_needs_160 ⟨Nat.le_of_ble_eq_true rfl, Nat.le_of_ble_eq_true rfl⟩ (fun r u H locs hp h => ?_)
                          obtain ⟨hr9, hu9⟩ := hp
                          obtain rfl : r = nI (asgOf B st9) - 1 := (hr9.trans (gOf_s hg hn (k := st9) (w := 3) (by omega) (by decide)))
                          rw [hu9] at h
                          have q_35 := asgOf_le B st9
                          refine lv_topi (fun z_36 e_z_36 => ?_)
                          obtain rfl : z_36 = nI ((asgOf B st9) - 1) := by rw [e_z_36]; exact pk_sub (b := 1) (by omega)
                          refine lv_iconst (v := nI 0) hx hcd dX4_needs_163 (by decide) ?_
                          refine k_Vi (As := [.int (nI ((asgOf B st9) - 1)), .int (nI 0)]) (rest := [.int (nI (((B.1 1 st9) + (B.1 3 ((asgOf B st9) - 1))) - 1)), .int (nI (d9 - 1))]) (b := eX V 500) G hC hB h (met_X4_by l V (ndW M nd) ((asgOf B st9) - 1) 0 (by omega) (by decide)) mw_1690 kv_X4_by ⟨rfl, rfl⟩ ⟨Nat.le_of_ble_eq_true rfl, Nat.le_of_ble_eq_true rfl⟩ (r_mV hC h) rfl rfl hl.1 (Nat.le_of_ble_eq_true rfl) dX4_needs_164 ⟨Nat.le_of_ble_eq_true rfl, Nat.le_of_ble_eq_true rfl⟩ (fun r u H locs hp h => ?_)
                          obtain ⟨hr9, hu9⟩ := hp
                          obtain rfl : r = nI (B.1 3 ((asgOf B st9) - 1)) := (hr9.trans (gOf_p0 hg hm (d := ((asgOf B st9) - 1)) (by omega)))
                          rw [hu9] at h
                          have q_37 := hz.1 3 ((asgOf B st9) - 1)
                          refine w_idiv (v := nI ((((B.1 1 st9) + (B.1 3 ((asgOf B st9) - 1))) - 1) / (B.1 3 ((asgOf B st9) - 1)))) hx hcd dX4_needs_167 (nI_ne0 (by omega) (by omega)) (pk_div (by omega) (by omega) (by omega)) ?_
                          refine w_iadd (v := nI ((d9 - 1) + ((((B.1 1 st9) + (B.1 3 ((asgOf B st9) - 1))) - 1) / (B.1 3 ((asgOf B st9) - 1))))) hx hcd dX4_needs_168 (nI_add _ _) ?_
                          refine lv_istore (lv' := [(4, .int (nI ((d9 - 1) + ((((B.1 1 st9) + (B.1 3 ((asgOf B st9) - 1))) - 1) / (B.1 3 ((asgOf B st9) - 1)))))), (5, .int (nI (k9))), (3, .int (nI (st9))), (2, .int (nI (n9))), (1, .int (nI (came ||| (2 ^ st9)))), (0, .ref (eX V 500))]) hx hcd dX4_needs_169 hl (by decide) rfl (fun ls hl => ?_)
                          refine lv_aload_n hx hcd dX4_needs_171 rfl (lv_at hl 5 rfl) ?_
                          refine r_mA G hC h 7 (by decide) mw_1487 dX4_needs_172 ?_
                          refine lv_iload_n hx hcd dX4_needs_175 rfl (lv_at hl 2 rfl) ?_
                          refine lv_aload_n hx hcd dX4_needs_176 rfl (lv_at hl 5 rfl) ?_
                          refine lv_iload_n hx hcd dX4_needs_177 rfl (lv_at hl 2 rfl) ?_
                          refine k_Vi (As := [.int (nI (st9))]) (rest := [.int (nI (st9)), .ref (eX V (501 + 7))]) (b := eX V 500) G hC hB h (met_X4_isOver l V (ndW M nd) B hg hI0 st9 (by omega)) mw_1568 kv_X4_isOver ⟨rfl, rfl⟩ ⟨Nat.le_of_ble_eq_true rfl, Nat.le_of_ble_eq_true rfl⟩ (r_mV hC h) rfl rfl hl.1 (Nat.le_of_ble_eq_true rfl) dX4_needs_178 ⟨Nat.le_of_ble_eq_true rfl, Nat.le_of_ble_eq_true rfl⟩ (fun r u H locs hp h => ?_)
                          obtain ⟨hr9, hu9⟩ := hp
                          obtain rfl : r = bz (decide (B.1 1 st9 = 0)) := hr9
                          rw [hu9] at h
                          refine lv_if_eq (tgt := 188) hx hcd dX4_needs_181 (by decide) (fun c_40 => ?_) (fun c_40 => ?_)
                          · have c_40 := bz0 c_40
                            have f_42 := of_decide_eq_false c_40
                            refine lv_iload hx hcd dX4_needs_188 (lv_at hl 0 rfl) ?_
                            refine r_mT G hC h 7 (st9) (by decide) (by decide) rfl (show st9 < 16 by omega) rfl dX4_needs_190 (fun H locs h => ?_)
                            refine lv_iinc (v := nI (n9 + 1)) (lv' := [(2, .int (nI (n9 + 1))), (4, .int (nI ((d9 - 1) + ((((B.1 1 st9) + (B.1 3 ((asgOf B st9) - 1))) - 1) / (B.1 3 ((asgOf B st9) - 1)))))), (5, .int (nI (k9))), (3, .int (nI (st9))), (1, .int (nI (came ||| (2 ^ st9)))), (0, .ref (eX V 500))]) hx hcd dX4_needs_191 hl (k := 3) rfl (by exact nI_add (n9) 1) (by decide) rfl (fun ls hl => ?_)
                            refine lv_goto (tgt := 4) hx hcd dX4_needs_194 (by decide) ?_
                            exact ih_2 (n9 + 1) (came ||| 2 ^ st9) (va_up nd st9 (d9 + (B.1 1 st9 + B.1 3 (asgOf B st9 - 1) - 1) / B.1 3 (asgOf B st9 - 1))) (by omega) (by rw [show st9 = frd B came - 1 by omega, hcm]; rfl) (or16 hcb (p16 (by omega))) (neN_s hnd hcm hfs (by unfold ndV; rw [if_neg (by omega), if_neg (by omega), ← hdd])) (fun k hk => by have := neN_b (st := st9) (v := d9 + (B.1 1 st9 + B.1 3 (asgOf B st9 - 1) - 1) / B.1 3 (asgOf B st9 - 1)) hnb (by omega) k hk; omega) (by omega) _ _ (by rw [ndW_s (v := d9 + (B.1 1 st9 + B.1 3 (asgOf B st9 - 1) - 1) / B.1 3 (asgOf B st9 - 1)) (by rw [show d9 + (B.1 1 st9 + B.1 3 (asgOf B st9 - 1) - 1) / B.1 3 (asgOf B st9 - 1) = d9 - 1 + (B.1 1 st9 + B.1 3 (asgOf B st9 - 1) - 1) / B.1 3 (asgOf B st9 - 1) + 1 by omega]; exact aOf.symm)] at h; exact h) _ (lv_sub hl [0, 4, 5] rfl)
                          · have c_40 := bz1 c_40
                            have f_41 := of_decide_eq_true c_40
                            refine lv_iconst (v := nI 0) hx hcd dX4_needs_184 (by decide) ?_
                            refine lv_goto (tgt := 190) hx hcd dX4_needs_185 (by decide) ?_
                            refine r_mT G hC h 7 (st9) (by decide) (by decide) rfl (show st9 < 16 by omega) rfl dX4_needs_190 (fun H locs h => ?_)
                            refine lv_iinc (v := nI (n9 + 1)) (lv' := [(2, .int (nI (n9 + 1))), (4, .int (nI ((d9 - 1) + ((((B.1 1 st9) + (B.1 3 ((asgOf B st9) - 1))) - 1) / (B.1 3 ((asgOf B st9) - 1)))))), (5, .int (nI (k9))), (3, .int (nI (st9))), (1, .int (nI (came ||| (2 ^ st9)))), (0, .ref (eX V 500))]) hx hcd dX4_needs_191 hl (k := 3) rfl (by exact nI_add (n9) 1) (by decide) rfl (fun ls hl => ?_)
                            refine lv_goto (tgt := 4) hx hcd dX4_needs_194 (by decide) ?_
                            exact ih_2 (n9 + 1) (came ||| 2 ^ st9) (va_up nd st9 (1)) (by omega) (by rw [show st9 = frd B came - 1 by omega, hcm]; rfl) (or16 hcb (p16 (by omega))) (neN_s hnd hcm hfs (if_pos (by omega)).symm) (fun k hk => by have := neN_b (st := st9) (v := 1) hnb (by omega) k hk; omega) (by omega) _ _ (by rw [ndW_s (v := 1) (aOf (n := 0)).symm] at h; exact h) _ (lv_sub hl [0, 4, 5] rfl)
                      · have c_23 := cNle (tN (n := B.2 0) (by omega)) (tN (n := k9) (by omega)) c_23
                        refine lv_iload hx hcd dX4_needs_80 (lv_at hl 1 rfl) ?_
                        refine lv_if_lt (tgt := 129) hx hcd dX4_needs_82 (by decide) (fun c_43 => ?_) (fun c_43 => ?_)
                        · have c_43 := cLt (tA (n := d9) (by omega)) t0 c_43
                          have hdd : d9 = rdD B nd st9 (B.2 0) := rdD_end hd9 hk9 (by omega)
                          refine lv_iload hx hcd dX4_needs_129 (lv_at hl 1 rfl) ?_
                          refine lv_if_lt (tgt := 171) hx hcd dX4_needs_131 (by decide) (fun c_44 => ?_) (fun c_44 => ?_)
                          · have c_44 := cLt (tA (n := d9) (by omega)) t0 c_44
                            refine lv_aload_n hx hcd dX4_needs_171 rfl (lv_at hl 5 rfl) ?_
                            refine r_mA G hC h 7 (by decide) mw_1487 dX4_needs_172 ?_
                            refine lv_iload_n hx hcd dX4_needs_175 rfl (lv_at hl 2 rfl) ?_
                            refine lv_aload_n hx hcd dX4_needs_176 rfl (lv_at hl 5 rfl) ?_
                            refine lv_iload_n hx hcd dX4_needs_177 rfl (lv_at hl 2 rfl) ?_
                            refine k_Vi (As := [.int (nI (st9))]) (rest := [.int (nI (st9)), .ref (eX V (501 + 7))]) (b := eX V 500) G hC hB h (met_X4_isOver l V (ndW M nd) B hg hI0 st9 (by omega)) mw_1568 kv_X4_isOver ⟨rfl, rfl⟩ ⟨Nat.le_of_ble_eq_true rfl, Nat.le_of_ble_eq_true rfl⟩ (r_mV hC h) rfl rfl hl.1 (Nat.le_of_ble_eq_true rfl) dX4_needs_178 ⟨Nat.le_of_ble_eq_true rfl, Nat.le_of_ble_eq_true rfl⟩ (fun r u H locs hp h => ?_)
                            obtain ⟨hr9, hu9⟩ := hp
                            obtain rfl : r = bz (decide (B.1 1 st9 = 0)) := hr9
                            rw [hu9] at h
                            refine lv_if_eq (tgt := 188) hx hcd dX4_needs_181 (by decide) (fun c_45 => ?_) (fun c_45 => ?_)
                            · have c_45 := bz0 c_45
                              have f_47 := of_decide_eq_false c_45
                              refine lv_iload hx hcd dX4_needs_188 (lv_at hl 1 rfl) ?_
                              refine r_mT G hC h 7 (st9) (by decide) (by decide) rfl (show st9 < 16 by omega) rfl dX4_needs_190 (fun H locs h => ?_)
                              refine lv_iinc (v := nI (n9 + 1)) (lv' := [(2, .int (nI (n9 + 1))), (5, .int (nI (k9))), (4, .int (nI (d9) - 1)), (3, .int (nI (st9))), (1, .int (nI (came ||| (2 ^ st9)))), (0, .ref (eX V 500))]) hx hcd dX4_needs_191 hl (k := 3) rfl (by exact nI_add (n9) 1) (by decide) rfl (fun ls hl => ?_)
                              refine lv_goto (tgt := 4) hx hcd dX4_needs_194 (by decide) ?_
                              exact ih_2 (n9 + 1) (came ||| 2 ^ st9) (va_up nd st9 (d9)) (by omega) (by rw [show st9 = frd B came - 1 by omega, hcm]; rfl) (or16 hcb (p16 (by omega))) (neN_s hnd hcm hfs (by unfold ndV; rw [if_neg (by omega), if_pos (by omega)]; omega)) (fun k hk => by have := neN_b (st := st9) (v := d9) hnb (by omega) k hk; omega) (by omega) _ _ (by rw [ndW_s (v := d9) rfl] at h; exact h) _ (lv_sub hl [0, 4, 5] rfl)
                            · have c_45 := bz1 c_45
                              have f_46 := of_decide_eq_true c_45
                              refine lv_iconst (v := nI 0) hx hcd dX4_needs_184 (by decide) ?_
                              refine lv_goto (tgt := 190) hx hcd dX4_needs_185 (by decide) ?_
                              refine r_mT G hC h 7 (st9) (by decide) (by decide) rfl (show st9 < 16 by omega) rfl dX4_needs_190 (fun H locs h => ?_)
                              refine lv_iinc (v := nI (n9 + 1)) (lv' := [(2, .int (nI (n9 + 1))), (5, .int (nI (k9))), (4, .int (nI (d9) - 1)), (3, .int (nI (st9))), (1, .int (nI (came ||| (2 ^ st9)))), (0, .ref (eX V 500))]) hx hcd dX4_needs_191 hl (k := 3) rfl (by exact nI_add (n9) 1) (by decide) rfl (fun ls hl => ?_)
                              refine lv_goto (tgt := 4) hx hcd dX4_needs_194 (by decide) ?_
                              exact ih_2 (n9 + 1) (came ||| 2 ^ st9) (va_up nd st9 (1)) (by omega) (by rw [show st9 = frd B came - 1 by omega, hcm]; rfl) (or16 hcb (p16 (by omega))) (neN_s hnd hcm hfs (if_pos (by omega)).symm) (fun k hk => by have := neN_b (st := st9) (v := 1) hnb (by omega) k hk; omega) (by omega) _ _ (by rw [ndW_s (v := 1) (aOf (n := 0)).symm] at h; exact h) _ (lv_sub hl [0, 4, 5] rfl)
                          · have c_44 := cNlt (tA (n := d9) (by omega)) t0 c_44
                            have hasg := rdD_asg hd9 (by omega)
                            have hasb := asg_there hv hasg
                            have hspd := hw9 _ hasb
                            have hre9 := hr st9
                            have hes9 := he st9
                            have hdv := dv16 (a := B.1 1 st9) (s := B.1 3 (asgOf B st9 - 1)) (by omega) hspd.1 hspd.2
                            refine lv_iload hx hcd dX4_needs_134 (lv_at hl 1 rfl) ?_
                            refine lv_topi (fun z_48 e_z_48 => ?_)
                            obtain rfl : z_48 = nI (d9 - 1) := by rw [e_z_48]; exact pk_sub (b := 1) (by omega)
                            refine lv_aload_n hx hcd dX4_needs_136 rfl (lv_at hl 5 rfl) ?_
                            refine lv_iload_n hx hcd dX4_needs_137 rfl (lv_at hl 2 rfl) ?_
                            refine lv_iconst (v := nI 1) hx hcd dX4_needs_138 (by decide) ?_
                            refine k_Vi (As := [.int (nI (st9)), .int (nI 1)]) (rest := [.int (nI (d9 - 1))]) (b := eX V 500) G hC hB h (met_X4_of l V (ndW M nd) st9 1 (by omega) (by decide)) mw_1572 kv_X4_of ⟨rfl, rfl⟩ ⟨Nat.le_of_ble_eq_true rfl, Nat.le_of_ble_eq_true rfl⟩ (r_mV hC h) rfl rfl hl.1 (Nat.le_of_ble_eq_true rfl) dX4_needs_139 ⟨Nat.le_of_ble_eq_true rfl, Nat.le_of_ble_eq_true rfl⟩ (fun r u H locs hp h => ?_)
                            obtain ⟨hr9, hu9⟩ := hp
                            obtain rfl : r = nI (B.1 1 st9) := (hr9.trans (gOf_s hg hn (k := st9) (w := 1) (by omega) (by decide)))
                            rw [hu9] at h
                            have q_49 := hz.1 1 st9
                            refine lv_aload_n hx hcd dX4_needs_142 rfl (lv_at hl 5 rfl) ?_
                            refine lv_aload_n hx hcd dX4_needs_143 rfl (lv_at hl 5 rfl) ?_
                            refine lv_iload_n hx hcd dX4_needs_144 rfl (lv_at hl 2 rfl) ?_
                            refine lv_iconst (v := nI 3) hx hcd dX4_needs_145 (by decide) ?_
                            refine k_Vi (As := [.int (nI (st9)), .int (nI 3)]) (rest := [.ref (eX V 500), .int (nI (B.1 1 st9)), .int (nI (d9 - 1))]) (b := eX V 500) G hC hB h (met_X4_of l V (ndW M nd) st9 3 (by omega) (by decide)) mw_1572 kv_X4_of ⟨rfl, rfl⟩ ⟨Nat.le_of_ble_eq_true rfl, Nat.le_of_ble_eq_true rfl⟩ (r_mV hC h) rfl rfl hl.1 (Nat.le_of_ble_eq_true rfl) dX4_needs_146 ⟨Nat.le_of_ble_eq_true rfl, Nat.le_of_ble_eq_true rfl⟩ (fun r u H locs hp h => ?_)
                            obtain ⟨hr9, hu9⟩ := hp
                            obtain rfl : r = nI (asgOf B st9) - 1 := (hr9.trans (gOf_s hg hn (k := st9) (w := 3) (by omega) (by decide)))
                            rw [hu9] at h
                            have q_50 := asgOf_le B st9
                            refine lv_topi (fun z_51 e_z_51 => ?_)
                            obtain rfl : z_51 = nI ((asgOf B st9) - 1) := by rw [e_z_51]; exact pk_sub (b := 1) (by omega)
                            refine lv_iconst (v := nI 0) hx hcd dX4_needs_149 (by decide) ?_
                            refine k_Vi (As := [.int (nI ((asgOf B st9) - 1)), .int (nI 0)]) (rest := [.int (nI (B.1 1 st9)), .int (nI (d9 - 1))]) (b := eX V 500) G hC hB h (met_X4_by l V (ndW M nd) ((asgOf B st9) - 1) 0 (by omega) (by decide)) mw_1690 kv_X4_by ⟨rfl, rfl⟩ ⟨Nat.le_of_ble_eq_true rfl, Nat.le_of_ble_eq_true rfl⟩ (r_mV hC h) rfl rfl hl.1 (Nat.le_of_ble_eq_true rfl) dX4_needs_150 ⟨Nat.le_of_ble_eq_true rfl, Nat.le_of_ble_eq_true rfl⟩ (fun r u H locs hp h => ?_)
                            obtain ⟨hr9, hu9⟩ := hp
                            obtain rfl : r = nI (B.1 3 ((asgOf B st9) - 1)) := (hr9.trans (gOf_p0 hg hm (d := ((asgOf B st9) - 1)) (by omega)))
                            rw [hu9] at h
                            have q_52 := hz.1 3 ((asgOf B st9) - 1)
                            refine w_iadd (v := nI ((B.1 1 st9) + (B.1 3 ((asgOf B st9) - 1)))) hx hcd dX4_needs_153 (nI_add _ _) ?_
                            refine lv_iconst (v := nI 1) hx hcd dX4_needs_154 (by decide) ?_
                            refine w_isub (v := nI (((B.1 1 st9) + (B.1 3 ((asgOf B st9) - 1))) - 1)) hx hcd dX4_needs_155 (pk_sub (by omega)) ?_
                            refine lv_aload_n hx hcd dX4_needs_156 rfl (lv_at hl 5 rfl) ?_
                            refine lv_aload_n hx hcd dX4_needs_157 rfl (lv_at hl 5 rfl) ?_
                            refine lv_iload_n hx hcd dX4_needs_158 rfl (lv_at hl 2 rfl) ?_
                            refine lv_iconst (v := nI 3) hx hcd dX4_needs_159 (by decide) ?_
                            refine k_Vi (As := [.int (nI (st9)), .int (nI 3)]) (rest := [.ref (eX V 500), .int (nI (((B.1 1 st9) + (B.1 3 ((asgOf B st9) - 1))) - 1)), .int (nI (d9 - 1))]) (b := eX V 500) G hC hB h (met_X4_of l V (ndW M nd) st9 3 (by omega) (by decide)) mw_1572 kv_X4_of ⟨rfl, rfl⟩ ⟨Nat.le_of_ble_eq_true rfl, Nat.le_of_ble_eq_true rfl⟩ (r_mV hC h) rfl rfl hl.1 (Nat.le_of_ble_eq_true rfl) dX4_needs_160 ⟨Nat.le_of_ble_eq_true rfl, Nat.le_of_ble_eq_true rfl⟩ (fun r u H locs hp h => ?_)
                            obtain ⟨hr9, hu9⟩ := hp
                            obtain rfl : r = nI (asgOf B st9) - 1 := (hr9.trans (gOf_s hg hn (k := st9) (w := 3) (by omega) (by decide)))
                            rw [hu9] at h
                            have q_55 := asgOf_le B st9
                            refine lv_topi (fun z_56 e_z_56 => ?_)
                            obtain rfl : z_56 = nI ((asgOf B st9) - 1) := by rw [e_z_56]; exact pk_sub (b := 1) (by omega)
                            refine lv_iconst (v := nI 0) hx hcd dX4_needs_163 (by decide) ?_
                            refine k_Vi (As := [.int (nI ((asgOf B st9) - 1)), .int (nI 0)]) (rest := [.int (nI (((B.1 1 st9) + (B.1 3 ((asgOf B st9) - 1))) - 1)), .int (nI (d9 - 1))]) (b := eX V 500) G hC hB h (met_X4_by l V (ndW M nd) ((asgOf B st9) - 1) 0 (by omega) (by decide)) mw_1690 kv_X4_by ⟨rfl, rfl⟩ ⟨Nat.le_of_ble_eq_true rfl, Nat.le_of_ble_eq_true rfl⟩ (r_mV hC h) rfl rfl hl.1 (Nat.le_of_ble_eq_true rfl) dX4_needs_164 ⟨Nat.le_of_ble_eq_true rfl, Nat.le_of_ble_eq_true rfl⟩ (fun r u H locs hp h => ?_)
                            obtain ⟨hr9, hu9⟩ := hp
                            obtain rfl : r = nI (B.1 3 ((asgOf B st9) - 1)) := (hr9.trans (gOf_p0 hg hm (d := ((asgOf B st9) - 1)) (by omega)))
                            rw [hu9] at h
                            have q_57 := hz.1 3 ((asgOf B st9) - 1)
                            refine w_idiv (v := nI ((((B.1 1 st9) + (B.1 3 ((asgOf B st9) - 1))) - 1) / (B.1 3 ((asgOf B st9) - 1)))) hx hcd dX4_needs_167 (nI_ne0 (by omega) (by omega)) (pk_div (by omega) (by omega) (by omega)) ?_
                            refine w_iadd (v := nI ((d9 - 1) + ((((B.1 1 st9) + (B.1 3 ((asgOf B st9) - 1))) - 1) / (B.1 3 ((asgOf B st9) - 1))))) hx hcd dX4_needs_168 (nI_add _ _) ?_
                            refine lv_istore (lv' := [(4, .int (nI ((d9 - 1) + ((((B.1 1 st9) + (B.1 3 ((asgOf B st9) - 1))) - 1) / (B.1 3 ((asgOf B st9) - 1)))))), (5, .int (nI (k9))), (3, .int (nI (st9))), (2, .int (nI (n9))), (1, .int (nI (came ||| (2 ^ st9)))), (0, .ref (eX V 500))]) hx hcd dX4_needs_169 hl (by decide) rfl (fun ls hl => ?_)
                            refine lv_aload_n hx hcd dX4_needs_171 rfl (lv_at hl 5 rfl) ?_
                            refine r_mA G hC h 7 (by decide) mw_1487 dX4_needs_172 ?_
                            refine lv_iload_n hx hcd dX4_needs_175 rfl (lv_at hl 2 rfl) ?_
                            refine lv_aload_n hx hcd dX4_needs_176 rfl (lv_at hl 5 rfl) ?_
                            refine lv_iload_n hx hcd dX4_needs_177 rfl (lv_at hl 2 rfl) ?_
                            refine k_Vi (As := [.int (nI (st9))]) (rest := [.int (nI (st9)), .ref (eX V (501 + 7))]) (b := eX V 500) G hC hB h (met_X4_isOver l V (ndW M nd) B hg hI0 st9 (by omega)) mw_1568 kv_X4_isOver ⟨rfl, rfl⟩ ⟨Nat.le_of_ble_eq_true rfl, Nat.le_of_ble_eq_true rfl⟩ (r_mV hC h) rfl rfl hl.1 (Nat.le_of_ble_eq_true rfl) dX4_needs_178 ⟨Nat.le_of_ble_eq_true rfl, Nat.le_of_ble_eq_true rfl⟩ (fun r u H locs hp h => ?_)
                            obtain ⟨hr9, hu9⟩ := hp
                            obtain rfl : r = bz (decide (B.1 1 st9 = 0)) := hr9
                            rw [hu9] at h
                            refine lv_if_eq (tgt := 188) hx hcd dX4_needs_181 (by decide) (fun c_60 => ?_) (fun c_60 => ?_)
                            · have c_60 := bz0 c_60
                              have f_62 := of_decide_eq_false c_60
                              refine lv_iload hx hcd dX4_needs_188 (lv_at hl 0 rfl) ?_
                              refine r_mT G hC h 7 (st9) (by decide) (by decide) rfl (show st9 < 16 by omega) rfl dX4_needs_190 (fun H locs h => ?_)
                              refine lv_iinc (v := nI (n9 + 1)) (lv' := [(2, .int (nI (n9 + 1))), (4, .int (nI ((d9 - 1) + ((((B.1 1 st9) + (B.1 3 ((asgOf B st9) - 1))) - 1) / (B.1 3 ((asgOf B st9) - 1)))))), (5, .int (nI (k9))), (3, .int (nI (st9))), (1, .int (nI (came ||| (2 ^ st9)))), (0, .ref (eX V 500))]) hx hcd dX4_needs_191 hl (k := 3) rfl (by exact nI_add (n9) 1) (by decide) rfl (fun ls hl => ?_)
                              refine lv_goto (tgt := 4) hx hcd dX4_needs_194 (by decide) ?_
                              exact ih_2 (n9 + 1) (came ||| 2 ^ st9) (va_up nd st9 (d9 + (B.1 1 st9 + B.1 3 (asgOf B st9 - 1) - 1) / B.1 3 (asgOf B st9 - 1))) (by omega) (by rw [show st9 = frd B came - 1 by omega, hcm]; rfl) (or16 hcb (p16 (by omega))) (neN_s hnd hcm hfs (by unfold ndV; rw [if_neg (by omega), if_neg (by omega), ← hdd])) (fun k hk => by have := neN_b (st := st9) (v := d9 + (B.1 1 st9 + B.1 3 (asgOf B st9 - 1) - 1) / B.1 3 (asgOf B st9 - 1)) hnb (by omega) k hk; omega) (by omega) _ _ (by rw [ndW_s (v := d9 + (B.1 1 st9 + B.1 3 (asgOf B st9 - 1) - 1) / B.1 3 (asgOf B st9 - 1)) (by rw [show d9 + (B.1 1 st9 + B.1 3 (asgOf B st9 - 1) - 1) / B.1 3 (asgOf B st9 - 1) = d9 - 1 + (B.1 1 st9 + B.1 3 (asgOf B st9 - 1) - 1) / B.1 3 (asgOf B st9 - 1) + 1 by omega]; exact aOf.symm)] at h; exact h) _ (lv_sub hl [0, 4, 5] rfl)
                            · have c_60 := bz1 c_60
                              have f_61 := of_decide_eq_true c_60
                              refine lv_iconst (v := nI 0) hx hcd dX4_needs_184 (by decide) ?_
                              refine lv_goto (tgt := 190) hx hcd dX4_needs_185 (by decide) ?_
                              refine r_mT G hC h 7 (st9) (by decide) (by decide) rfl (show st9 < 16 by omega) rfl dX4_needs_190 (fun H locs h => ?_)
                              refine lv_iinc (v := nI (n9 + 1)) (lv' := [(2, .int (nI (n9 + 1))), (4, .int (nI ((d9 - 1) + ((((B.1 1 st9) + (B.1 3 ((asgOf B st9) - 1))) - 1) / (B.1 3 ((asgOf B st9) - 1)))))), (5, .int (nI (k9))), (3, .int (nI (st9))), (1, .int (nI (came ||| (2 ^ st9)))), (0, .ref (eX V 500))]) hx hcd dX4_needs_191 hl (k := 3) rfl (by exact nI_add (n9) 1) (by decide) rfl (fun ls hl => ?_)
                              refine lv_goto (tgt := 4) hx hcd dX4_needs_194 (by decide) ?_
                              exact ih_2 (n9 + 1) (came ||| 2 ^ st9) (va_up nd st9 (1)) (by omega) (by rw [show st9 = frd B came - 1 by omega, hcm]; rfl) (or16 hcb (p16 (by omega))) (neN_s hnd hcm hfs (if_pos (by omega)).symm) (fun k hk => by have := neN_b (st := st9) (v := 1) hnb (by omega) k hk; omega) (by omega) _ _ (by rw [ndW_s (v := 1) (aOf (n := 0)).symm] at h; exact h) _ (lv_sub hl [0, 4, 5] rfl)
                        · have c_43 := cNlt (tA (n := d9) (by omega)) t0 c_43
                          refine lv_aload_n hx hcd dX4_needs_85 rfl (lv_at hl 5 rfl) ?_
                          refine lv_iload_n hx hcd dX4_needs_86 rfl (lv_at hl 2 rfl) ?_
                          refine lv_iload hx hcd dX4_needs_87 (lv_at hl 0 rfl) ?_
                          refine k_Vi (As := [.int (nI (st9)), .int (nI (k9))]) (rest := []) (b := eX V 500) G hC hB h (met_X4_bars l V (ndW M nd) B hg hI0 st9 (by omega) k9 (by omega)) mw_1591 kv_X4_bars ⟨rfl, rfl⟩ ⟨Nat.le_of_ble_eq_true rfl, Nat.le_of_ble_eq_true rfl⟩ (r_mV hC h) rfl rfl hl.1 (Nat.le_of_ble_eq_true rfl) dX4_needs_89 ⟨Nat.le_of_ble_eq_true rfl, Nat.le_of_ble_eq_true rfl⟩ (fun r u H locs hp h => ?_)
                          obtain ⟨hr9, hu9⟩ := hp
                          obtain rfl : r = bz ((B.1 2 st9).testBit k9) := hr9
                          rw [hu9] at h
                          refine lv_if_eq (tgt := 123) hx hcd dX4_needs_92 (by decide) (fun c_63 => ?_) (fun c_63 => ?_)
                          · have c_63 := bz0 c_63
                            refine lv_iinc (v := nI (k9 + 1)) (lv' := [(5, .int (nI (k9 + 1))), (4, .int (nI (d9) - 1)), (3, .int (nI (st9))), (2, .int (nI (n9))), (1, .int (nI (came ||| (2 ^ st9)))), (0, .ref (eX V 500))]) hx hcd dX4_needs_123 hl (k := 0) rfl (by exact nI_add (k9) 1) (by decide) rfl (fun ls hl => ?_)
                            refine lv_goto (tgt := 69) hx hcd dX4_needs_126 (by decide) ?_
                            exact ih_20 (k9 + 1) d9 (by omega) (rdD_f hd9 (by omega) (by first | assumption | (rw [Bool.not_eq_true] at *; assumption))) hdb (by omega) _ _ h _ (lv_sub hl [0, 1, 2, 3, 4, 5] rfl)
                          · have c_63 := bz1 c_63
                            refine lv_aload_n hx hcd dX4_needs_95 rfl (lv_at hl 5 rfl) ?_
                            refine r_mA G hC h 7 (by decide) mw_1487 dX4_needs_96 ?_
                            refine lv_iload hx hcd dX4_needs_99 (lv_at hl 0 rfl) ?_
                            refine r_mL G hC h 7 (k9) (by decide) (by decide) rfl (show k9 < 16 by omega) (x := nI (nd k9) - 1) rfl dX4_needs_101 ?_
                            have q_64 := hnb k9 (andn_sub han (by assumption) (by omega))
                            refine lv_if_ge (tgt := 109) hx hcd dX4_needs_102 (by decide) (fun c_65 => ?_) (fun c_65 => ?_)
                            · have c_65 := cLe t0 (tA (n := nd k9) (by omega)) c_65
                              refine lv_iload hx hcd dX4_needs_109 (lv_at hl 1 rfl) ?_
                              refine lv_aload_n hx hcd dX4_needs_111 rfl (lv_at hl 5 rfl) ?_
                              refine r_mA G hC h 7 (by decide) mw_1487 dX4_needs_112 ?_
                              refine lv_iload hx hcd dX4_needs_115 (lv_at hl 0 rfl) ?_
                              refine r_mL G hC h 7 (k9) (by decide) (by decide) rfl (show k9 < 16 by omega) (x := nI (nd k9) - 1) rfl dX4_needs_117 ?_
                              have q_66 := hnb k9 (andn_sub han (by assumption) (by omega))
                              refine k_Si (As := [.int (nI (d9) - 1), .int (nI (nd k9) - 1)]) (rest := []) G hC hB h (met_X4_most l V (ndW M nd) (nI (d9) - 1) (nI (nd k9) - 1)) mw_1671 ks_X4_most ⟨rfl, rfl⟩ ⟨Nat.le_of_ble_eq_true rfl, Nat.le_of_ble_eq_true rfl⟩ rfl rfl hl.1 (Nat.le_of_ble_eq_true rfl) dX4_needs_118 ⟨Nat.le_of_ble_eq_true rfl, Nat.le_of_ble_eq_true rfl⟩ (fun r u H locs hp h => ?_)
                              obtain ⟨hr9, hu9⟩ := hp
                              obtain rfl : r = nI (max d9 (nd k9)) - 1 := (hr9.trans (n_mostA (by omega) (by omega)))
                              rw [hu9] at h
                              refine lv_istore (lv' := [(4, .int (nI (max d9 (nd k9)) - 1)), (5, .int (nI (k9))), (3, .int (nI (st9))), (2, .int (nI (n9))), (1, .int (nI (came ||| (2 ^ st9)))), (0, .ref (eX V 500))]) hx hcd dX4_needs_121 hl (by decide) rfl (fun ls hl => ?_)
                              refine lv_iinc (v := nI (k9 + 1)) (lv' := [(5, .int (nI (k9 + 1))), (4, .int (nI (max d9 (nd k9)) - 1)), (3, .int (nI (st9))), (2, .int (nI (n9))), (1, .int (nI (came ||| (2 ^ st9)))), (0, .ref (eX V 500))]) hx hcd dX4_needs_123 hl (k := 1) rfl (by exact nI_add (k9) 1) (by decide) rfl (fun ls hl => ?_)
                              refine lv_goto (tgt := 69) hx hcd dX4_needs_126 (by decide) ?_
                              exact ih_20 (k9 + 1) (max d9 (nd k9)) (by omega) (rdD_t hd9 (by omega) (by assumption) (by omega)) (by omega) (by omega) _ _ h _ (lv_sub hl [0, 1, 2, 3, 4, 5] rfl)
                            · have c_65 := cNle t0 (tA (n := nd k9) (by omega)) c_65
                              refine lv_iconst (v := -1) hx hcd dX4_needs_105 (by decide) ?_
                              refine lv_goto (tgt := 121) hx hcd dX4_needs_106 (by decide) ?_
                              refine lv_istore (lv' := [(4, .int (-1)), (5, .int (nI (k9))), (3, .int (nI (st9))), (2, .int (nI (n9))), (1, .int (nI (came ||| (2 ^ st9)))), (0, .ref (eX V 500))]) hx hcd dX4_needs_121 hl (by decide) rfl (fun ls hl => ?_)
                              rw [show (-1 : Int32) = nI 0 - 1 from a0.symm] at hl
                              refine lv_iinc (v := nI (k9 + 1)) (lv' := [(5, .int (nI (k9 + 1))), (4, .int (nI (0) - 1)), (3, .int (nI (st9))), (2, .int (nI (n9))), (1, .int (nI (came ||| (2 ^ st9)))), (0, .ref (eX V 500))]) hx hcd dX4_needs_123 hl (k := 1) rfl (by exact nI_add (k9) 1) (by decide) rfl (fun ls hl => ?_)
                              refine lv_goto (tgt := 69) hx hcd dX4_needs_126 (by decide) ?_
                              exact ih_20 (k9 + 1) 0 (by omega) (rdD_n hd9 (by omega) (by assumption) (by omega)) (by omega) (by omega) _ _ h _ (lv_sub hl [0, 1, 2, 3, 4, 5] rfl)
                  exact L_19 (B.2 0 + 1) 0 1 (Nat.zero_le _) hd0 (by omega) (by omega) _ _ h _ (lv_sub hl [0, 1, 3, 4, 2, 5] rfl)
                · have c_18 := cNle t0 (tA (n := asgOf B st9) (by omega)) c_18
                  refine lv_iconst (v := -1) hx hcd dX4_needs_59 (by decide) ?_
                  refine lv_goto (tgt := 64) hx hcd dX4_needs_60 (by decide) ?_
                  refine lv_istore (lv' := [(4, .int (-1)), (1, .int (nI (came ||| (2 ^ st9)))), (3, .int (nI (st9))), (2, .int (nI (n9))), (0, .ref (eX V 500))]) hx hcd dX4_needs_64 hl (by decide) rfl (fun ls hl => ?_)
                  rw [show (-1 : Int32) = nI 0 - 1 from a0.symm] at hl
                  have hd0 : 0 = rdD B nd st9 0 := (if_pos (show asgOf B st9 = 0 by omega)).symm
                  refine lv_iconst (v := nI 0) hx hcd dX4_needs_66 (by decide) ?_
                  refine lv_istore (lv' := [(5, .int (nI 0)), (4, .int (nI (0) - 1)), (1, .int (nI (came ||| (2 ^ st9)))), (3, .int (nI (st9))), (2, .int (nI (n9))), (0, .ref (eX V 500))]) hx hcd dX4_needs_67 hl (by decide) rfl (fun ls hl => ?_)
                  have L_67 : ∀ (fu_69 : Nat) (k9 : Nat) (d9 : Nat) (hk9 : k9 ≤ B.2 0) (hd9 : d9 = rdD B nd st9 k9) (hdb : d9 ≤ 1 + 20 * n9), B.2 0 - k9 < fu_69 → ∀ (H : Heap) (locs : List Loc), cH V s H locs (mWs V (ndW M nd)) → ∀ ls : Array Slot, lv_has ls 6 [(5, .int (nI (k9))), (4, .int (nI (d9) - 1)), (3, .int (nI (st9))), (2, .int (nI (n9))), (1, .int (nI (came ||| (2 ^ st9)))), (0, .ref (eX V 500))] → W pg l e { frames := 2, cells := 0, slots := 0, locals := 44 } s m args below meth c H locs 0 0 Q (F0 m 69 ls []) := by
                    intro fu_69
                    induction fu_69 with
                    | zero => intro k9 d9 hk9 hd9 hdb hmz; exact absurd hmz (Nat.not_lt_zero _)
                    | succ fu_69 ih_68 =>
                      intro k9 d9 hk9 hd9 hdb hmz H locs h ls hl
                      refine lv_iload hx hcd dX4_needs_69 (lv_at hl 0 rfl) ?_
                      refine lv_aload_n hx hcd dX4_needs_71 rfl (lv_at hl 5 rfl) ?_
                      refine r_mA G hC h 0 (by decide) mw_1472 dX4_needs_72 ?_
                      refine lv_iconst (v := nI 0) hx hcd dX4_needs_75 (by decide) ?_
                      refine r_mL G hC h 0 (0) (by decide) (by decide) rfl (show 0 < 115 by omega) (x := nI (B.2 0)) (gOf_n hg (f := 0) (by decide)) dX4_needs_76 ?_
                      have q_70 := hz.2 0
                      refine lv_icmp_ge (tgt := 129) hx hcd dX4_needs_77 (by decide) (fun c_71 => ?_) (fun c_71 => ?_)
                      · have c_71 := cLe (tN (n := B.2 0) (by omega)) (tN (n := k9) (by omega)) c_71
                        have hdd : d9 = rdD B nd st9 (B.2 0) := rdD_end hd9 hk9 (by omega)
                        refine lv_iload hx hcd dX4_needs_129 (lv_at hl 1 rfl) ?_
                        refine lv_if_lt (tgt := 171) hx hcd dX4_needs_131 (by decide) (fun c_72 => ?_) (fun c_72 => ?_)
                        · have c_72 := cLt (tA (n := d9) (by omega)) t0 c_72
                          refine lv_aload_n hx hcd dX4_needs_171 rfl (lv_at hl 5 rfl) ?_
                          refine r_mA G hC h 7 (by decide) mw_1487 dX4_needs_172 ?_
                          refine lv_iload_n hx hcd dX4_needs_175 rfl (lv_at hl 2 rfl) ?_
                          refine lv_aload_n hx hcd dX4_needs_176 rfl (lv_at hl 5 rfl) ?_
                          refine lv_iload_n hx hcd dX4_needs_177 rfl (lv_at hl 2 rfl) ?_
                          refine k_Vi (As := [.int (nI (st9))]) (rest := [.int (nI (st9)), .ref (eX V (501 + 7))]) (b := eX V 500) G hC hB h (met_X4_isOver l V (ndW M nd) B hg hI0 st9 (by omega)) mw_1568 kv_X4_isOver ⟨rfl, rfl⟩ ⟨Nat.le_of_ble_eq_true rfl, Nat.le_of_ble_eq_true rfl⟩ (r_mV hC h) rfl rfl hl.1 (Nat.le_of_ble_eq_true rfl) dX4_needs_178 ⟨Nat.le_of_ble_eq_true rfl, Nat.le_of_ble_eq_true rfl⟩ (fun r u H locs hp h => ?_)
                          obtain ⟨hr9, hu9⟩ := hp
                          obtain rfl : r = bz (decide (B.1 1 st9 = 0)) := hr9
                          rw [hu9] at h
                          refine lv_if_eq (tgt := 188) hx hcd dX4_needs_181 (by decide) (fun c_73 => ?_) (fun c_73 => ?_)
                          · have c_73 := bz0 c_73
                            have f_75 := of_decide_eq_false c_73
                            refine lv_iload hx hcd dX4_needs_188 (lv_at hl 1 rfl) ?_
                            refine r_mT G hC h 7 (st9) (by decide) (by decide) rfl (show st9 < 16 by omega) rfl dX4_needs_190 (fun H locs h => ?_)
                            refine lv_iinc (v := nI (n9 + 1)) (lv' := [(2, .int (nI (n9 + 1))), (5, .int (nI (k9))), (4, .int (nI (d9) - 1)), (3, .int (nI (st9))), (1, .int (nI (came ||| (2 ^ st9)))), (0, .ref (eX V 500))]) hx hcd dX4_needs_191 hl (k := 3) rfl (by exact nI_add (n9) 1) (by decide) rfl (fun ls hl => ?_)
                            refine lv_goto (tgt := 4) hx hcd dX4_needs_194 (by decide) ?_
                            exact ih_2 (n9 + 1) (came ||| 2 ^ st9) (va_up nd st9 (d9)) (by omega) (by rw [show st9 = frd B came - 1 by omega, hcm]; rfl) (or16 hcb (p16 (by omega))) (neN_s hnd hcm hfs (by unfold ndV; rw [if_neg (by omega), if_pos (by omega)]; omega)) (fun k hk => by have := neN_b (st := st9) (v := d9) hnb (by omega) k hk; omega) (by omega) _ _ (by rw [ndW_s (v := d9) rfl] at h; exact h) _ (lv_sub hl [0, 4, 5] rfl)
                          · have c_73 := bz1 c_73
                            have f_74 := of_decide_eq_true c_73
                            refine lv_iconst (v := nI 0) hx hcd dX4_needs_184 (by decide) ?_
                            refine lv_goto (tgt := 190) hx hcd dX4_needs_185 (by decide) ?_
                            refine r_mT G hC h 7 (st9) (by decide) (by decide) rfl (show st9 < 16 by omega) rfl dX4_needs_190 (fun H locs h => ?_)
                            refine lv_iinc (v := nI (n9 + 1)) (lv' := [(2, .int (nI (n9 + 1))), (5, .int (nI (k9))), (4, .int (nI (d9) - 1)), (3, .int (nI (st9))), (1, .int (nI (came ||| (2 ^ st9)))), (0, .ref (eX V 500))]) hx hcd dX4_needs_191 hl (k := 3) rfl (by exact nI_add (n9) 1) (by decide) rfl (fun ls hl => ?_)
                            refine lv_goto (tgt := 4) hx hcd dX4_needs_194 (by decide) ?_
                            exact ih_2 (n9 + 1) (came ||| 2 ^ st9) (va_up nd st9 (1)) (by omega) (by rw [show st9 = frd B came - 1 by omega, hcm]; rfl) (or16 hcb (p16 (by omega))) (neN_s hnd hcm hfs (if_pos (by omega)).symm) (fun k hk => by have := neN_b (st := st9) (v := 1) hnb (by omega) k hk; omega) (by omega) _ _ (by rw [ndW_s (v := 1) (aOf (n := 0)).symm] at h; exact h) _ (lv_sub hl [0, 4, 5] rfl)
                        · have c_72 := cNlt (tA (n := d9) (by omega)) t0 c_72
                          have hasg := rdD_asg hd9 (by omega)
                          have hasb := asg_there hv hasg
                          have hspd := hw9 _ hasb
                          have hre9 := hr st9
                          have hes9 := he st9
                          have hdv := dv16 (a := B.1 1 st9) (s := B.1 3 (asgOf B st9 - 1)) (by omega) hspd.1 hspd.2
                          refine lv_iload hx hcd dX4_needs_134 (lv_at hl 1 rfl) ?_
                          refine lv_topi (fun z_76 e_z_76 => ?_)
                          obtain rfl : z_76 = nI (d9 - 1) := by rw [e_z_76]; exact pk_sub (b := 1) (by omega)
                          refine lv_aload_n hx hcd dX4_needs_136 rfl (lv_at hl 5 rfl) ?_
                          refine lv_iload_n hx hcd dX4_needs_137 rfl (lv_at hl 2 rfl) ?_
                          refine lv_iconst (v := nI 1) hx hcd dX4_needs_138 (by decide) ?_
                          refine k_Vi (As := [.int (nI (st9)), .int (nI 1)]) (rest := [.int (nI (d9 - 1))]) (b := eX V 500) G hC hB h (met_X4_of l V (ndW M nd) st9 1 (by omega) (by decide)) mw_1572 kv_X4_of ⟨rfl, rfl⟩ ⟨Nat.le_of_ble_eq_true rfl, Nat.le_of_ble_eq_true rfl⟩ (r_mV hC h) rfl rfl hl.1 (Nat.le_of_ble_eq_true rfl) dX4_needs_139 ⟨Nat.le_of_ble_eq_true rfl, Nat.le_of_ble_eq_true rfl⟩ (fun r u H locs hp h => ?_)
                          obtain ⟨hr9, hu9⟩ := hp
                          obtain rfl : r = nI (B.1 1 st9) := (hr9.trans (gOf_s hg hn (k := st9) (w := 1) (by omega) (by decide)))
                          rw [hu9] at h
                          have q_77 := hz.1 1 st9
                          refine lv_aload_n hx hcd dX4_needs_142 rfl (lv_at hl 5 rfl) ?_
                          refine lv_aload_n hx hcd dX4_needs_143 rfl (lv_at hl 5 rfl) ?_
                          refine lv_iload_n hx hcd dX4_needs_144 rfl (lv_at hl 2 rfl) ?_
                          refine lv_iconst (v := nI 3) hx hcd dX4_needs_145 (by decide) ?_
                          refine k_Vi (As := [.int (nI (st9)), .int (nI 3)]) (rest := [.ref (eX V 500), .int (nI (B.1 1 st9)), .int (nI (d9 - 1))]) (b := eX V 500) G hC hB h (met_X4_of l V (ndW M nd) st9 3 (by omega) (by decide)) mw_1572 kv_X4_of ⟨rfl, rfl⟩ ⟨Nat.le_of_ble_eq_true rfl, Nat.le_of_ble_eq_true rfl⟩ (r_mV hC h) rfl rfl hl.1 (Nat.le_of_ble_eq_true rfl) dX4_needs_146 ⟨Nat.le_of_ble_eq_true rfl, Nat.le_of_ble_eq_true rfl⟩ (fun r u H locs hp h => ?_)
                          obtain ⟨hr9, hu9⟩ := hp
                          obtain rfl : r = nI (asgOf B st9) - 1 := (hr9.trans (gOf_s hg hn (k := st9) (w := 3) (by omega) (by decide)))
                          rw [hu9] at h
                          have q_78 := asgOf_le B st9
                          refine lv_topi (fun z_79 e_z_79 => ?_)
                          obtain rfl : z_79 = nI ((asgOf B st9) - 1) := by rw [e_z_79]; exact pk_sub (b := 1) (by omega)
                          refine lv_iconst (v := nI 0) hx hcd dX4_needs_149 (by decide) ?_
                          refine k_Vi (As := [.int (nI ((asgOf B st9) - 1)), .int (nI 0)]) (rest := [.int (nI (B.1 1 st9)), .int (nI (d9 - 1))]) (b := eX V 500) G hC hB h (met_X4_by l V (ndW M nd) ((asgOf B st9) - 1) 0 (by omega) (by decide)) mw_1690 kv_X4_by ⟨rfl, rfl⟩ ⟨Nat.le_of_ble_eq_true rfl, Nat.le_of_ble_eq_true rfl⟩ (r_mV hC h) rfl rfl hl.1 (Nat.le_of_ble_eq_true rfl) dX4_needs_150 ⟨Nat.le_of_ble_eq_true rfl, Nat.le_of_ble_eq_true rfl⟩ (fun r u H locs hp h => ?_)
                          obtain ⟨hr9, hu9⟩ := hp
                          obtain rfl : r = nI (B.1 3 ((asgOf B st9) - 1)) := (hr9.trans (gOf_p0 hg hm (d := ((asgOf B st9) - 1)) (by omega)))
                          rw [hu9] at h
                          have q_80 := hz.1 3 ((asgOf B st9) - 1)
                          refine w_iadd (v := nI ((B.1 1 st9) + (B.1 3 ((asgOf B st9) - 1)))) hx hcd dX4_needs_153 (nI_add _ _) ?_
                          refine lv_iconst (v := nI 1) hx hcd dX4_needs_154 (by decide) ?_
                          refine w_isub (v := nI (((B.1 1 st9) + (B.1 3 ((asgOf B st9) - 1))) - 1)) hx hcd dX4_needs_155 (pk_sub (by omega)) ?_
                          refine lv_aload_n hx hcd dX4_needs_156 rfl (lv_at hl 5 rfl) ?_
                          refine lv_aload_n hx hcd dX4_needs_157 rfl (lv_at hl 5 rfl) ?_
                          refine lv_iload_n hx hcd dX4_needs_158 rfl (lv_at hl 2 rfl) ?_
                          refine lv_iconst (v := nI 3) hx hcd dX4_needs_159 (by decide) ?_
                          refine k_Vi (As := [.int (nI (st9)), .int (nI 3)]) (rest := [.ref (eX V 500), .int (nI (((B.1 1 st9) + (B.1 3 ((asgOf B st9) - 1))) - 1)), .int (nI (d9 - 1))]) (b := eX V 500) G hC hB h (met_X4_of l V (ndW M nd) st9 3 (by omega) (by decide)) mw_1572 kv_X4_of ⟨rfl, rfl⟩ ⟨Nat.le_of_ble_eq_true rfl, Nat.le_of_ble_eq_true rfl⟩ (r_mV hC h) rfl rfl hl.1 (Nat.le_of_ble_eq_true rfl) dX4_needs_160 ⟨Nat.le_of_ble_eq_true rfl, Nat.le_of_ble_eq_true rfl⟩ (fun r u H locs hp h => ?_)
                          obtain ⟨hr9, hu9⟩ := hp
                          obtain rfl : r = nI (asgOf B st9) - 1 := (hr9.trans (gOf_s hg hn (k := st9) (w := 3) (by omega) (by decide)))
                          rw [hu9] at h
                          have q_83 := asgOf_le B st9
                          refine lv_topi (fun z_84 e_z_84 => ?_)
                          obtain rfl : z_84 = nI ((asgOf B st9) - 1) := by rw [e_z_84]; exact pk_sub (b := 1) (by omega)
                          refine lv_iconst (v := nI 0) hx hcd dX4_needs_163 (by decide) ?_
                          refine k_Vi (As := [.int (nI ((asgOf B st9) - 1)), .int (nI 0)]) (rest := [.int (nI (((B.1 1 st9) + (B.1 3 ((asgOf B st9) - 1))) - 1)), .int (nI (d9 - 1))]) (b := eX V 500) G hC hB h (met_X4_by l V (ndW M nd) ((asgOf B st9) - 1) 0 (by omega) (by decide)) mw_1690 kv_X4_by ⟨rfl, rfl⟩ ⟨Nat.le_of_ble_eq_true rfl, Nat.le_of_ble_eq_true rfl⟩ (r_mV hC h) rfl rfl hl.1 (Nat.le_of_ble_eq_true rfl) dX4_needs_164 ⟨Nat.le_of_ble_eq_true rfl, Nat.le_of_ble_eq_true rfl⟩ (fun r u H locs hp h => ?_)
                          obtain ⟨hr9, hu9⟩ := hp
                          obtain rfl : r = nI (B.1 3 ((asgOf B st9) - 1)) := (hr9.trans (gOf_p0 hg hm (d := ((asgOf B st9) - 1)) (by omega)))
                          rw [hu9] at h
                          have q_85 := hz.1 3 ((asgOf B st9) - 1)
                          refine w_idiv (v := nI ((((B.1 1 st9) + (B.1 3 ((asgOf B st9) - 1))) - 1) / (B.1 3 ((asgOf B st9) - 1)))) hx hcd dX4_needs_167 (nI_ne0 (by omega) (by omega)) (pk_div (by omega) (by omega) (by omega)) ?_
                          refine w_iadd (v := nI ((d9 - 1) + ((((B.1 1 st9) + (B.1 3 ((asgOf B st9) - 1))) - 1) / (B.1 3 ((asgOf B st9) - 1))))) hx hcd dX4_needs_168 (nI_add _ _) ?_
                          refine lv_istore (lv' := [(4, .int (nI ((d9 - 1) + ((((B.1 1 st9) + (B.1 3 ((asgOf B st9) - 1))) - 1) / (B.1 3 ((asgOf B st9) - 1)))))), (5, .int (nI (k9))), (3, .int (nI (st9))), (2, .int (nI (n9))), (1, .int (nI (came ||| (2 ^ st9)))), (0, .ref (eX V 500))]) hx hcd dX4_needs_169 hl (by decide) rfl (fun ls hl => ?_)
                          refine lv_aload_n hx hcd dX4_needs_171 rfl (lv_at hl 5 rfl) ?_
                          refine r_mA G hC h 7 (by decide) mw_1487 dX4_needs_172 ?_
                          refine lv_iload_n hx hcd dX4_needs_175 rfl (lv_at hl 2 rfl) ?_
                          refine lv_aload_n hx hcd dX4_needs_176 rfl (lv_at hl 5 rfl) ?_
                          refine lv_iload_n hx hcd dX4_needs_177 rfl (lv_at hl 2 rfl) ?_
                          refine k_Vi (As := [.int (nI (st9))]) (rest := [.int (nI (st9)), .ref (eX V (501 + 7))]) (b := eX V 500) G hC hB h (met_X4_isOver l V (ndW M nd) B hg hI0 st9 (by omega)) mw_1568 kv_X4_isOver ⟨rfl, rfl⟩ ⟨Nat.le_of_ble_eq_true rfl, Nat.le_of_ble_eq_true rfl⟩ (r_mV hC h) rfl rfl hl.1 (Nat.le_of_ble_eq_true rfl) dX4_needs_178 ⟨Nat.le_of_ble_eq_true rfl, Nat.le_of_ble_eq_true rfl⟩ (fun r u H locs hp h => ?_)
                          obtain ⟨hr9, hu9⟩ := hp
                          obtain rfl : r = bz (decide (B.1 1 st9 = 0)) := hr9
                          rw [hu9] at h
                          refine lv_if_eq (tgt := 188) hx hcd dX4_needs_181 (by decide) (fun c_88 => ?_) (fun c_88 => ?_)
                          · have c_88 := bz0 c_88
                            have f_90 := of_decide_eq_false c_88
                            refine lv_iload hx hcd dX4_needs_188 (lv_at hl 0 rfl) ?_
                            refine r_mT G hC h 7 (st9) (by decide) (by decide) rfl (show st9 < 16 by omega) rfl dX4_needs_190 (fun H locs h => ?_)
                            refine lv_iinc (v := nI (n9 + 1)) (lv' := [(2, .int (nI (n9 + 1))), (4, .int (nI ((d9 - 1) + ((((B.1 1 st9) + (B.1 3 ((asgOf B st9) - 1))) - 1) / (B.1 3 ((asgOf B st9) - 1)))))), (5, .int (nI (k9))), (3, .int (nI (st9))), (1, .int (nI (came ||| (2 ^ st9)))), (0, .ref (eX V 500))]) hx hcd dX4_needs_191 hl (k := 3) rfl (by exact nI_add (n9) 1) (by decide) rfl (fun ls hl => ?_)
                            refine lv_goto (tgt := 4) hx hcd dX4_needs_194 (by decide) ?_
                            exact ih_2 (n9 + 1) (came ||| 2 ^ st9) (va_up nd st9 (d9 + (B.1 1 st9 + B.1 3 (asgOf B st9 - 1) - 1) / B.1 3 (asgOf B st9 - 1))) (by omega) (by rw [show st9 = frd B came - 1 by omega, hcm]; rfl) (or16 hcb (p16 (by omega))) (neN_s hnd hcm hfs (by unfold ndV; rw [if_neg (by omega), if_neg (by omega), ← hdd])) (fun k hk => by have := neN_b (st := st9) (v := d9 + (B.1 1 st9 + B.1 3 (asgOf B st9 - 1) - 1) / B.1 3 (asgOf B st9 - 1)) hnb (by omega) k hk; omega) (by omega) _ _ (by rw [ndW_s (v := d9 + (B.1 1 st9 + B.1 3 (asgOf B st9 - 1) - 1) / B.1 3 (asgOf B st9 - 1)) (by rw [show d9 + (B.1 1 st9 + B.1 3 (asgOf B st9 - 1) - 1) / B.1 3 (asgOf B st9 - 1) = d9 - 1 + (B.1 1 st9 + B.1 3 (asgOf B st9 - 1) - 1) / B.1 3 (asgOf B st9 - 1) + 1 by omega]; exact aOf.symm)] at h; exact h) _ (lv_sub hl [0, 4, 5] rfl)
                          · have c_88 := bz1 c_88
                            have f_89 := of_decide_eq_true c_88
                            refine lv_iconst (v := nI 0) hx hcd dX4_needs_184 (by decide) ?_
                            refine lv_goto (tgt := 190) hx hcd dX4_needs_185 (by decide) ?_
                            refine r_mT G hC h 7 (st9) (by decide) (by decide) rfl (show st9 < 16 by omega) rfl dX4_needs_190 (fun H locs h => ?_)
                            refine lv_iinc (v := nI (n9 + 1)) (lv' := [(2, .int (nI (n9 + 1))), (4, .int (nI ((d9 - 1) + ((((B.1 1 st9) + (B.1 3 ((asgOf B st9) - 1))) - 1) / (B.1 3 ((asgOf B st9) - 1)))))), (5, .int (nI (k9))), (3, .int (nI (st9))), (1, .int (nI (came ||| (2 ^ st9)))), (0, .ref (eX V 500))]) hx hcd dX4_needs_191 hl (k := 3) rfl (by exact nI_add (n9) 1) (by decide) rfl (fun ls hl => ?_)
                            refine lv_goto (tgt := 4) hx hcd dX4_needs_194 (by decide) ?_
                            exact ih_2 (n9 + 1) (came ||| 2 ^ st9) (va_up nd st9 (1)) (by omega) (by rw [show st9 = frd B came - 1 by omega, hcm]; rfl) (or16 hcb (p16 (by omega))) (neN_s hnd hcm hfs (if_pos (by omega)).symm) (fun k hk => by have := neN_b (st := st9) (v := 1) hnb (by omega) k hk; omega) (by omega) _ _ (by rw [ndW_s (v := 1) (aOf (n := 0)).symm] at h; exact h) _ (lv_sub hl [0, 4, 5] rfl)
                      · have c_71 := cNle (tN (n := B.2 0) (by omega)) (tN (n := k9) (by omega)) c_71
                        refine lv_iload hx hcd dX4_needs_80 (lv_at hl 1 rfl) ?_
                        refine lv_if_lt (tgt := 129) hx hcd dX4_needs_82 (by decide) (fun c_91 => ?_) (fun c_91 => ?_)
                        · have c_91 := cLt (tA (n := d9) (by omega)) t0 c_91
                          have hdd : d9 = rdD B nd st9 (B.2 0) := rdD_end hd9 hk9 (by omega)
                          refine lv_iload hx hcd dX4_needs_129 (lv_at hl 1 rfl) ?_
                          refine lv_if_lt (tgt := 171) hx hcd dX4_needs_131 (by decide) (fun c_92 => ?_) (fun c_92 => ?_)
                          · have c_92 := cLt (tA (n := d9) (by omega)) t0 c_92
                            refine lv_aload_n hx hcd dX4_needs_171 rfl (lv_at hl 5 rfl) ?_
                            refine r_mA G hC h 7 (by decide) mw_1487 dX4_needs_172 ?_
                            refine lv_iload_n hx hcd dX4_needs_175 rfl (lv_at hl 2 rfl) ?_
                            refine lv_aload_n hx hcd dX4_needs_176 rfl (lv_at hl 5 rfl) ?_
                            refine lv_iload_n hx hcd dX4_needs_177 rfl (lv_at hl 2 rfl) ?_
                            refine k_Vi (As := [.int (nI (st9))]) (rest := [.int (nI (st9)), .ref (eX V (501 + 7))]) (b := eX V 500) G hC hB h (met_X4_isOver l V (ndW M nd) B hg hI0 st9 (by omega)) mw_1568 kv_X4_isOver ⟨rfl, rfl⟩ ⟨Nat.le_of_ble_eq_true rfl, Nat.le_of_ble_eq_true rfl⟩ (r_mV hC h) rfl rfl hl.1 (Nat.le_of_ble_eq_true rfl) dX4_needs_178 ⟨Nat.le_of_ble_eq_true rfl, Nat.le_of_ble_eq_true rfl⟩ (fun r u H locs hp h => ?_)
                            obtain ⟨hr9, hu9⟩ := hp
                            obtain rfl : r = bz (decide (B.1 1 st9 = 0)) := hr9
                            rw [hu9] at h
                            refine lv_if_eq (tgt := 188) hx hcd dX4_needs_181 (by decide) (fun c_93 => ?_) (fun c_93 => ?_)
                            · have c_93 := bz0 c_93
                              have f_95 := of_decide_eq_false c_93
                              refine lv_iload hx hcd dX4_needs_188 (lv_at hl 1 rfl) ?_
                              refine r_mT G hC h 7 (st9) (by decide) (by decide) rfl (show st9 < 16 by omega) rfl dX4_needs_190 (fun H locs h => ?_)
                              refine lv_iinc (v := nI (n9 + 1)) (lv' := [(2, .int (nI (n9 + 1))), (5, .int (nI (k9))), (4, .int (nI (d9) - 1)), (3, .int (nI (st9))), (1, .int (nI (came ||| (2 ^ st9)))), (0, .ref (eX V 500))]) hx hcd dX4_needs_191 hl (k := 3) rfl (by exact nI_add (n9) 1) (by decide) rfl (fun ls hl => ?_)
                              refine lv_goto (tgt := 4) hx hcd dX4_needs_194 (by decide) ?_
                              exact ih_2 (n9 + 1) (came ||| 2 ^ st9) (va_up nd st9 (d9)) (by omega) (by rw [show st9 = frd B came - 1 by omega, hcm]; rfl) (or16 hcb (p16 (by omega))) (neN_s hnd hcm hfs (by unfold ndV; rw [if_neg (by omega), if_pos (by omega)]; omega)) (fun k hk => by have := neN_b (st := st9) (v := d9) hnb (by omega) k hk; omega) (by omega) _ _ (by rw [ndW_s (v := d9) rfl] at h; exact h) _ (lv_sub hl [0, 4, 5] rfl)
                            · have c_93 := bz1 c_93
                              have f_94 := of_decide_eq_true c_93
                              refine lv_iconst (v := nI 0) hx hcd dX4_needs_184 (by decide) ?_
                              refine lv_goto (tgt := 190) hx hcd dX4_needs_185 (by decide) ?_
                              refine r_mT G hC h 7 (st9) (by decide) (by decide) rfl (show st9 < 16 by omega) rfl dX4_needs_190 (fun H locs h => ?_)
                              refine lv_iinc (v := nI (n9 + 1)) (lv' := [(2, .int (nI (n9 + 1))), (5, .int (nI (k9))), (4, .int (nI (d9) - 1)), (3, .int (nI (st9))), (1, .int (nI (came ||| (2 ^ st9)))), (0, .ref (eX V 500))]) hx hcd dX4_needs_191 hl (k := 3) rfl (by exact nI_add (n9) 1) (by decide) rfl (fun ls hl => ?_)
                              refine lv_goto (tgt := 4) hx hcd dX4_needs_194 (by decide) ?_
                              exact ih_2 (n9 + 1) (came ||| 2 ^ st9) (va_up nd st9 (1)) (by omega) (by rw [show st9 = frd B came - 1 by omega, hcm]; rfl) (or16 hcb (p16 (by omega))) (neN_s hnd hcm hfs (if_pos (by omega)).symm) (fun k hk => by have := neN_b (st := st9) (v := 1) hnb (by omega) k hk; omega) (by omega) _ _ (by rw [ndW_s (v := 1) (aOf (n := 0)).symm] at h; exact h) _ (lv_sub hl [0, 4, 5] rfl)
                          · have c_92 := cNlt (tA (n := d9) (by omega)) t0 c_92
                            have hasg := rdD_asg hd9 (by omega)
                            have hasb := asg_there hv hasg
                            have hspd := hw9 _ hasb
                            have hre9 := hr st9
                            have hes9 := he st9
                            have hdv := dv16 (a := B.1 1 st9) (s := B.1 3 (asgOf B st9 - 1)) (by omega) hspd.1 hspd.2
                            refine lv_iload hx hcd dX4_needs_134 (lv_at hl 1 rfl) ?_
                            refine lv_topi (fun z_96 e_z_96 => ?_)
                            obtain rfl : z_96 = nI (d9 - 1) := by rw [e_z_96]; exact pk_sub (b := 1) (by omega)
                            refine lv_aload_n hx hcd dX4_needs_136 rfl (lv_at hl 5 rfl) ?_
                            refine lv_iload_n hx hcd dX4_needs_137 rfl (lv_at hl 2 rfl) ?_
                            refine lv_iconst (v := nI 1) hx hcd dX4_needs_138 (by decide) ?_
                            refine k_Vi (As := [.int (nI (st9)), .int (nI 1)]) (rest := [.int (nI (d9 - 1))]) (b := eX V 500) G hC hB h (met_X4_of l V (ndW M nd) st9 1 (by omega) (by decide)) mw_1572 kv_X4_of ⟨rfl, rfl⟩ ⟨Nat.le_of_ble_eq_true rfl, Nat.le_of_ble_eq_true rfl⟩ (r_mV hC h) rfl rfl hl.1 (Nat.le_of_ble_eq_true rfl) dX4_needs_139 ⟨Nat.le_of_ble_eq_true rfl, Nat.le_of_ble_eq_true rfl⟩ (fun r u H locs hp h => ?_)
                            obtain ⟨hr9, hu9⟩ := hp
                            obtain rfl : r = nI (B.1 1 st9) := (hr9.trans (gOf_s hg hn (k := st9) (w := 1) (by omega) (by decide)))
                            rw [hu9] at h
                            have q_97 := hz.1 1 st9
                            refine lv_aload_n hx hcd dX4_needs_142 rfl (lv_at hl 5 rfl) ?_
                            refine lv_aload_n hx hcd dX4_needs_143 rfl (lv_at hl 5 rfl) ?_
                            refine lv_iload_n hx hcd dX4_needs_144 rfl (lv_at hl 2 rfl) ?_
                            refine lv_iconst (v := nI 3) hx hcd dX4_needs_145 (by decide) ?_
                            refine k_Vi (As := [.int (nI (st9)), .int (nI 3)]) (rest := [.ref (eX V 500), .int (nI (B.1 1 st9)), .int (nI (d9 - 1))]) (b := eX V 500) G hC hB h (met_X4_of l V (ndW M nd) st9 3 (by omega) (by decide)) mw_1572 kv_X4_of ⟨rfl, rfl⟩ ⟨Nat.le_of_ble_eq_true rfl, Nat.le_of_ble_eq_true rfl⟩ (r_mV hC h) rfl rfl hl.1 (Nat.le_of_ble_eq_true rfl) dX4_needs_146 ⟨Nat.le_of_ble_eq_true rfl, Nat.le_of_ble_eq_true rfl⟩ (fun r u H locs hp h => ?_)
                            obtain ⟨hr9, hu9⟩ := hp
                            obtain rfl : r = nI (asgOf B st9) - 1 := (hr9.trans (gOf_s hg hn (k := st9) (w := 3) (by omega) (by decide)))
                            rw [hu9] at h
                            have q_98 := asgOf_le B st9
                            refine lv_topi (fun z_99 e_z_99 => ?_)
                            obtain rfl : z_99 = nI ((asgOf B st9) - 1) := by rw [e_z_99]; exact pk_sub (b := 1) (by omega)
                            refine lv_iconst (v := nI 0) hx hcd dX4_needs_149 (by decide) ?_
                            refine k_Vi (As := [.int (nI ((asgOf B st9) - 1)), .int (nI 0)]) (rest := [.int (nI (B.1 1 st9)), .int (nI (d9 - 1))]) (b := eX V 500) G hC hB h (met_X4_by l V (ndW M nd) ((asgOf B st9) - 1) 0 (by omega) (by decide)) mw_1690 kv_X4_by ⟨rfl, rfl⟩ ⟨Nat.le_of_ble_eq_true rfl, Nat.le_of_ble_eq_true rfl⟩ (r_mV hC h) rfl rfl hl.1 (Nat.le_of_ble_eq_true rfl) dX4_needs_150 ⟨Nat.le_of_ble_eq_true rfl, Nat.le_of_ble_eq_true rfl⟩ (fun r u H locs hp h => ?_)
                            obtain ⟨hr9, hu9⟩ := hp
                            obtain rfl : r = nI (B.1 3 ((asgOf B st9) - 1)) := (hr9.trans (gOf_p0 hg hm (d := ((asgOf B st9) - 1)) (by omega)))
                            rw [hu9] at h
                            have q_100 := hz.1 3 ((asgOf B st9) - 1)
                            refine w_iadd (v := nI ((B.1 1 st9) + (B.1 3 ((asgOf B st9) - 1)))) hx hcd dX4_needs_153 (nI_add _ _) ?_
                            refine lv_iconst (v := nI 1) hx hcd dX4_needs_154 (by decide) ?_
                            refine w_isub (v := nI (((B.1 1 st9) + (B.1 3 ((asgOf B st9) - 1))) - 1)) hx hcd dX4_needs_155 (pk_sub (by omega)) ?_
                            refine lv_aload_n hx hcd dX4_needs_156 rfl (lv_at hl 5 rfl) ?_
                            refine lv_aload_n hx hcd dX4_needs_157 rfl (lv_at hl 5 rfl) ?_
                            refine lv_iload_n hx hcd dX4_needs_158 rfl (lv_at hl 2 rfl) ?_
                            refine lv_iconst (v := nI 3) hx hcd dX4_needs_159 (by decide) ?_
                            refine k_Vi (As := [.int (nI (st9)), .int (nI 3)]) (rest := [.ref (eX V 500), .int (nI (((B.1 1 st9) + (B.1 3 ((asgOf B st9) - 1))) - 1)), .int (nI (d9 - 1))]) (b := eX V 500) G hC hB h (met_X4_of l V (ndW M nd) st9 3 (by omega) (by decide)) mw_1572 kv_X4_of ⟨rfl, rfl⟩ ⟨Nat.le_of_ble_eq_true rfl, Nat.le_of_ble_eq_true rfl⟩ (r_mV hC h) rfl rfl hl.1 (Nat.le_of_ble_eq_true rfl) dX4_needs_160 ⟨Nat.le_of_ble_eq_true rfl, Nat.le_of_ble_eq_true rfl⟩ (fun r u H locs hp h => ?_)
                            obtain ⟨hr9, hu9⟩ := hp
                            obtain rfl : r = nI (asgOf B st9) - 1 := (hr9.trans (gOf_s hg hn (k := st9) (w := 3) (by omega) (by decide)))
                            rw [hu9] at h
                            have q_103 := asgOf_le B st9
                            refine lv_topi (fun z_104 e_z_104 => ?_)
                            obtain rfl : z_104 = nI ((asgOf B st9) - 1) := by rw [e_z_104]; exact pk_sub (b := 1) (by omega)
                            refine lv_iconst (v := nI 0) hx hcd dX4_needs_163 (by decide) ?_
                            refine k_Vi (As := [.int (nI ((asgOf B st9) - 1)), .int (nI 0)]) (rest := [.int (nI (((B.1 1 st9) + (B.1 3 ((asgOf B st9) - 1))) - 1)), .int (nI (d9 - 1))]) (b := eX V 500) G hC hB h (met_X4_by l V (ndW M nd) ((asgOf B st9) - 1) 0 (by omega) (by decide)) mw_1690 kv_X4_by ⟨rfl, rfl⟩ ⟨Nat.le_of_ble_eq_true rfl, Nat.le_of_ble_eq_true rfl⟩ (r_mV hC h) rfl rfl hl.1 (Nat.le_of_ble_eq_true rfl) dX4_needs_164 ⟨Nat.le_of_ble_eq_true rfl, Nat.le_of_ble_eq_true rfl⟩ (fun r u H locs hp h => ?_)
                            obtain ⟨hr9, hu9⟩ := hp
                            obtain rfl : r = nI (B.1 3 ((asgOf B st9) - 1)) := (hr9.trans (gOf_p0 hg hm (d := ((asgOf B st9) - 1)) (by omega)))
                            rw [hu9] at h
                            have q_105 := hz.1 3 ((asgOf B st9) - 1)
                            refine w_idiv (v := nI ((((B.1 1 st9) + (B.1 3 ((asgOf B st9) - 1))) - 1) / (B.1 3 ((asgOf B st9) - 1)))) hx hcd dX4_needs_167 (nI_ne0 (by omega) (by omega)) (pk_div (by omega) (by omega) (by omega)) ?_
                            refine w_iadd (v := nI ((d9 - 1) + ((((B.1 1 st9) + (B.1 3 ((asgOf B st9) - 1))) - 1) / (B.1 3 ((asgOf B st9) - 1))))) hx hcd dX4_needs_168 (nI_add _ _) ?_
                            refine lv_istore (lv' := [(4, .int (nI ((d9 - 1) + ((((B.1 1 st9) + (B.1 3 ((asgOf B st9) - 1))) - 1) / (B.1 3 ((asgOf B st9) - 1)))))), (5, .int (nI (k9))), (3, .int (nI (st9))), (2, .int (nI (n9))), (1, .int (nI (came ||| (2 ^ st9)))), (0, .ref (eX V 500))]) hx hcd dX4_needs_169 hl (by decide) rfl (fun ls hl => ?_)
                            refine lv_aload_n hx hcd dX4_needs_171 rfl (lv_at hl 5 rfl) ?_
                            refine r_mA G hC h 7 (by decide) mw_1487 dX4_needs_172 ?_
                            refine lv_iload_n hx hcd dX4_needs_175 rfl (lv_at hl 2 rfl) ?_
                            refine lv_aload_n hx hcd dX4_needs_176 rfl (lv_at hl 5 rfl) ?_
                            refine lv_iload_n hx hcd dX4_needs_177 rfl (lv_at hl 2 rfl) ?_
                            refine k_Vi (As := [.int (nI (st9))]) (rest := [.int (nI (st9)), .ref (eX V (501 + 7))]) (b := eX V 500) G hC hB h (met_X4_isOver l V (ndW M nd) B hg hI0 st9 (by omega)) mw_1568 kv_X4_isOver ⟨rfl, rfl⟩ ⟨Nat.le_of_ble_eq_true rfl, Nat.le_of_ble_eq_true rfl⟩ (r_mV hC h) rfl rfl hl.1 (Nat.le_of_ble_eq_true rfl) dX4_needs_178 ⟨Nat.le_of_ble_eq_true rfl, Nat.le_of_ble_eq_true rfl⟩ (fun r u H locs hp h => ?_)
                            obtain ⟨hr9, hu9⟩ := hp
                            obtain rfl : r = bz (decide (B.1 1 st9 = 0)) := hr9
                            rw [hu9] at h
                            refine lv_if_eq (tgt := 188) hx hcd dX4_needs_181 (by decide) (fun c_108 => ?_) (fun c_108 => ?_)
                            · have c_108 := bz0 c_108
                              have f_110 := of_decide_eq_false c_108
                              refine lv_iload hx hcd dX4_needs_188 (lv_at hl 0 rfl) ?_
                              refine r_mT G hC h 7 (st9) (by decide) (by decide) rfl (show st9 < 16 by omega) rfl dX4_needs_190 (fun H locs h => ?_)
                              refine lv_iinc (v := nI (n9 + 1)) (lv' := [(2, .int (nI (n9 + 1))), (4, .int (nI ((d9 - 1) + ((((B.1 1 st9) + (B.1 3 ((asgOf B st9) - 1))) - 1) / (B.1 3 ((asgOf B st9) - 1)))))), (5, .int (nI (k9))), (3, .int (nI (st9))), (1, .int (nI (came ||| (2 ^ st9)))), (0, .ref (eX V 500))]) hx hcd dX4_needs_191 hl (k := 3) rfl (by exact nI_add (n9) 1) (by decide) rfl (fun ls hl => ?_)
                              refine lv_goto (tgt := 4) hx hcd dX4_needs_194 (by decide) ?_
                              exact ih_2 (n9 + 1) (came ||| 2 ^ st9) (va_up nd st9 (d9 + (B.1 1 st9 + B.1 3 (asgOf B st9 - 1) - 1) / B.1 3 (asgOf B st9 - 1))) (by omega) (by rw [show st9 = frd B came - 1 by omega, hcm]; rfl) (or16 hcb (p16 (by omega))) (neN_s hnd hcm hfs (by unfold ndV; rw [if_neg (by omega), if_neg (by omega), ← hdd])) (fun k hk => by have := neN_b (st := st9) (v := d9 + (B.1 1 st9 + B.1 3 (asgOf B st9 - 1) - 1) / B.1 3 (asgOf B st9 - 1)) hnb (by omega) k hk; omega) (by omega) _ _ (by rw [ndW_s (v := d9 + (B.1 1 st9 + B.1 3 (asgOf B st9 - 1) - 1) / B.1 3 (asgOf B st9 - 1)) (by rw [show d9 + (B.1 1 st9 + B.1 3 (asgOf B st9 - 1) - 1) / B.1 3 (asgOf B st9 - 1) = d9 - 1 + (B.1 1 st9 + B.1 3 (asgOf B st9 - 1) - 1) / B.1 3 (asgOf B st9 - 1) + 1 by omega]; exact aOf.symm)] at h; exact h) _ (lv_sub hl [0, 4, 5] rfl)
                            · have c_108 := bz1 c_108
                              have f_109 := of_decide_eq_true c_108
                              refine lv_iconst (v := nI 0) hx hcd dX4_needs_184 (by decide) ?_
                              refine lv_goto (tgt := 190) hx hcd dX4_needs_185 (by decide) ?_
                              refine r_mT G hC h 7 (st9) (by decide) (by decide) rfl (show st9 < 16 by omega) rfl dX4_needs_190 (fun H locs h => ?_)
                              refine lv_iinc (v := nI (n9 + 1)) (lv' := [(2, .int (nI (n9 + 1))), (4, .int (nI ((d9 - 1) + ((((B.1 1 st9) + (B.1 3 ((asgOf B st9) - 1))) - 1) / (B.1 3 ((asgOf B st9) - 1)))))), (5, .int (nI (k9))), (3, .int (nI (st9))), (1, .int (nI (came ||| (2 ^ st9)))), (0, .ref (eX V 500))]) hx hcd dX4_needs_191 hl (k := 3) rfl (by exact nI_add (n9) 1) (by decide) rfl (fun ls hl => ?_)
                              refine lv_goto (tgt := 4) hx hcd dX4_needs_194 (by decide) ?_
                              exact ih_2 (n9 + 1) (came ||| 2 ^ st9) (va_up nd st9 (1)) (by omega) (by rw [show st9 = frd B came - 1 by omega, hcm]; rfl) (or16 hcb (p16 (by omega))) (neN_s hnd hcm hfs (if_pos (by omega)).symm) (fun k hk => by have := neN_b (st := st9) (v := 1) hnb (by omega) k hk; omega) (by omega) _ _ (by rw [ndW_s (v := 1) (aOf (n := 0)).symm] at h; exact h) _ (lv_sub hl [0, 4, 5] rfl)
                        · have c_91 := cNlt (tA (n := d9) (by omega)) t0 c_91
                          refine lv_aload_n hx hcd dX4_needs_85 rfl (lv_at hl 5 rfl) ?_
                          refine lv_iload_n hx hcd dX4_needs_86 rfl (lv_at hl 2 rfl) ?_
                          refine lv_iload hx hcd dX4_needs_87 (lv_at hl 0 rfl) ?_
                          refine k_Vi (As := [.int (nI (st9)), .int (nI (k9))]) (rest := []) (b := eX V 500) G hC hB h (met_X4_bars l V (ndW M nd) B hg hI0 st9 (by omega) k9 (by omega)) mw_1591 kv_X4_bars ⟨rfl, rfl⟩ ⟨Nat.le_of_ble_eq_true rfl, Nat.le_of_ble_eq_true rfl⟩ (r_mV hC h) rfl rfl hl.1 (Nat.le_of_ble_eq_true rfl) dX4_needs_89 ⟨Nat.le_of_ble_eq_true rfl, Nat.le_of_ble_eq_true rfl⟩ (fun r u H locs hp h => ?_)
                          obtain ⟨hr9, hu9⟩ := hp
                          obtain rfl : r = bz ((B.1 2 st9).testBit k9) := hr9
                          rw [hu9] at h
                          refine lv_if_eq (tgt := 123) hx hcd dX4_needs_92 (by decide) (fun c_111 => ?_) (fun c_111 => ?_)
                          · have c_111 := bz0 c_111
                            refine lv_iinc (v := nI (k9 + 1)) (lv' := [(5, .int (nI (k9 + 1))), (4, .int (nI (d9) - 1)), (3, .int (nI (st9))), (2, .int (nI (n9))), (1, .int (nI (came ||| (2 ^ st9)))), (0, .ref (eX V 500))]) hx hcd dX4_needs_123 hl (k := 0) rfl (by exact nI_add (k9) 1) (by decide) rfl (fun ls hl => ?_)
                            refine lv_goto (tgt := 69) hx hcd dX4_needs_126 (by decide) ?_
                            exact ih_68 (k9 + 1) d9 (by omega) (rdD_f hd9 (by omega) (by first | assumption | (rw [Bool.not_eq_true] at *; assumption))) hdb (by omega) _ _ h _ (lv_sub hl [0, 1, 2, 3, 4, 5] rfl)
                          · have c_111 := bz1 c_111
                            refine lv_aload_n hx hcd dX4_needs_95 rfl (lv_at hl 5 rfl) ?_
                            refine r_mA G hC h 7 (by decide) mw_1487 dX4_needs_96 ?_
                            refine lv_iload hx hcd dX4_needs_99 (lv_at hl 0 rfl) ?_
                            refine r_mL G hC h 7 (k9) (by decide) (by decide) rfl (show k9 < 16 by omega) (x := nI (nd k9) - 1) rfl dX4_needs_101 ?_
                            have q_112 := hnb k9 (andn_sub han (by assumption) (by omega))
                            refine lv_if_ge (tgt := 109) hx hcd dX4_needs_102 (by decide) (fun c_113 => ?_) (fun c_113 => ?_)
                            · have c_113 := cLe t0 (tA (n := nd k9) (by omega)) c_113
                              refine lv_iload hx hcd dX4_needs_109 (lv_at hl 1 rfl) ?_
                              refine lv_aload_n hx hcd dX4_needs_111 rfl (lv_at hl 5 rfl) ?_
                              refine r_mA G hC h 7 (by decide) mw_1487 dX4_needs_112 ?_
                              refine lv_iload hx hcd dX4_needs_115 (lv_at hl 0 rfl) ?_
                              refine r_mL G hC h 7 (k9) (by decide) (by decide) rfl (show k9 < 16 by omega) (x := nI (nd k9) - 1) rfl dX4_needs_117 ?_
                              have q_114 := hnb k9 (andn_sub han (by assumption) (by omega))
                              refine k_Si (As := [.int (nI (d9) - 1), .int (nI (nd k9) - 1)]) (rest := []) G hC hB h (met_X4_most l V (ndW M nd) (nI (d9) - 1) (nI (nd k9) - 1)) mw_1671 ks_X4_most ⟨rfl, rfl⟩ ⟨Nat.le_of_ble_eq_true rfl, Nat.le_of_ble_eq_true rfl⟩ rfl rfl hl.1 (Nat.le_of_ble_eq_true rfl) dX4_needs_118 ⟨Nat.le_of_ble_eq_true rfl, Nat.le_of_ble_eq_true rfl⟩ (fun r u H locs hp h => ?_)
                              obtain ⟨hr9, hu9⟩ := hp
                              obtain rfl : r = nI (max d9 (nd k9)) - 1 := (hr9.trans (n_mostA (by omega) (by omega)))
                              rw [hu9] at h
                              refine lv_istore (lv' := [(4, .int (nI (max d9 (nd k9)) - 1)), (5, .int (nI (k9))), (3, .int (nI (st9))), (2, .int (nI (n9))), (1, .int (nI (came ||| (2 ^ st9)))), (0, .ref (eX V 500))]) hx hcd dX4_needs_121 hl (by decide) rfl (fun ls hl => ?_)
                              refine lv_iinc (v := nI (k9 + 1)) (lv' := [(5, .int (nI (k9 + 1))), (4, .int (nI (max d9 (nd k9)) - 1)), (3, .int (nI (st9))), (2, .int (nI (n9))), (1, .int (nI (came ||| (2 ^ st9)))), (0, .ref (eX V 500))]) hx hcd dX4_needs_123 hl (k := 1) rfl (by exact nI_add (k9) 1) (by decide) rfl (fun ls hl => ?_)
                              refine lv_goto (tgt := 69) hx hcd dX4_needs_126 (by decide) ?_
                              exact ih_68 (k9 + 1) (max d9 (nd k9)) (by omega) (rdD_t hd9 (by omega) (by assumption) (by omega)) (by omega) (by omega) _ _ h _ (lv_sub hl [0, 1, 2, 3, 4, 5] rfl)
                            · have c_113 := cNle t0 (tA (n := nd k9) (by omega)) c_113
                              refine lv_iconst (v := -1) hx hcd dX4_needs_105 (by decide) ?_
                              refine lv_goto (tgt := 121) hx hcd dX4_needs_106 (by decide) ?_
                              refine lv_istore (lv' := [(4, .int (-1)), (5, .int (nI (k9))), (3, .int (nI (st9))), (2, .int (nI (n9))), (1, .int (nI (came ||| (2 ^ st9)))), (0, .ref (eX V 500))]) hx hcd dX4_needs_121 hl (by decide) rfl (fun ls hl => ?_)
                              rw [show (-1 : Int32) = nI 0 - 1 from a0.symm] at hl
                              refine lv_iinc (v := nI (k9 + 1)) (lv' := [(5, .int (nI (k9 + 1))), (4, .int (nI (0) - 1)), (3, .int (nI (st9))), (2, .int (nI (n9))), (1, .int (nI (came ||| (2 ^ st9)))), (0, .ref (eX V 500))]) hx hcd dX4_needs_123 hl (k := 1) rfl (by exact nI_add (k9) 1) (by decide) rfl (fun ls hl => ?_)
                              refine lv_goto (tgt := 69) hx hcd dX4_needs_126 (by decide) ?_
                              exact ih_68 (k9 + 1) 0 (by omega) (rdD_n hd9 (by omega) (by assumption) (by omega)) (by omega) (by omega) _ _ h _ (lv_sub hl [0, 1, 2, 3, 4, 5] rfl)
                  exact L_67 (B.2 0 + 1) 0 0 (Nat.zero_le _) hd0 (by omega) (by omega) _ _ h _ (lv_sub hl [0, 1, 3, 4, 2, 5] rfl)
              · have c_14 := cNe (tN (n := andn (B.1 2 st9) came) (by omega)) t0 c_14
                refine lv_iinc (v := nI (st9 + 1)) (lv' := [(3, .int (nI (st9 + 1))), (2, .int (nI (n9))), (1, .int (nI (came))), (0, .ref (eX V 500))]) hx hcd dX4_needs_38 hl (k := 0) rfl (by exact nI_add (st9) 1) (by decide) rfl (fun ls hl => ?_)
                refine lv_goto (tgt := 16) hx hcd dX4_needs_41 (by decide) ?_
                exact ih_7 (st9 + 1) (frd_go hst (fun z => by first | exact Bool.noConfusion (z.1.symm.trans (tb_t (by omega))) | exact absurd z.2 (by omega))) (by omega) _ _ h _ (lv_sub hl [0, 1, 2, 3] rfl)
        exact L_6 (17 + 1) 0 (Nat.pos_of_ne_zero hrn) (by omega) _ _ h _ (lv_sub hl [0, 1, 2, 3] rfl)
  exact L_1 (B.2 0 + 1) 0 0 g0 (Nat.zero_le _) rfl (by decide) rfl (fun k hk => by rw [Nat.zero_testBit] at hk; exact Bool.noConfusion hk) (by omega) _ _ (by rw [ndW_0 hg0]; exact h) _ (lv_sub hl [0, 1, 2] rfl)
