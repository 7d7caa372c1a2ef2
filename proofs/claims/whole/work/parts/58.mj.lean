/-! THE REFERENCE: the longest chain. -/
def chW (M : kMs) (f : Nat → Nat) : kMs := (M.1, va_up M.2 6 (fun k => nI (f k)))
theorem chW_0 {M : kMs} {f : Nat → Nat} (h : M.2 6 = fun k => nI (f k)) : chW M f = M := by
  unfold chW
  refine Prod.ext rfl (funext fun r => ?_)
  show va_up M.2 6 _ r = M.2 r
  simp only [va_up]
  split
  · rename_i e; rw [e, h]
  · rfl
theorem chW_s (M : kMs) (f : Nat → Nat) (j v : Nat) : gPut (chW M f) 6 j (nI v) = chW M (va_up f j v) := by
  unfold gPut chW
  refine Prod.ext rfl (funext fun r => ?_)
  show va_up (va_up M.2 6 (fun k => nI (f k))) 6 (upd (fun k => nI (f k)) j (nI v)) r = va_up M.2 6 (fun k => nI (va_up f j v k)) r
  simp only [va_up]
  by_cases h : r = 6
  · rw [if_pos h, if_pos h]
    funext k
    simp only [upd]
    split <;> rfl
  · rw [if_neg h, if_neg h, if_neg h]
theorem n_mostM {a b : Nat} (ha : a < 1073741824) (hb : b < 1073741824) : (if (nI b : Int32).toInt < (nI a : Int32).toInt then nI a else nI b) = nI (max a b) := by
  rw [tN (n := a) (by omega), tN (n := b) (by omega)]
  by_cases h : (b : Int) < a
  · rw [if_pos h, Nat.max_eq_left (by omega)]
  · rw [if_neg h, Nat.max_eq_right (by omega)]
def ch1 (f : Nat → Nat) : Nat → Nat → Nat
  | 0 => f
  | k + 1 => va_up (ch1 f k) k 1
def chI (B : kBd) (f : Nat → Nat) (k : Nat) : Nat → Nat → Nat
  | 0 => f
  | o + 1 => if (B.1 2 k).testBit o then va_up (chI B f k o) k (max (chI B f k o k) (chI B f k o o + 1)) else chI B f k o
def chJ (B : kBd) (f : Nat → Nat) : Nat → Nat → Nat
  | 0 => f
  | k + 1 => chI B (chJ B f k) k (B.2 0)
def chK (B : kBd) (f : Nat → Nat) : Nat → Nat → Nat
  | 0 => f
  | r + 1 => chJ B (chK B f r) (B.2 0)
def chF (B : kBd) (f : Nat → Nat) : Nat → Nat := chK B (ch1 f (B.2 0)) (B.2 0)
theorem ch1_s {f g : Nat → Nat} {k : Nat} (h : g = ch1 f k) : va_up g k 1 = ch1 f (k + 1) := by rw [h]; rfl
theorem ch1_b (f : Nat → Nat) : ∀ (n j : Nat), j < n → ch1 f n j = 1
  | 0, j, h => absurd h (Nat.not_lt_zero _)
  | n + 1, j, h => by
    show (if j = n then 1 else ch1 f n j) = 1
    by_cases e : j = n
    · rw [if_pos e]
    · rw [if_neg e]; exact ch1_b f n j (by omega)
theorem chI_t {B : kBd} {f g : Nat → Nat} {k o : Nat} (h : g = chI B f k o) (hb : (B.1 2 k).testBit o = true) : va_up g k (max (g k) (g o + 1)) = chI B f k (o + 1) := by
  rw [h]
  exact (if_pos hb).symm
theorem chI_f {B : kBd} {f g : Nat → Nat} {k o : Nat} (h : g = chI B f k o) (hb : (B.1 2 k).testBit o = false) : g = chI B f k (o + 1) := by
  rw [h]
  exact (if_neg (by rw [hb]; decide)).symm
theorem chI_b {g : Nat → Nat} {n b k v : Nat} (h : ∀ j, j < n → g j ≤ b) (hv : v ≤ b + 1) : ∀ j, j < n → va_up g k v j ≤ b + 1 := by
  intro j hj
  show (if j = k then v else g j) ≤ b + 1
  split
  · exact hv
  · have := h j hj; omega
theorem chJ_s {B : kBd} {f g w : Nat → Nat} {k o : Nat} (h : g = chI B f k o) (h2 : f = chJ B w k) (ho : o = B.2 0) : g = chJ B w (k + 1) := by
  subst h2; subst ho; exact h
theorem chK_s {B : kBd} {f g w : Nat → Nat} {r k : Nat} (h : g = chJ B f k) (h2 : f = chK B w r) (hk : k = B.2 0) : g = chK B w (r + 1) := by
  subst h2; subst hk; exact h
theorem kv_X4_chain : kV yX4_chain cX4_chain 4 none 0 := ⟨mw_1669, mw_35, mw_64, mw_1670, by decide, by decide, by decide +kernel⟩
set_option maxHeartbeats 4000000 in
set_option maxRecDepth 100000 in
/-- chain() -/
theorem met_X4_chain (l : Launch) (V : kEnv) (M : kMs) (B : kBd) (hg : M.2 0 = gOf B) (hI : bI B) (f0 : Nat → Nat) (hf0 : M.2 6 = fun k => nI (f0 k)) : kU l yX4_chain cX4_chain 4 { frames := 2, cells := 0, slots := 0, locals := 44 } V (mWs V) [.ref (eX V 500)] (M) (fun u => u = chW M (chF B f0)) 0 0 := by
  refine kU_of (by decide +kernel) (Nat.le_of_ble_eq_true rfl) ?_
  intro pg e s m args below meth c G hret hlocks hC hB h ls hl Q hQ
  have hl : lv_has ls 4 [(0, .ref (eX V 500))] := hl
  have hx := G.1
  have hcd := G.2.1
  have hI0 := hI
  obtain ⟨hz, hbn, hn, hm, h3, h54, h4, h7, hr, he, ha, hact, h5⟩ := hI
  refine lv_iconst (v := nI 0) hx hcd dX4_chain_0 (by decide) ?_
  refine lv_istore_n (lv' := [(1, .int (nI 0)), (0, .ref (eX V 500))]) hx hcd dX4_chain_1 rfl hl (by decide) rfl (fun ls hl => ?_)
  have L_1 : ∀ (fu_3 : Nat) (i : Nat) (f9 : Nat → Nat) (hi : i ≤ B.2 0) (hf9 : f9 = ch1 f0 i), B.2 0 - i < fu_3 → ∀ (H : Heap) (locs : List Loc), cH V s H locs (mWs V (chW M f9)) → ∀ ls : Array Slot, lv_has ls 4 [(1, .int (nI (i))), (0, .ref (eX V 500))] → W pg l e { frames := 2, cells := 0, slots := 0, locals := 44 } s m args below meth c H locs 0 0 Q (F0 m 2 ls []) := by
    intro fu_3
    induction fu_3 with
    | zero => intro i f9 hi hf9 hm; exact absurd hm (Nat.not_lt_zero _)
    | succ fu_3 ih_2 =>
      intro i f9 hi hf9 hm H locs h ls hl
      refine lv_iload_n hx hcd dX4_chain_2 rfl (lv_at hl 0 rfl) ?_
      refine lv_aload_n hx hcd dX4_chain_3 rfl (lv_at hl 1 rfl) ?_
      refine r_mA G hC h 0 (by decide) mw_1472 dX4_chain_4 ?_
      refine lv_iconst (v := nI 0) hx hcd dX4_chain_7 (by decide) ?_
      refine r_mL G hC h 0 (0) (by decide) (by decide) rfl (show 0 < 115 by omega) (x := nI (B.2 0)) (gOf_n hg (f := 0) (by decide)) dX4_chain_8 ?_
      have q_4 := hz.2 0
      refine lv_icmp_ge (tgt := 25) hx hcd dX4_chain_9 (by decide) (fun c_5 => ?_) (fun c_5 => ?_)
      · have c_5 := cLe (tN (n := B.2 0) (by omega)) (tN (n := i) (by omega)) c_5
        refine lv_iconst (v := nI 0) hx hcd dX4_chain_25 (by decide) ?_
        refine lv_istore_n (lv' := [(1, .int (nI 0)), (0, .ref (eX V 500))]) hx hcd dX4_chain_26 rfl hl (by decide) rfl (fun ls hl => ?_)
        have L_6 : ∀ (fu_8 : Nat) (ri : Nat) (fr : Nat → Nat) (hri : ri ≤ B.2 0) (hfr : fr = chK B (ch1 f0 (B.2 0)) ri) (hbr : ∀ j, j < B.2 0 → fr j ≤ 1 + 256 * ri), B.2 0 - ri < fu_8 → ∀ (H : Heap) (locs : List Loc), cH V s H locs (mWs V (chW M fr)) → ∀ ls : Array Slot, lv_has ls 4 [(1, .int (nI (ri))), (0, .ref (eX V 500))] → W pg l e { frames := 2, cells := 0, slots := 0, locals := 44 } s m args below meth c H locs 0 0 Q (F0 m 27 ls []) := by
          intro fu_8
          induction fu_8 with
          | zero => intro ri fr hri hfr hbr hm; exact absurd hm (Nat.not_lt_zero _)
          | succ fu_8 ih_7 =>
            intro ri fr hri hfr hbr hm H locs h ls hl
            refine lv_iload_n hx hcd dX4_chain_27 rfl (lv_at hl 0 rfl) ?_
            refine lv_aload_n hx hcd dX4_chain_28 rfl (lv_at hl 1 rfl) ?_
            refine r_mA G hC h 0 (by decide) mw_1472 dX4_chain_29 ?_
            refine lv_iconst (v := nI 0) hx hcd dX4_chain_32 (by decide) ?_
            refine r_mL G hC h 0 (0) (by decide) (by decide) rfl (show 0 < 115 by omega) (x := nI (B.2 0)) (gOf_n hg (f := 0) (by decide)) dX4_chain_33 ?_
            have q_9 := hz.2 0
            refine lv_icmp_ge (tgt := 111) hx hcd dX4_chain_34 (by decide) (fun c_10 => ?_) (fun c_10 => ?_)
            · have c_10 := cLe (tN (n := B.2 0) (by omega)) (tN (n := ri) (by omega)) c_10
              exact k_retv hQ G hret hlocks h (by rw [hfr, show ri = B.2 0 by omega]; rfl) (Nat.le_of_ble_eq_true rfl) (Nat.le_of_ble_eq_true rfl) dX4_chain_111
            · have c_10 := cNle (tN (n := B.2 0) (by omega)) (tN (n := ri) (by omega)) c_10
              refine lv_iconst (v := nI 0) hx hcd dX4_chain_37 (by decide) ?_
              refine lv_istore_n (lv' := [(2, .int (nI 0)), (1, .int (nI (ri))), (0, .ref (eX V 500))]) hx hcd dX4_chain_38 rfl hl (by decide) rfl (fun ls hl => ?_)
              have L_11 : ∀ (fu_13 : Nat) (k9 : Nat) (fk : Nat → Nat) (hk9 : k9 ≤ B.2 0) (hfk : fk = chJ B fr k9) (hbk : ∀ j, j < B.2 0 → fk j ≤ 1 + 256 * ri + 16 * k9), B.2 0 - k9 < fu_13 → ∀ (H : Heap) (locs : List Loc), cH V s H locs (mWs V (chW M fk)) → ∀ ls : Array Slot, lv_has ls 4 [(2, .int (nI (k9))), (1, .int (nI (ri))), (0, .ref (eX V 500))] → W pg l e { frames := 2, cells := 0, slots := 0, locals := 44 } s m args below meth c H locs 0 0 Q (F0 m 39 ls []) := by
                intro fu_13
                induction fu_13 with
                | zero => intro k9 fk hk9 hfk hbk hm; exact absurd hm (Nat.not_lt_zero _)
                | succ fu_13 ih_12 =>
                  intro k9 fk hk9 hfk hbk hm H locs h ls hl
                  refine lv_iload_n hx hcd dX4_chain_39 rfl (lv_at hl 0 rfl) ?_
                  refine lv_aload_n hx hcd dX4_chain_40 rfl (lv_at hl 2 rfl) ?_
                  refine r_mA G hC h 0 (by decide) mw_1472 dX4_chain_41 ?_
                  refine lv_iconst (v := nI 0) hx hcd dX4_chain_44 (by decide) ?_
                  refine r_mL G hC h 0 (0) (by decide) (by decide) rfl (show 0 < 115 by omega) (x := nI (B.2 0)) (gOf_n hg (f := 0) (by decide)) dX4_chain_45 ?_
                  have q_14 := hz.2 0
                  refine lv_icmp_ge (tgt := 105) hx hcd dX4_chain_46 (by decide) (fun c_15 => ?_) (fun c_15 => ?_)
                  · have c_15 := cLe (tN (n := B.2 0) (by omega)) (tN (n := k9) (by omega)) c_15
                    refine lv_iinc (v := nI (ri + 1)) (lv' := [(1, .int (nI (ri + 1))), (2, .int (nI (k9))), (0, .ref (eX V 500))]) hx hcd dX4_chain_105 hl (k := 1) rfl (by exact nI_add (ri) 1) (by decide) rfl (fun ls hl => ?_)
                    refine lv_goto (tgt := 27) hx hcd dX4_chain_108 (by decide) ?_
                    exact ih_7 (ri + 1) fk (by omega) (chK_s hfk hfr (by omega)) (fun j hj => by have := hbk j hj; omega) (by omega) _ _ h _ (lv_sub hl [0, 2] rfl)
                  · have c_15 := cNle (tN (n := B.2 0) (by omega)) (tN (n := k9) (by omega)) c_15
                    refine lv_iconst (v := nI 0) hx hcd dX4_chain_49 (by decide) ?_
                    refine lv_istore_n (lv' := [(3, .int (nI 0)), (2, .int (nI (k9))), (1, .int (nI (ri))), (0, .ref (eX V 500))]) hx hcd dX4_chain_50 rfl hl (by decide) rfl (fun ls hl => ?_)
                    have L_16 : ∀ (fu_18 : Nat) (o9 : Nat) (fo : Nat → Nat) (ho9 : o9 ≤ B.2 0) (hfo : fo = chI B fk k9 o9) (hbo : ∀ j, j < B.2 0 → fo j ≤ 1 + 256 * ri + 16 * k9 + o9), B.2 0 - o9 < fu_18 → ∀ (H : Heap) (locs : List Loc), cH V s H locs (mWs V (chW M fo)) → ∀ ls : Array Slot, lv_has ls 4 [(3, .int (nI (o9))), (2, .int (nI (k9))), (1, .int (nI (ri))), (0, .ref (eX V 500))] → W pg l e { frames := 2, cells := 0, slots := 0, locals := 44 } s m args below meth c H locs 0 0 Q (F0 m 51 ls []) := by
                      intro fu_18
                      induction fu_18 with
                      | zero => intro o9 fo ho9 hfo hbo hm; exact absurd hm (Nat.not_lt_zero _)
                      | succ fu_18 ih_17 =>
                        intro o9 fo ho9 hfo hbo hm H locs h ls hl
                        refine lv_iload_n hx hcd dX4_chain_51 rfl (lv_at hl 0 rfl) ?_
                        refine lv_aload_n hx hcd dX4_chain_52 rfl (lv_at hl 3 rfl) ?_
                        refine r_mA G hC h 0 (by decide) mw_1472 dX4_chain_53 ?_
                        refine lv_iconst (v := nI 0) hx hcd dX4_chain_56 (by decide) ?_
                        refine r_mL G hC h 0 (0) (by decide) (by decide) rfl (show 0 < 115 by omega) (x := nI (B.2 0)) (gOf_n hg (f := 0) (by decide)) dX4_chain_57 ?_
                        have q_19 := hz.2 0
                        refine lv_icmp_ge (tgt := 99) hx hcd dX4_chain_58 (by decide) (fun c_20 => ?_) (fun c_20 => ?_)
                        · have c_20 := cLe (tN (n := B.2 0) (by omega)) (tN (n := o9) (by omega)) c_20
                          refine lv_iinc (v := nI (k9 + 1)) (lv' := [(2, .int (nI (k9 + 1))), (3, .int (nI (o9))), (1, .int (nI (ri))), (0, .ref (eX V 500))]) hx hcd dX4_chain_99 hl (k := 1) rfl (by exact nI_add (k9) 1) (by decide) rfl (fun ls hl => ?_)
                          refine lv_goto (tgt := 39) hx hcd dX4_chain_102 (by decide) ?_
                          exact ih_12 (k9 + 1) fo (by omega) (chJ_s hfo hfk (by omega)) (fun j hj => by have := hbo j hj; omega) (by omega) _ _ h _ (lv_sub hl [0, 2, 3] rfl)
                        · have c_20 := cNle (tN (n := B.2 0) (by omega)) (tN (n := o9) (by omega)) c_20
                          refine lv_aload_n hx hcd dX4_chain_61 rfl (lv_at hl 3 rfl) ?_
                          refine lv_iload_n hx hcd dX4_chain_62 rfl (lv_at hl 1 rfl) ?_
                          refine lv_iload_n hx hcd dX4_chain_63 rfl (lv_at hl 0 rfl) ?_
                          refine k_Vi (As := [.int (nI (k9)), .int (nI (o9))]) (rest := []) (b := eX V 500) G hC hB h (met_X4_bars l V (chW M fo) B hg hI0 k9 (by omega) o9 (by omega)) mw_1591 kv_X4_bars ⟨rfl, rfl⟩ ⟨Nat.le_of_ble_eq_true rfl, Nat.le_of_ble_eq_true rfl⟩ (r_mV hC h) rfl rfl hl.1 (Nat.le_of_ble_eq_true rfl) dX4_chain_64 ⟨Nat.le_of_ble_eq_true rfl, Nat.le_of_ble_eq_true rfl⟩ (fun r u H locs hp h => ?_)
                          obtain ⟨hr9, hu9⟩ := hp
                          obtain rfl : r = bz ((B.1 2 k9).testBit o9) := hr9
                          rw [hu9] at h
                          refine lv_if_eq (tgt := 93) hx hcd dX4_chain_67 (by decide) (fun c_21 => ?_) (fun c_21 => ?_)
                          · have c_21 := bz0 c_21
                            refine lv_iinc (v := nI (o9 + 1)) (lv' := [(3, .int (nI (o9 + 1))), (2, .int (nI (k9))), (1, .int (nI (ri))), (0, .ref (eX V 500))]) hx hcd dX4_chain_93 hl (k := 0) rfl (by exact nI_add (o9) 1) (by decide) rfl (fun ls hl => ?_)
                            refine lv_goto (tgt := 51) hx hcd dX4_chain_96 (by decide) ?_
                            exact ih_17 (o9 + 1) fo (by omega) (chI_f hfo (by first | assumption | (rw [Bool.not_eq_true] at *; assumption))) (fun j hj => Nat.le_succ_of_le (hbo j hj)) (by omega) _ _ h _ (lv_sub hl [0, 1, 2, 3] rfl)
                          · have c_21 := bz1 c_21
                            refine lv_aload_n hx hcd dX4_chain_70 rfl (lv_at hl 3 rfl) ?_
                            refine r_mA G hC h 6 (by decide) mw_1486 dX4_chain_71 ?_
                            refine lv_iload_n hx hcd dX4_chain_74 rfl (lv_at hl 1 rfl) ?_
                            refine lv_aload_n hx hcd dX4_chain_75 rfl (lv_at hl 3 rfl) ?_
                            refine r_mA G hC h 6 (by decide) mw_1486 dX4_chain_76 ?_
                            refine lv_iload_n hx hcd dX4_chain_79 rfl (lv_at hl 1 rfl) ?_
                            refine r_mL G hC h 6 (k9) (by decide) (by decide) rfl (show k9 < 16 by omega) (x := nI (fo k9)) rfl dX4_chain_80 ?_
                            have q_22 := hbo k9 (by omega)
                            refine lv_aload_n hx hcd dX4_chain_81 rfl (lv_at hl 3 rfl) ?_
                            refine r_mA G hC h 6 (by decide) mw_1486 dX4_chain_82 ?_
                            refine lv_iload_n hx hcd dX4_chain_85 rfl (lv_at hl 0 rfl) ?_
                            refine r_mL G hC h 6 (o9) (by decide) (by decide) rfl (show o9 < 16 by omega) (x := nI (fo o9)) rfl dX4_chain_86 ?_
                            have q_23 := hbo o9 (by omega)
                            refine lv_iconst (v := nI 1) hx hcd dX4_chain_87 (by decide) ?_
                            refine w_iadd (v := nI ((fo o9) + 1)) hx hcd dX4_chain_88 (nI_add _ _) ?_
                            refine k_Si (As := [.int (nI (fo k9)), .int (nI ((fo o9) + 1))]) (rest := [.int (nI (k9)), .ref (eX V (501 + 6))]) G hC hB h (met_X4_most l V (chW M fo) (nI (fo k9)) (nI ((fo o9) + 1))) mw_1671 ks_X4_most ⟨rfl, rfl⟩ ⟨Nat.le_of_ble_eq_true rfl, Nat.le_of_ble_eq_true rfl⟩ rfl rfl hl.1 (Nat.le_of_ble_eq_true rfl) dX4_chain_89 ⟨Nat.le_of_ble_eq_true rfl, Nat.le_of_ble_eq_true rfl⟩ (fun r u H locs hp h => ?_)
                            obtain ⟨hr9, hu9⟩ := hp
                            obtain rfl : r = nI (max (fo k9) ((fo o9) + 1)) := (hr9.trans (n_mostM (by omega) (by omega)))
                            rw [hu9] at h
                            refine r_mT G hC h 6 (k9) (by decide) (by decide) rfl (show k9 < 16 by omega) rfl dX4_chain_92 (fun H locs h => ?_)
                            refine lv_iinc (v := nI (o9 + 1)) (lv' := [(3, .int (nI (o9 + 1))), (2, .int (nI (k9))), (1, .int (nI (ri))), (0, .ref (eX V 500))]) hx hcd dX4_chain_93 hl (k := 0) rfl (by exact nI_add (o9) 1) (by decide) rfl (fun ls hl => ?_)
                            refine lv_goto (tgt := 51) hx hcd dX4_chain_96 (by decide) ?_
                            exact ih_17 (o9 + 1) (va_up fo k9 (max (fo k9) (fo o9 + 1))) (by omega) (chI_t hfo (by assumption)) (chI_b (b := 1 + 256 * ri + 16 * k9 + o9) hbo (by have := hbo k9 (by omega); have := hbo o9 (by omega); omega)) (by omega) _ _ (by rw [chW_s] at h; exact h) _ (lv_sub hl [0, 1, 2, 3] rfl)
                    exact L_16 (B.2 0 + 1) 0 fk (Nat.zero_le _) rfl hbk (by omega) _ _ h _ (lv_sub hl [0, 1, 2, 3] rfl)
              exact L_11 (B.2 0 + 1) 0 fr (Nat.zero_le _) rfl hbr (by omega) _ _ h _ (lv_sub hl [0, 1, 2] rfl)
        exact L_6 (B.2 0 + 1) 0 f9 (Nat.zero_le _) (by rw [hf9, show i = B.2 0 by omega]; rfl) (fun j hj => by rw [hf9, ch1_b f0 i j (by omega)]; exact Nat.le_add_right _ _) (by omega) _ _ h _ (lv_sub hl [0, 1] rfl)
      · have c_5 := cNle (tN (n := B.2 0) (by omega)) (tN (n := i) (by omega)) c_5
        refine lv_aload_n hx hcd dX4_chain_12 rfl (lv_at hl 1 rfl) ?_
        refine r_mA G hC h 6 (by decide) mw_1486 dX4_chain_13 ?_
        refine lv_iload_n hx hcd dX4_chain_16 rfl (lv_at hl 0 rfl) ?_
        refine lv_iconst (v := nI 1) hx hcd dX4_chain_17 (by decide) ?_
        refine r_mT G hC h 6 (i) (by decide) (by decide) rfl (show i < 16 by omega) rfl dX4_chain_18 (fun H locs h => ?_)
        refine lv_iinc (v := nI (i + 1)) (lv' := [(1, .int (nI (i + 1))), (0, .ref (eX V 500))]) hx hcd dX4_chain_19 hl (k := 0) rfl (by exact nI_add (i) 1) (by decide) rfl (fun ls hl => ?_)
        refine lv_goto (tgt := 2) hx hcd dX4_chain_22 (by decide) ?_
        exact ih_2 (i + 1) (va_up f9 i 1) (by omega) (ch1_s hf9) (by omega) _ _ (by rw [chW_s] at h; exact h) _ (lv_sub hl [0, 1] rfl)
  exact L_1 (B.2 0 + 1) 0 f0 (Nat.zero_le _) rfl (by omega) _ _ (by rw [chW_0 hf0]; exact h) _ (lv_sub hl [0, 1] rfl)
set_option maxHeartbeats 4000000 in
set_option maxRecDepth 100000 in
/-- longestChain(x) -/
theorem met_X4_longestChain (l : Launch) (V : kEnv) (M : kMs) (B : kBd) (hg : M.2 0 = gOf B) (hI : bI B) (x : Int32) (f0 : Nat → Nat) (hf0 : M.2 6 = fun k => nI (f0 k)) : kI l yX4_longestChain cX4_longestChain 2 (some .int) { frames := 3, cells := 0, slots := 0, locals := 67 } V (mWs V) [.ref (eX V 500), .int (x)] (M) (fun r u => (∃ k, k < B.2 0 ∧ x = nI k ∧ r = nI (chF B f0 k) ∧ u = chW (nPut M 3 (nI 0)) (chF B f0)) ∨ (inS (B.2 0) x = false ∧ r = nI 0 ∧ u = nPut M 3 (nI 1))) 0 0 := by
  refine kI_of (by decide +kernel) (Nat.le_of_ble_eq_true rfl) ?_
  intro pg e s m args below meth c G hret hlocks hC hB h ls hl Q hQ
  have hl : lv_has ls 2 [(0, .ref (eX V 500)), (1, .int (x))] := hl
  have hx := G.1
  have hcd := G.2.1
  have hI0 := hI
  obtain ⟨hz, hbn, hn, hm, h3, h54, h4, h7, hr, he, ha, hact, h5⟩ := hI
  refine lv_aload_n hx hcd dX4_longestChain_0 rfl (lv_at hl 0 rfl) ?_
  refine lv_iload_n hx hcd dX4_longestChain_1 rfl (lv_at hl 1 rfl) ?_
  refine k_Vi (As := [.int (x)]) (rest := []) (b := eX V 500) G hC hB h (met_X4_isNone l V M B hg hI0 x) mw_1619 kv_X4_isNone ⟨rfl, rfl⟩ ⟨Nat.le_of_ble_eq_true rfl, Nat.le_of_ble_eq_true rfl⟩ (r_mV hC h) rfl rfl hl.1 (Nat.le_of_ble_eq_true rfl) dX4_longestChain_2 ⟨Nat.le_of_ble_eq_true rfl, Nat.le_of_ble_eq_true rfl⟩ (fun r u H locs hp h => ?_)
  rcases hp with ⟨k_1, hk_2, rfl, rfl, hu9⟩ | ⟨c9, rfl, hu9⟩
  · skip
    rw [hu9] at h
    refine lv_if_eq (tgt := 10) hx hcd dX4_longestChain_5 (by decide) (fun _ => ?_) (fun c_3 => absurd c_3 (by decide))
    refine lv_aload_n hx hcd dX4_longestChain_10 rfl (lv_at hl 0 rfl) ?_
    refine k_Vv (As := []) (rest := []) (b := eX V 500) G hC hB h (met_X4_chain l V (nPut M 3 (nI 0)) B hg hI0 f0 hf0) mw_1667 kv_X4_chain ⟨rfl, rfl⟩ ⟨Nat.le_of_ble_eq_true rfl, Nat.le_of_ble_eq_true rfl⟩ (r_mV hC h) rfl rfl hl.1 (Nat.le_of_ble_eq_true rfl) dX4_longestChain_11 ⟨Nat.le_of_ble_eq_true rfl, Nat.le_of_ble_eq_true rfl⟩ (fun u H locs hp h => ?_)
    have hu9 := hp
    rw [hu9] at h
    refine lv_aload_n hx hcd dX4_longestChain_14 rfl (lv_at hl 0 rfl) ?_
    refine r_mA G hC h 6 (by decide) mw_1486 dX4_longestChain_15 ?_
    refine lv_iload_n hx hcd dX4_longestChain_18 rfl (lv_at hl 1 rfl) ?_
    refine r_mL G hC h 6 (k_1) (by decide) (by decide) rfl (show k_1 < 16 by omega) (x := nI ((chF B f0) k_1)) rfl dX4_longestChain_19 ?_
    exact k_reti hQ G hret hlocks h (Or.inl ⟨_, by assumption, rfl, rfl, rfl⟩) (Nat.le_of_ble_eq_true rfl) (Nat.le_of_ble_eq_true rfl) dX4_longestChain_20
  · skip
    rw [hu9] at h
    refine lv_if_eq (tgt := 10) hx hcd dX4_longestChain_5 (by decide) (fun c_4 => absurd c_4 (by decide)) (fun _ => ?_)
    refine lv_iconst (v := nI 0) hx hcd dX4_longestChain_8 (by decide) ?_
    exact k_reti hQ G hret hlocks h (Or.inr ⟨c9, rfl, rfl⟩) (Nat.le_of_ble_eq_true rfl) (Nat.le_of_ble_eq_true rfl) dX4_longestChain_9
