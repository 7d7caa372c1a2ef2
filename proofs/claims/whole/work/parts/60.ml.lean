/-! THE REFERENCE: the line. -/
def lW (M : kMs) (L : List Nat) : kMs := (va_up M.1 7 (nI L.length), va_up M.2 5 (fun j => if j < L.length then nI (L.getD j 0) else M.2 5 j))
theorem upup {α : Type} (f : Nat → α) (k : Nat) (a b : α) : va_up (va_up f k a) k b = va_up f k b := by
  funext r
  simp only [va_up]
  by_cases h : r = k
  · rw [if_pos h, if_pos h]
  · rw [if_neg h, if_neg h, if_neg h]
theorem upself {α : Type} (f : Nat → α) (k : Nat) : va_up f k (f k) = f := by
  funext r
  simp only [va_up]
  by_cases h : r = k
  · rw [if_pos h, h]
  · rw [if_neg h]
theorem lW_0 (M : kMs) : nPut M 7 (nI 0) = lW M [] := by
  unfold lW nPut
  refine Prod.ext rfl ?_
  show M.2 = va_up M.2 5 (fun j => if j < 0 then nI ([].getD j 0) else M.2 5 j)
  rw [show (fun j => if j < 0 then nI (([] : List Nat).getD j 0) else M.2 5 j) = M.2 5 from funext fun j => if_neg (Nat.not_lt_zero j), upself]
theorem lW_s (M : kMs) (L : List Nat) (q : Nat) : nPut (gPut (lW M L) 5 L.length (nI q)) 7 (nI (L.length + 1)) = lW M (L ++ [q]) := by
  have e : (L ++ [q]).length = L.length + 1 := by simp
  refine Prod.ext ?_ ?_
  · show va_up (va_up M.1 7 (nI L.length)) 7 (nI (L.length + 1)) = va_up M.1 7 (nI (L ++ [q]).length)
    rw [upup, e]
  · show va_up (va_up M.2 5 (fun j => if j < L.length then nI (L.getD j 0) else M.2 5 j)) 5 (upd (fun j => if j < L.length then nI (L.getD j 0) else M.2 5 j) L.length (nI q)) = va_up M.2 5 (fun j => if j < (L ++ [q]).length then nI ((L ++ [q]).getD j 0) else M.2 5 j)
    rw [upup, e]
    congr 1
    funext j
    simp only [upd]
    by_cases h : j = L.length
    · rw [if_pos h, if_pos (by omega), h]
      simp [List.getD_eq_getElem?_getD]
    · rw [if_neg h]
      by_cases h2 : j < L.length
      · rw [if_pos h2, if_pos (by omega)]
        simp [List.getD_eq_getElem?_getD, List.getElem?_append_left h2]
      · rw [if_neg h2, if_neg (by omega)]
theorem dg1 {v : Nat} (h : v < 10) : dgs v = [48 + v % 10] := by
  unfold dgs
  rw [if_pos h, Nat.mod_eq_of_lt h]
theorem dg2 {v : Nat} (h : 10 ≤ v) (h2 : v < 1000) : dgs v = dgs (v / 10) ++ [48 + v % 10] := by
  by_cases h3 : v < 100
  · unfold dgs
    rw [if_neg (by omega), if_pos h3, if_pos (by omega)]
    rfl
  · unfold dgs
    rw [if_neg (by omega), if_neg h3, if_neg (by omega), if_pos (by omega)]
    show [48 + v / 100, 48 + v % 100 / 10, 48 + v % 100 % 10] = [48 + v / 10 / 10, 48 + v / 10 % 10, 48 + v % 10]
    rw [show v / 10 / 10 = v / 100 by omega, show v % 100 / 10 = v / 10 % 10 by omega, show v % 100 % 10 = v % 10 by omega]
theorem lapq {L : List Nat} {n v m : Nat} (h : L.length ≤ n) (hv : (dgs v).length ≤ m) : (L ++ dgs v).length ≤ n + m := by rw [List.length_append]; exact Nat.add_le_add h hv
theorem dl0 {v : Nat} (h : v < 10) : (dgs v).length ≤ 1 := by unfold dgs; rw [if_pos h]; exact Nat.le_refl _
theorem dl1 {v : Nat} (h : v < 100) : (dgs v).length ≤ 2 := by
  unfold dgs
  by_cases h1 : v < 10
  · rw [if_pos h1]; exact Nat.le_succ _
  · rw [if_neg h1, if_pos h]; exact Nat.le_refl _
theorem dl2 {v : Nat} (_ : v < 1000) : (dgs v).length ≤ 3 := (dgs_len v).1
def lm2 (B : kBd) (j : Nat) : List Nat := if (B.2 2).testBit j = true then ln1 B j ++ [112] else ln1 B j
def lm3 (B : kBd) (j : Nat) : List Nat := if 0 < opS B j then lm2 B j ++ [98] else lm2 B j
def lmS (B : kBd) (j : Nat) : List Nat := if asgOf B j = 0 then lm3 B j else (lm3 B j ++ [64]) ++ dgs (asgOf B j - 1)
theorem bd_p {B : kBd} {X : List Nat} {k : Nat} (h : X = bdl B k) (hk : 0 < k) : (X ++ [32]) ++ dgs (B.1 5 k) = bdl B (k + 1) := by
  rw [h]
  show _ = (if 0 < k then bdl B k ++ [32] else bdl B k) ++ dgs (B.1 5 k)
  rw [if_pos hk]
theorem bd_z {B : kBd} {X : List Nat} {k : Nat} (h : X = bdl B k) (hk : ¬ 0 < k) : X ++ dgs (B.1 5 k) = bdl B (k + 1) := by
  rw [h]
  show _ = (if 0 < k then bdl B k ++ [32] else bdl B k) ++ dgs (B.1 5 k)
  rw [if_neg hk]
theorem kv_X4_writes : kV yX4_writes cX4_writes 2 none 1 := ⟨mw_1820, mw_44, mw_64, mw_1821, by decide, by decide, by decide +kernel⟩
theorem kv_X4_writesNumber : kV yX4_writesNumber cX4_writesNumber 2 none 1 := ⟨mw_1816, mw_43, mw_64, mw_1817, by decide, by decide, by decide +kernel⟩
set_option maxHeartbeats 4000000 in
set_option maxRecDepth 100000 in
/-- writesNumber(v), v < 10 -/
theorem met_X4_wn0 (l : Launch) (V : kEnv) (M : kMs) (L : List Nat) (v : Nat) (hv : v < 10) (hL : L.length + 1 ≤ 60) : kU l yX4_writesNumber cX4_writesNumber 2 { frames := 1, cells := 0, slots := 0, locals := 21 } V (mWs V) [.ref (eX V 500), .int (nI (v))] (lW M L) (fun u => u = lW M (L ++ dgs v)) 0 0 := by
  refine kU_of (by decide +kernel) (Nat.le_of_ble_eq_true rfl) ?_
  intro pg e s m args below meth c G hret hlocks hC hB h ls hl Q hQ
  have hl : lv_has ls 2 [(0, .ref (eX V 500)), (1, .int (nI (v)))] := hl
  have hx := G.1
  have hcd := G.2.1
  have hb0 : L.length ≤ 59 := by omega
  refine lv_iload_n hx hcd dX4_writesNumber_0 rfl (lv_at hl 1 rfl) ?_
  refine lv_bipush (v := nI 9) hx hcd dX4_writesNumber_1 (by decide) ?_
  refine lv_icmp_le (tgt := 14) hx hcd dX4_writesNumber_3 (by decide) (fun c_1 => ?_) (fun c_1 => ?_)
  · have c_1 := cLe (tN (n := v) (by omega)) (tN (n := 9) (by decide)) c_1
    refine lv_aload_n hx hcd dX4_writesNumber_14 rfl (lv_at hl 0 rfl) ?_
    refine lv_bipush (v := nI 48) hx hcd dX4_writesNumber_15 (by decide) ?_
    refine lv_iload_n hx hcd dX4_writesNumber_17 rfl (lv_at hl 1 rfl) ?_
    refine lv_bipush (v := nI 10) hx hcd dX4_writesNumber_18 (by decide) ?_
    refine w_irem (v := nI (v % 10)) hx hcd dX4_writesNumber_20 (by decide) (pk_rem (by omega) (by omega) (by omega)) ?_
    refine w_iadd (v := nI (48 + (v % 10))) hx hcd dX4_writesNumber_21 (nI_add _ _) ?_
    refine k_Vv (As := [.int (nI (48 + (v % 10)))]) (rest := []) (b := eX V 500) G hC hB h (met_X4_writes l V (lW M L) (L).length rfl (by omega) (48 + (v % 10)) (by omega)) mw_1818 kv_X4_writes ⟨rfl, rfl⟩ ⟨Nat.le_of_ble_eq_true rfl, Nat.le_of_ble_eq_true rfl⟩ (r_mV hC h) rfl rfl hl.1 (Nat.le_of_ble_eq_true rfl) dX4_writesNumber_22 ⟨Nat.le_of_ble_eq_true rfl, Nat.le_of_ble_eq_true rfl⟩ (fun u H locs hp h => ?_)
    have hu9 := hp
    rw [hu9, lW_s] at h
    have hb_4 := lapp1 hb0 (48 + (v % 10))
    exact k_retv hQ G hret hlocks h (by rw [dg1 (by omega)]) (Nat.le_of_ble_eq_true rfl) (Nat.le_of_ble_eq_true rfl) dX4_writesNumber_25
  · have c_1 := cNle (tN (n := v) (by omega)) (tN (n := 9) (by decide)) c_1
    exact absurd c_1 (by omega)
set_option maxHeartbeats 4000000 in
set_option maxRecDepth 100000 in
/-- writesNumber(v), v < 100 -/
theorem met_X4_wn1 (l : Launch) (V : kEnv) (M : kMs) (L : List Nat) (v : Nat) (hv : v < 100) (hL : L.length + 2 ≤ 60) : kU l yX4_writesNumber cX4_writesNumber 2 { frames := 2, cells := 0, slots := 0, locals := 42 } V (mWs V) [.ref (eX V 500), .int (nI (v))] (lW M L) (fun u => u = lW M (L ++ dgs v)) 0 0 := by
  refine kU_of (by decide +kernel) (Nat.le_of_ble_eq_true rfl) ?_
  intro pg e s m args below meth c G hret hlocks hC hB h ls hl Q hQ
  have hl : lv_has ls 2 [(0, .ref (eX V 500)), (1, .int (nI (v)))] := hl
  have hx := G.1
  have hcd := G.2.1
  have hb0 : L.length ≤ 58 := by omega
  refine lv_iload_n hx hcd dX4_writesNumber_0 rfl (lv_at hl 1 rfl) ?_
  refine lv_bipush (v := nI 9) hx hcd dX4_writesNumber_1 (by decide) ?_
  refine lv_icmp_le (tgt := 14) hx hcd dX4_writesNumber_3 (by decide) (fun c_1 => ?_) (fun c_1 => ?_)
  · have c_1 := cLe (tN (n := v) (by omega)) (tN (n := 9) (by decide)) c_1
    refine lv_aload_n hx hcd dX4_writesNumber_14 rfl (lv_at hl 0 rfl) ?_
    refine lv_bipush (v := nI 48) hx hcd dX4_writesNumber_15 (by decide) ?_
    refine lv_iload_n hx hcd dX4_writesNumber_17 rfl (lv_at hl 1 rfl) ?_
    refine lv_bipush (v := nI 10) hx hcd dX4_writesNumber_18 (by decide) ?_
    refine w_irem (v := nI (v % 10)) hx hcd dX4_writesNumber_20 (by decide) (pk_rem (by omega) (by omega) (by omega)) ?_
    refine w_iadd (v := nI (48 + (v % 10))) hx hcd dX4_writesNumber_21 (nI_add _ _) ?_
    refine k_Vv (As := [.int (nI (48 + (v % 10)))]) (rest := []) (b := eX V 500) G hC hB h (met_X4_writes l V (lW M L) (L).length rfl (by omega) (48 + (v % 10)) (by omega)) mw_1818 kv_X4_writes ⟨rfl, rfl⟩ ⟨Nat.le_of_ble_eq_true rfl, Nat.le_of_ble_eq_true rfl⟩ (r_mV hC h) rfl rfl hl.1 (Nat.le_of_ble_eq_true rfl) dX4_writesNumber_22 ⟨Nat.le_of_ble_eq_true rfl, Nat.le_of_ble_eq_true rfl⟩ (fun u H locs hp h => ?_)
    have hu9 := hp
    rw [hu9, lW_s] at h
    have hb_4 := lapp1 hb0 (48 + (v % 10))
    exact k_retv hQ G hret hlocks h (by rw [dg1 (by omega)]) (Nat.le_of_ble_eq_true rfl) (Nat.le_of_ble_eq_true rfl) dX4_writesNumber_25
  · have c_1 := cNle (tN (n := v) (by omega)) (tN (n := 9) (by decide)) c_1
    refine lv_aload_n hx hcd dX4_writesNumber_6 rfl (lv_at hl 0 rfl) ?_
    refine lv_iload_n hx hcd dX4_writesNumber_7 rfl (lv_at hl 1 rfl) ?_
    refine lv_bipush (v := nI 10) hx hcd dX4_writesNumber_8 (by decide) ?_
    refine w_idiv (v := nI (v / 10)) hx hcd dX4_writesNumber_10 (by decide) (pk_div (by omega) (by omega) (by omega)) ?_
    refine k_Vv (As := [.int (nI (v / 10))]) (rest := []) (b := eX V 500) G hC hB h (met_X4_wn0 l V M L (v / 10) (by omega) (by omega)) mw_1814 kv_X4_writesNumber ⟨rfl, rfl⟩ ⟨Nat.le_of_ble_eq_true rfl, Nat.le_of_ble_eq_true rfl⟩ (r_mV hC h) rfl rfl hl.1 (Nat.le_of_ble_eq_true rfl) dX4_writesNumber_11 ⟨Nat.le_of_ble_eq_true rfl, Nat.le_of_ble_eq_true rfl⟩ (fun u H locs hp h => ?_)
    have hu9 := hp
    rw [hu9] at h
    have hb_6 := lapq (v := (v / 10)) hb0 (dl0 (by omega))
    refine lv_aload_n hx hcd dX4_writesNumber_14 rfl (lv_at hl 0 rfl) ?_
    refine lv_bipush (v := nI 48) hx hcd dX4_writesNumber_15 (by decide) ?_
    refine lv_iload_n hx hcd dX4_writesNumber_17 rfl (lv_at hl 1 rfl) ?_
    refine lv_bipush (v := nI 10) hx hcd dX4_writesNumber_18 (by decide) ?_
    refine w_irem (v := nI (v % 10)) hx hcd dX4_writesNumber_20 (by decide) (pk_rem (by omega) (by omega) (by omega)) ?_
    refine w_iadd (v := nI (48 + (v % 10))) hx hcd dX4_writesNumber_21 (nI_add _ _) ?_
    refine k_Vv (As := [.int (nI (48 + (v % 10)))]) (rest := []) (b := eX V 500) G hC hB h (met_X4_writes l V (lW M (L ++ dgs (v / 10))) (L ++ dgs (v / 10)).length rfl (by omega) (48 + (v % 10)) (by omega)) mw_1818 kv_X4_writes ⟨rfl, rfl⟩ ⟨Nat.le_of_ble_eq_true rfl, Nat.le_of_ble_eq_true rfl⟩ (r_mV hC h) rfl rfl hl.1 (Nat.le_of_ble_eq_true rfl) dX4_writesNumber_22 ⟨Nat.le_of_ble_eq_true rfl, Nat.le_of_ble_eq_true rfl⟩ (fun u H locs hp h => ?_)
    have hu9 := hp
    rw [hu9, lW_s] at h
    have hb_9 := lapp1 hb_6 (48 + (v % 10))
    exact k_retv hQ G hret hlocks h (by rw [show dgs v = dgs (v / 10) ++ [48 + v % 10] from dg2 (by omega) (by omega), ← List.append_assoc]) (Nat.le_of_ble_eq_true rfl) (Nat.le_of_ble_eq_true rfl) dX4_writesNumber_25
set_option maxHeartbeats 4000000 in
set_option maxRecDepth 100000 in
/-- writesNumber(v), v < 1000 -/
theorem met_X4_wn2 (l : Launch) (V : kEnv) (M : kMs) (L : List Nat) (v : Nat) (hv : v < 1000) (hL : L.length + 3 ≤ 60) : kU l yX4_writesNumber cX4_writesNumber 2 { frames := 3, cells := 0, slots := 0, locals := 63 } V (mWs V) [.ref (eX V 500), .int (nI (v))] (lW M L) (fun u => u = lW M (L ++ dgs v)) 0 0 := by
  refine kU_of (by decide +kernel) (Nat.le_of_ble_eq_true rfl) ?_
  intro pg e s m args below meth c G hret hlocks hC hB h ls hl Q hQ
  have hl : lv_has ls 2 [(0, .ref (eX V 500)), (1, .int (nI (v)))] := hl
  have hx := G.1
  have hcd := G.2.1
  have hb0 : L.length ≤ 57 := by omega
  refine lv_iload_n hx hcd dX4_writesNumber_0 rfl (lv_at hl 1 rfl) ?_
  refine lv_bipush (v := nI 9) hx hcd dX4_writesNumber_1 (by decide) ?_
  refine lv_icmp_le (tgt := 14) hx hcd dX4_writesNumber_3 (by decide) (fun c_1 => ?_) (fun c_1 => ?_)
  · have c_1 := cLe (tN (n := v) (by omega)) (tN (n := 9) (by decide)) c_1
    refine lv_aload_n hx hcd dX4_writesNumber_14 rfl (lv_at hl 0 rfl) ?_
    refine lv_bipush (v := nI 48) hx hcd dX4_writesNumber_15 (by decide) ?_
    refine lv_iload_n hx hcd dX4_writesNumber_17 rfl (lv_at hl 1 rfl) ?_
    refine lv_bipush (v := nI 10) hx hcd dX4_writesNumber_18 (by decide) ?_
    refine w_irem (v := nI (v % 10)) hx hcd dX4_writesNumber_20 (by decide) (pk_rem (by omega) (by omega) (by omega)) ?_
    refine w_iadd (v := nI (48 + (v % 10))) hx hcd dX4_writesNumber_21 (nI_add _ _) ?_
    refine k_Vv (As := [.int (nI (48 + (v % 10)))]) (rest := []) (b := eX V 500) G hC hB h (met_X4_writes l V (lW M L) (L).length rfl (by omega) (48 + (v % 10)) (by omega)) mw_1818 kv_X4_writes ⟨rfl, rfl⟩ ⟨Nat.le_of_ble_eq_true rfl, Nat.le_of_ble_eq_true rfl⟩ (r_mV hC h) rfl rfl hl.1 (Nat.le_of_ble_eq_true rfl) dX4_writesNumber_22 ⟨Nat.le_of_ble_eq_true rfl, Nat.le_of_ble_eq_true rfl⟩ (fun u H locs hp h => ?_)
    have hu9 := hp
    rw [hu9, lW_s] at h
    have hb_4 := lapp1 hb0 (48 + (v % 10))
    exact k_retv hQ G hret hlocks h (by rw [dg1 (by omega)]) (Nat.le_of_ble_eq_true rfl) (Nat.le_of_ble_eq_true rfl) dX4_writesNumber_25
  · have c_1 := cNle (tN (n := v) (by omega)) (tN (n := 9) (by decide)) c_1
    refine lv_aload_n hx hcd dX4_writesNumber_6 rfl (lv_at hl 0 rfl) ?_
    refine lv_iload_n hx hcd dX4_writesNumber_7 rfl (lv_at hl 1 rfl) ?_
    refine lv_bipush (v := nI 10) hx hcd dX4_writesNumber_8 (by decide) ?_
    refine w_idiv (v := nI (v / 10)) hx hcd dX4_writesNumber_10 (by decide) (pk_div (by omega) (by omega) (by omega)) ?_
    refine k_Vv (As := [.int (nI (v / 10))]) (rest := []) (b := eX V 500) G hC hB h (met_X4_wn1 l V M L (v / 10) (by omega) (by omega)) mw_1814 kv_X4_writesNumber ⟨rfl, rfl⟩ ⟨Nat.le_of_ble_eq_true rfl, Nat.le_of_ble_eq_true rfl⟩ (r_mV hC h) rfl rfl hl.1 (Nat.le_of_ble_eq_true rfl) dX4_writesNumber_11 ⟨Nat.le_of_ble_eq_true rfl, Nat.le_of_ble_eq_true rfl⟩ (fun u H locs hp h => ?_)
    have hu9 := hp
    rw [hu9] at h
    have hb_6 := lapq (v := (v / 10)) hb0 (dl1 (by omega))
    refine lv_aload_n hx hcd dX4_writesNumber_14 rfl (lv_at hl 0 rfl) ?_
    refine lv_bipush (v := nI 48) hx hcd dX4_writesNumber_15 (by decide) ?_
    refine lv_iload_n hx hcd dX4_writesNumber_17 rfl (lv_at hl 1 rfl) ?_
    refine lv_bipush (v := nI 10) hx hcd dX4_writesNumber_18 (by decide) ?_
    refine w_irem (v := nI (v % 10)) hx hcd dX4_writesNumber_20 (by decide) (pk_rem (by omega) (by omega) (by omega)) ?_
    refine w_iadd (v := nI (48 + (v % 10))) hx hcd dX4_writesNumber_21 (nI_add _ _) ?_
    refine k_Vv (As := [.int (nI (48 + (v % 10)))]) (rest := []) (b := eX V 500) G hC hB h (met_X4_writes l V (lW M (L ++ dgs (v / 10))) (L ++ dgs (v / 10)).length rfl (by omega) (48 + (v % 10)) (by omega)) mw_1818 kv_X4_writes ⟨rfl, rfl⟩ ⟨Nat.le_of_ble_eq_true rfl, Nat.le_of_ble_eq_true rfl⟩ (r_mV hC h) rfl rfl hl.1 (Nat.le_of_ble_eq_true rfl) dX4_writesNumber_22 ⟨Nat.le_of_ble_eq_true rfl, Nat.le_of_ble_eq_true rfl⟩ (fun u H locs hp h => ?_)
    have hu9 := hp
    rw [hu9, lW_s] at h
    have hb_9 := lapp1 hb_6 (48 + (v % 10))
    exact k_retv hQ G hret hlocks h (by rw [show dgs v = dgs (v / 10) ++ [48 + v % 10] from dg2 (by omega) (by omega), ← List.append_assoc]) (Nat.le_of_ble_eq_true rfl) (Nat.le_of_ble_eq_true rfl) dX4_writesNumber_25
set_option maxHeartbeats 4000000 in
set_option maxRecDepth 100000 in
/-- writeStory(x) -/
theorem met_X4_writeStory (l : Launch) (V : kEnv) (M : kMs) (B : kBd) (hg : M.2 0 = gOf B) (hI : bI B) (x : Int32) : kI l yX4_writeStory cX4_writeStory 2 (some .int) { frames := 4, cells := 0, slots := 0, locals := 84 } V (mWs V) [.ref (eX V 500), .int (x)] (M) (fun r u => (∃ k, k < B.2 0 ∧ x = nI k ∧ r = nI (lmS B k).length ∧ u = lW (nPut M 3 (nI 0)) (lmS B k)) ∨ (inS (B.2 0) x = false ∧ r = nI 0 ∧ u = nPut M 3 (nI 1))) 0 0 := by
  refine kI_of (by decide +kernel) (Nat.le_of_ble_eq_true rfl) ?_
  intro pg e s m args below meth c G hret hlocks hC hB h ls hl Q hQ
  have hl : lv_has ls 2 [(0, .ref (eX V 500)), (1, .int (x))] := hl
  have hx := G.1
  have hcd := G.2.1
  have hI0 := hI
  obtain ⟨hz, hbn, hn, hm, h3, h54, h4, h7, hr, he, ha, hact, h5⟩ := hI
  refine lv_aload_n hx hcd dX4_writeStory_0 rfl (lv_at hl 0 rfl) ?_
  refine lv_iload_n hx hcd dX4_writeStory_1 rfl (lv_at hl 1 rfl) ?_
  refine k_Vi (As := [.int (x)]) (rest := []) (b := eX V 500) G hC hB h (met_X4_isNone l V M B hg hI0 x) mw_1619 kv_X4_isNone ⟨rfl, rfl⟩ ⟨Nat.le_of_ble_eq_true rfl, Nat.le_of_ble_eq_true rfl⟩ (r_mV hC h) rfl rfl hl.1 (Nat.le_of_ble_eq_true rfl) dX4_writeStory_2 ⟨Nat.le_of_ble_eq_true rfl, Nat.le_of_ble_eq_true rfl⟩ (fun r u H locs hp h => ?_)
  rcases hp with ⟨k_1, hk_2, rfl, rfl, hu9⟩ | ⟨c9, rfl, hu9⟩
  · skip
    rw [hu9] at h
    refine lv_if_eq (tgt := 10) hx hcd dX4_writeStory_5 (by decide) (fun _ => ?_) (fun c_3 => absurd c_3 (by decide))
    have hwr := hr k_1
    have hwe := he k_1
    refine lv_aload_n hx hcd dX4_writeStory_10 rfl (lv_at hl 0 rfl) ?_
    refine lv_iconst (v := nI 0) hx hcd dX4_writeStory_11 (by decide) ?_
    refine r_mP G hC h 7 (by decide) mw_1485 (fun z => absurd z (by decide)) rfl dX4_writeStory_12 (fun H locs h => ?_)
    rw [lW_0] at h
    have hb0 : ([] : List Nat).length ≤ 0 := Nat.le_refl _
    refine lv_aload_n hx hcd dX4_writeStory_15 rfl (lv_at hl 0 rfl) ?_
    refine lv_iload_n hx hcd dX4_writeStory_16 rfl (lv_at hl 1 rfl) ?_
    refine k_Vv (As := [.int (nI (k_1))]) (rest := []) (b := eX V 500) G hC hB h (met_X4_wn2 l V (nPut M 3 (nI 0)) [] k_1 (by omega) (by omega)) mw_1814 kv_X4_writesNumber ⟨rfl, rfl⟩ ⟨Nat.le_of_ble_eq_true rfl, Nat.le_of_ble_eq_true rfl⟩ (r_mV hC h) rfl rfl hl.1 (Nat.le_of_ble_eq_true rfl) dX4_writeStory_17 ⟨Nat.le_of_ble_eq_true rfl, Nat.le_of_ble_eq_true rfl⟩ (fun u H locs hp h => ?_)
    have hu9 := hp
    rw [hu9] at h
    have hb_4 := lapq (v := k_1) hb0 (dl2 (by omega))
    refine lv_aload_n hx hcd dX4_writeStory_20 rfl (lv_at hl 0 rfl) ?_
    refine lv_bipush (v := nI 58) hx hcd dX4_writeStory_21 (by decide) ?_
    refine k_Vv (As := [.int (nI 58)]) (rest := []) (b := eX V 500) G hC hB h (met_X4_writes l V (lW (nPut M 3 (nI 0)) ([] ++ dgs k_1)) ([] ++ dgs k_1).length rfl (by omega) 58 (by omega)) mw_1818 kv_X4_writes ⟨rfl, rfl⟩ ⟨Nat.le_of_ble_eq_true rfl, Nat.le_of_ble_eq_true rfl⟩ (r_mV hC h) rfl rfl hl.1 (Nat.le_of_ble_eq_true rfl) dX4_writeStory_23 ⟨Nat.le_of_ble_eq_true rfl, Nat.le_of_ble_eq_true rfl⟩ (fun u H locs hp h => ?_)
    have hu9 := hp
    rw [hu9, lW_s] at h
    have hb_5 := lapp1 hb_4 (58)
    refine lv_aload_n hx hcd dX4_writeStory_26 rfl (lv_at hl 0 rfl) ?_
    refine lv_aload_n hx hcd dX4_writeStory_27 rfl (lv_at hl 0 rfl) ?_
    refine lv_iload_n hx hcd dX4_writeStory_28 rfl (lv_at hl 1 rfl) ?_
    refine lv_iconst (v := nI 1) hx hcd dX4_writeStory_29 (by decide) ?_
    refine k_Vi (As := [.int (nI (k_1)), .int (nI 1)]) (rest := [.ref (eX V 500)]) (b := eX V 500) G hC hB h (met_X4_of l V (lW (nPut M 3 (nI 0)) (([] ++ dgs k_1) ++ [58])) k_1 1 (by omega) (by decide)) mw_1572 kv_X4_of ⟨rfl, rfl⟩ ⟨Nat.le_of_ble_eq_true rfl, Nat.le_of_ble_eq_true rfl⟩ (r_mV hC h) rfl rfl hl.1 (Nat.le_of_ble_eq_true rfl) dX4_writeStory_30 ⟨Nat.le_of_ble_eq_true rfl, Nat.le_of_ble_eq_true rfl⟩ (fun r u H locs hp h => ?_)
    obtain ⟨hr9, hu9⟩ := hp
    obtain rfl : r = nI (B.1 1 k_1) := (hr9.trans (gOf_s hg hn (k := k_1) (w := 1) (by omega) (by decide)))
    rw [hu9] at h
    have q_6 := hz.1 1 k_1
    refine k_Vv (As := [.int (nI (B.1 1 k_1))]) (rest := []) (b := eX V 500) G hC hB h (met_X4_wn2 l V (nPut M 3 (nI 0)) (([] ++ dgs k_1) ++ [58]) (B.1 1 k_1) (by omega) (by omega)) mw_1814 kv_X4_writesNumber ⟨rfl, rfl⟩ ⟨Nat.le_of_ble_eq_true rfl, Nat.le_of_ble_eq_true rfl⟩ (r_mV hC h) rfl rfl hl.1 (Nat.le_of_ble_eq_true rfl) dX4_writeStory_33 ⟨Nat.le_of_ble_eq_true rfl, Nat.le_of_ble_eq_true rfl⟩ (fun u H locs hp h => ?_)
    have hu9 := hp
    rw [hu9] at h
    have hb_7 := lapq (v := (B.1 1 k_1)) hb_5 (dl2 (by omega))
    refine lv_aload_n hx hcd dX4_writeStory_36 rfl (lv_at hl 0 rfl) ?_
    refine lv_bipush (v := nI 47) hx hcd dX4_writeStory_37 (by decide) ?_
    refine k_Vv (As := [.int (nI 47)]) (rest := []) (b := eX V 500) G hC hB h (met_X4_writes l V (lW (nPut M 3 (nI 0)) ((([] ++ dgs k_1) ++ [58]) ++ dgs (B.1 1 k_1))) ((([] ++ dgs k_1) ++ [58]) ++ dgs (B.1 1 k_1)).length rfl (by omega) 47 (by omega)) mw_1818 kv_X4_writes ⟨rfl, rfl⟩ ⟨Nat.le_of_ble_eq_true rfl, Nat.le_of_ble_eq_true rfl⟩ (r_mV hC h) rfl rfl hl.1 (Nat.le_of_ble_eq_true rfl) dX4_writeStory_39 ⟨Nat.le_of_ble_eq_true rfl, Nat.le_of_ble_eq_true rfl⟩ (fun u H locs hp h => ?_)
    have hu9 := hp
    rw [hu9, lW_s] at h
    have hb_8 := lapp1 hb_7 (47)
    refine lv_aload_n hx hcd dX4_writeStory_42 rfl (lv_at hl 0 rfl) ?_
    refine lv_aload_n hx hcd dX4_writeStory_43 rfl (lv_at hl 0 rfl) ?_
    refine lv_iload_n hx hcd dX4_writeStory_44 rfl (lv_at hl 1 rfl) ?_
    refine lv_iconst (v := nI 0) hx hcd dX4_writeStory_45 (by decide) ?_
    refine k_Vi (As := [.int (nI (k_1)), .int (nI 0)]) (rest := [.ref (eX V 500)]) (b := eX V 500) G hC hB h (met_X4_of l V (lW (nPut M 3 (nI 0)) (((([] ++ dgs k_1) ++ [58]) ++ dgs (B.1 1 k_1)) ++ [47])) k_1 0 (by omega) (by decide)) mw_1572 kv_X4_of ⟨rfl, rfl⟩ ⟨Nat.le_of_ble_eq_true rfl, Nat.le_of_ble_eq_true rfl⟩ (r_mV hC h) rfl rfl hl.1 (Nat.le_of_ble_eq_true rfl) dX4_writeStory_46 ⟨Nat.le_of_ble_eq_true rfl, Nat.le_of_ble_eq_true rfl⟩ (fun r u H locs hp h => ?_)
    obtain ⟨hr9, hu9⟩ := hp
    obtain rfl : r = nI (B.1 0 k_1) := (hr9.trans (gOf_s hg hn (k := k_1) (w := 0) (by omega) (by decide)))
    rw [hu9] at h
    have q_9 := hz.1 0 k_1
    refine k_Vv (As := [.int (nI (B.1 0 k_1))]) (rest := []) (b := eX V 500) G hC hB h (met_X4_wn2 l V (nPut M 3 (nI 0)) (((([] ++ dgs k_1) ++ [58]) ++ dgs (B.1 1 k_1)) ++ [47]) (B.1 0 k_1) (by omega) (by omega)) mw_1814 kv_X4_writesNumber ⟨rfl, rfl⟩ ⟨Nat.le_of_ble_eq_true rfl, Nat.le_of_ble_eq_true rfl⟩ (r_mV hC h) rfl rfl hl.1 (Nat.le_of_ble_eq_true rfl) dX4_writeStory_49 ⟨Nat.le_of_ble_eq_true rfl, Nat.le_of_ble_eq_true rfl⟩ (fun u H locs hp h => ?_)
    have hu9 := hp
    rw [hu9] at h
    have hb_10 := lapq (v := (B.1 0 k_1)) hb_8 (dl2 (by omega))
    refine lv_aload_n hx hcd dX4_writeStory_52 rfl (lv_at hl 0 rfl) ?_
    refine lv_iload_n hx hcd dX4_writeStory_53 rfl (lv_at hl 1 rfl) ?_
    refine lv_iconst (v := nI 2) hx hcd dX4_writeStory_54 (by decide) ?_
    refine k_Vi (As := [.int (nI (k_1)), .int (nI 2)]) (rest := []) (b := eX V 500) G hC hB h (met_X4_of l V (lW (nPut M 3 (nI 0)) ((((([] ++ dgs k_1) ++ [58]) ++ dgs (B.1 1 k_1)) ++ [47]) ++ dgs (B.1 0 k_1))) k_1 2 (by omega) (by decide)) mw_1572 kv_X4_of ⟨rfl, rfl⟩ ⟨Nat.le_of_ble_eq_true rfl, Nat.le_of_ble_eq_true rfl⟩ (r_mV hC h) rfl rfl hl.1 (Nat.le_of_ble_eq_true rfl) dX4_writeStory_55 ⟨Nat.le_of_ble_eq_true rfl, Nat.le_of_ble_eq_true rfl⟩ (fun r u H locs hp h => ?_)
    obtain ⟨hr9, hu9⟩ := hp
    obtain rfl : r = nI (pln B k_1) := (hr9.trans (gOf_s hg hn (k := k_1) (w := 2) (by omega) (by decide)))
    rw [hu9] at h
    have q_11 := pln_le B k_1
    refine lv_iconst (v := nI 1) hx hcd dX4_writeStory_58 (by decide) ?_
    refine lv_icmp_ne (tgt := 68) hx hcd dX4_writeStory_59 (by decide) (fun c_12 => ?_) (fun c_12 => ?_)
    · have c_12 := cNe (tN (n := pln B k_1) (by omega)) (tN (n := 1) (by decide)) c_12
      refine lv_aload_n hx hcd dX4_writeStory_68 rfl (lv_at hl 0 rfl) ?_
      refine lv_iload_n hx hcd dX4_writeStory_69 rfl (lv_at hl 1 rfl) ?_
      refine k_Vi (As := [.int (nI (k_1))]) (rest := []) (b := eX V 500) G hC hB h (met_X4_open l V (lW (nPut M 3 (nI 0)) ((((([] ++ dgs k_1) ++ [58]) ++ dgs (B.1 1 k_1)) ++ [47]) ++ dgs (B.1 0 k_1))) B hg hI0 k_1 (by omega)) mw_1639 kv_X4_open ⟨rfl, rfl⟩ ⟨Nat.le_of_ble_eq_true rfl, Nat.le_of_ble_eq_true rfl⟩ (r_mV hC h) rfl rfl hl.1 (Nat.le_of_ble_eq_true rfl) dX4_writeStory_70 ⟨Nat.le_of_ble_eq_true rfl, Nat.le_of_ble_eq_true rfl⟩ (fun r u H locs hp h => ?_)
      obtain ⟨hr9, hu9⟩ := hp
      obtain rfl : r = nI (opS B k_1) := hr9
      rw [hu9] at h
      have q_13 := opS_le hn k_1
      refine lv_if_le (tgt := 82) hx hcd dX4_writeStory_73 (by decide) (fun c_14 => ?_) (fun c_14 => ?_)
      · have c_14 := cLe (tN (n := opS B k_1) (by omega)) t0 c_14
        refine lv_aload_n hx hcd dX4_writeStory_82 rfl (lv_at hl 0 rfl) ?_
        refine lv_iload_n hx hcd dX4_writeStory_83 rfl (lv_at hl 1 rfl) ?_
        refine lv_iconst (v := nI 3) hx hcd dX4_writeStory_84 (by decide) ?_
        refine k_Vi (As := [.int (nI (k_1)), .int (nI 3)]) (rest := []) (b := eX V 500) G hC hB h (met_X4_of l V (lW (nPut M 3 (nI 0)) ((((([] ++ dgs k_1) ++ [58]) ++ dgs (B.1 1 k_1)) ++ [47]) ++ dgs (B.1 0 k_1))) k_1 3 (by omega) (by decide)) mw_1572 kv_X4_of ⟨rfl, rfl⟩ ⟨Nat.le_of_ble_eq_true rfl, Nat.le_of_ble_eq_true rfl⟩ (r_mV hC h) rfl rfl hl.1 (Nat.le_of_ble_eq_true rfl) dX4_writeStory_85 ⟨Nat.le_of_ble_eq_true rfl, Nat.le_of_ble_eq_true rfl⟩ (fun r u H locs hp h => ?_)
        obtain ⟨hr9, hu9⟩ := hp
        obtain rfl : r = nI (asgOf B k_1) - 1 := (hr9.trans (gOf_s hg hn (k := k_1) (w := 3) (by omega) (by decide)))
        rw [hu9] at h
        have q_15 := asgOf_le B k_1
        refine lv_if_lt (tgt := 107) hx hcd dX4_writeStory_88 (by decide) (fun c_16 => ?_) (fun c_16 => ?_)
        · have c_16 := cLt (tA (n := asgOf B k_1) (by omega)) t0 c_16
          refine lv_aload_n hx hcd dX4_writeStory_107 rfl (lv_at hl 0 rfl) ?_
          refine r_mN G hC h 7 (by decide) mw_1485 (x := nI (((((([] ++ dgs k_1) ++ [58]) ++ dgs (B.1 1 k_1)) ++ [47]) ++ dgs (B.1 0 k_1)).length)) rfl dX4_writeStory_108 ?_
          exact k_reti hQ G hret hlocks h (Or.inl ⟨k_1, by assumption, rfl, by rw [(show lmS B k_1 = (((([] ++ dgs k_1) ++ [58]) ++ dgs (B.1 1 k_1)) ++ [47]) ++ dgs (B.1 0 k_1) from by unfold lmS lm3 lm2; rw [if_pos (by omega), if_neg (by omega), if_neg (by rw [pln_f (by omega)]; decide)]; rfl)], by rw [(show lmS B k_1 = (((([] ++ dgs k_1) ++ [58]) ++ dgs (B.1 1 k_1)) ++ [47]) ++ dgs (B.1 0 k_1) from by unfold lmS lm3 lm2; rw [if_pos (by omega), if_neg (by omega), if_neg (by rw [pln_f (by omega)]; decide)]; rfl)]⟩) (Nat.le_of_ble_eq_true rfl) (Nat.le_of_ble_eq_true rfl) dX4_writeStory_111
        · have c_16 := cNlt (tA (n := asgOf B k_1) (by omega)) t0 c_16
          refine lv_aload_n hx hcd dX4_writeStory_91 rfl (lv_at hl 0 rfl) ?_
          refine lv_bipush (v := nI 64) hx hcd dX4_writeStory_92 (by decide) ?_
          refine k_Vv (As := [.int (nI 64)]) (rest := []) (b := eX V 500) G hC hB h (met_X4_writes l V (lW (nPut M 3 (nI 0)) ((((([] ++ dgs k_1) ++ [58]) ++ dgs (B.1 1 k_1)) ++ [47]) ++ dgs (B.1 0 k_1))) ((((([] ++ dgs k_1) ++ [58]) ++ dgs (B.1 1 k_1)) ++ [47]) ++ dgs (B.1 0 k_1)).length rfl (by omega) 64 (by omega)) mw_1818 kv_X4_writes ⟨rfl, rfl⟩ ⟨Nat.le_of_ble_eq_true rfl, Nat.le_of_ble_eq_true rfl⟩ (r_mV hC h) rfl rfl hl.1 (Nat.le_of_ble_eq_true rfl) dX4_writeStory_94 ⟨Nat.le_of_ble_eq_true rfl, Nat.le_of_ble_eq_true rfl⟩ (fun u H locs hp h => ?_)
          have hu9 := hp
          rw [hu9, lW_s] at h
          have hb_17 := lapp1 hb_10 (64)
          refine lv_aload_n hx hcd dX4_writeStory_97 rfl (lv_at hl 0 rfl) ?_
          refine lv_aload_n hx hcd dX4_writeStory_98 rfl (lv_at hl 0 rfl) ?_
          refine lv_iload_n hx hcd dX4_writeStory_99 rfl (lv_at hl 1 rfl) ?_
          refine lv_iconst (v := nI 3) hx hcd dX4_writeStory_100 (by decide) ?_
          refine k_Vi (As := [.int (nI (k_1)), .int (nI 3)]) (rest := [.ref (eX V 500)]) (b := eX V 500) G hC hB h (met_X4_of l V (lW (nPut M 3 (nI 0)) (((((([] ++ dgs k_1) ++ [58]) ++ dgs (B.1 1 k_1)) ++ [47]) ++ dgs (B.1 0 k_1)) ++ [64])) k_1 3 (by omega) (by decide)) mw_1572 kv_X4_of ⟨rfl, rfl⟩ ⟨Nat.le_of_ble_eq_true rfl, Nat.le_of_ble_eq_true rfl⟩ (r_mV hC h) rfl rfl hl.1 (Nat.le_of_ble_eq_true rfl) dX4_writeStory_101 ⟨Nat.le_of_ble_eq_true rfl, Nat.le_of_ble_eq_true rfl⟩ (fun r u H locs hp h => ?_)
          obtain ⟨hr9, hu9⟩ := hp
          obtain rfl : r = nI (asgOf B k_1) - 1 := (hr9.trans (gOf_s hg hn (k := k_1) (w := 3) (by omega) (by decide)))
          rw [hu9] at h
          have q_18 := asgOf_le B k_1
          refine lv_topi (fun z_19 e_z_19 => ?_)
          obtain rfl : z_19 = nI ((asgOf B k_1) - 1) := by rw [e_z_19]; exact pk_sub (b := 1) (by omega)
          refine k_Vv (As := [.int (nI ((asgOf B k_1) - 1))]) (rest := []) (b := eX V 500) G hC hB h (met_X4_wn2 l V (nPut M 3 (nI 0)) (((((([] ++ dgs k_1) ++ [58]) ++ dgs (B.1 1 k_1)) ++ [47]) ++ dgs (B.1 0 k_1)) ++ [64]) ((asgOf B k_1) - 1) (by omega) (by omega)) mw_1814 kv_X4_writesNumber ⟨rfl, rfl⟩ ⟨Nat.le_of_ble_eq_true rfl, Nat.le_of_ble_eq_true rfl⟩ (r_mV hC h) rfl rfl hl.1 (Nat.le_of_ble_eq_true rfl) dX4_writeStory_104 ⟨Nat.le_of_ble_eq_true rfl, Nat.le_of_ble_eq_true rfl⟩ (fun u H locs hp h => ?_)
          have hu9 := hp
          rw [hu9] at h
          have hb_20 := lapq (v := ((asgOf B k_1) - 1)) hb_17 (dl2 (by omega))
          refine lv_aload_n hx hcd dX4_writeStory_107 rfl (lv_at hl 0 rfl) ?_
          refine r_mN G hC h 7 (by decide) mw_1485 (x := nI (((((((([] ++ dgs k_1) ++ [58]) ++ dgs (B.1 1 k_1)) ++ [47]) ++ dgs (B.1 0 k_1)) ++ [64]) ++ dgs ((asgOf B k_1) - 1)).length)) rfl dX4_writeStory_108 ?_
          exact k_reti hQ G hret hlocks h (Or.inl ⟨k_1, by assumption, rfl, by rw [(show lmS B k_1 = (((((([] ++ dgs k_1) ++ [58]) ++ dgs (B.1 1 k_1)) ++ [47]) ++ dgs (B.1 0 k_1)) ++ [64]) ++ dgs ((asgOf B k_1) - 1) from by unfold lmS lm3 lm2; rw [if_neg (by omega), if_neg (by omega), if_neg (by rw [pln_f (by omega)]; decide)]; rfl)], by rw [(show lmS B k_1 = (((((([] ++ dgs k_1) ++ [58]) ++ dgs (B.1 1 k_1)) ++ [47]) ++ dgs (B.1 0 k_1)) ++ [64]) ++ dgs ((asgOf B k_1) - 1) from by unfold lmS lm3 lm2; rw [if_neg (by omega), if_neg (by omega), if_neg (by rw [pln_f (by omega)]; decide)]; rfl)]⟩) (Nat.le_of_ble_eq_true rfl) (Nat.le_of_ble_eq_true rfl) dX4_writeStory_111
      · have c_14 := cNle (tN (n := opS B k_1) (by omega)) t0 c_14
        refine lv_aload_n hx hcd dX4_writeStory_76 rfl (lv_at hl 0 rfl) ?_
        refine lv_bipush (v := nI 98) hx hcd dX4_writeStory_77 (by decide) ?_
        refine k_Vv (As := [.int (nI 98)]) (rest := []) (b := eX V 500) G hC hB h (met_X4_writes l V (lW (nPut M 3 (nI 0)) ((((([] ++ dgs k_1) ++ [58]) ++ dgs (B.1 1 k_1)) ++ [47]) ++ dgs (B.1 0 k_1))) ((((([] ++ dgs k_1) ++ [58]) ++ dgs (B.1 1 k_1)) ++ [47]) ++ dgs (B.1 0 k_1)).length rfl (by omega) 98 (by omega)) mw_1818 kv_X4_writes ⟨rfl, rfl⟩ ⟨Nat.le_of_ble_eq_true rfl, Nat.le_of_ble_eq_true rfl⟩ (r_mV hC h) rfl rfl hl.1 (Nat.le_of_ble_eq_true rfl) dX4_writeStory_79 ⟨Nat.le_of_ble_eq_true rfl, Nat.le_of_ble_eq_true rfl⟩ (fun u H locs hp h => ?_)
        have hu9 := hp
        rw [hu9, lW_s] at h
        have hb_21 := lapp1 hb_10 (98)
        refine lv_aload_n hx hcd dX4_writeStory_82 rfl (lv_at hl 0 rfl) ?_
        refine lv_iload_n hx hcd dX4_writeStory_83 rfl (lv_at hl 1 rfl) ?_
        refine lv_iconst (v := nI 3) hx hcd dX4_writeStory_84 (by decide) ?_
        refine k_Vi (As := [.int (nI (k_1)), .int (nI 3)]) (rest := []) (b := eX V 500) G hC hB h (met_X4_of l V (lW (nPut M 3 (nI 0)) (((((([] ++ dgs k_1) ++ [58]) ++ dgs (B.1 1 k_1)) ++ [47]) ++ dgs (B.1 0 k_1)) ++ [98])) k_1 3 (by omega) (by decide)) mw_1572 kv_X4_of ⟨rfl, rfl⟩ ⟨Nat.le_of_ble_eq_true rfl, Nat.le_of_ble_eq_true rfl⟩ (r_mV hC h) rfl rfl hl.1 (Nat.le_of_ble_eq_true rfl) dX4_writeStory_85 ⟨Nat.le_of_ble_eq_true rfl, Nat.le_of_ble_eq_true rfl⟩ (fun r u H locs hp h => ?_)
        obtain ⟨hr9, hu9⟩ := hp
        obtain rfl : r = nI (asgOf B k_1) - 1 := (hr9.trans (gOf_s hg hn (k := k_1) (w := 3) (by omega) (by decide)))
        rw [hu9] at h
        have q_22 := asgOf_le B k_1
        refine lv_if_lt (tgt := 107) hx hcd dX4_writeStory_88 (by decide) (fun c_23 => ?_) (fun c_23 => ?_)
        · have c_23 := cLt (tA (n := asgOf B k_1) (by omega)) t0 c_23
          refine lv_aload_n hx hcd dX4_writeStory_107 rfl (lv_at hl 0 rfl) ?_
          refine r_mN G hC h 7 (by decide) mw_1485 (x := nI ((((((([] ++ dgs k_1) ++ [58]) ++ dgs (B.1 1 k_1)) ++ [47]) ++ dgs (B.1 0 k_1)) ++ [98]).length)) rfl dX4_writeStory_108 ?_
          exact k_reti hQ G hret hlocks h (Or.inl ⟨k_1, by assumption, rfl, by rw [(show lmS B k_1 = ((((([] ++ dgs k_1) ++ [58]) ++ dgs (B.1 1 k_1)) ++ [47]) ++ dgs (B.1 0 k_1)) ++ [98] from by unfold lmS lm3 lm2; rw [if_pos (by omega), if_pos (by omega), if_neg (by rw [pln_f (by omega)]; decide)]; rfl)], by rw [(show lmS B k_1 = ((((([] ++ dgs k_1) ++ [58]) ++ dgs (B.1 1 k_1)) ++ [47]) ++ dgs (B.1 0 k_1)) ++ [98] from by unfold lmS lm3 lm2; rw [if_pos (by omega), if_pos (by omega), if_neg (by rw [pln_f (by omega)]; decide)]; rfl)]⟩) (Nat.le_of_ble_eq_true rfl) (Nat.le_of_ble_eq_true rfl) dX4_writeStory_111
        · have c_23 := cNlt (tA (n := asgOf B k_1) (by omega)) t0 c_23
          refine lv_aload_n hx hcd dX4_writeStory_91 rfl (lv_at hl 0 rfl) ?_
          refine lv_bipush (v := nI 64) hx hcd dX4_writeStory_92 (by decide) ?_
          refine k_Vv (As := [.int (nI 64)]) (rest := []) (b := eX V 500) G hC hB h (met_X4_writes l V (lW (nPut M 3 (nI 0)) (((((([] ++ dgs k_1) ++ [58]) ++ dgs (B.1 1 k_1)) ++ [47]) ++ dgs (B.1 0 k_1)) ++ [98])) (((((([] ++ dgs k_1) ++ [58]) ++ dgs (B.1 1 k_1)) ++ [47]) ++ dgs (B.1 0 k_1)) ++ [98]).length rfl (by omega) 64 (by omega)) mw_1818 kv_X4_writes ⟨rfl, rfl⟩ ⟨Nat.le_of_ble_eq_true rfl, Nat.le_of_ble_eq_true rfl⟩ (r_mV hC h) rfl rfl hl.1 (Nat.le_of_ble_eq_true rfl) dX4_writeStory_94 ⟨Nat.le_of_ble_eq_true rfl, Nat.le_of_ble_eq_true rfl⟩ (fun u H locs hp h => ?_)
          have hu9 := hp
          rw [hu9, lW_s] at h
          have hb_24 := lapp1 hb_21 (64)
          refine lv_aload_n hx hcd dX4_writeStory_97 rfl (lv_at hl 0 rfl) ?_
          refine lv_aload_n hx hcd dX4_writeStory_98 rfl (lv_at hl 0 rfl) ?_
          refine lv_iload_n hx hcd dX4_writeStory_99 rfl (lv_at hl 1 rfl) ?_
          refine lv_iconst (v := nI 3) hx hcd dX4_writeStory_100 (by decide) ?_
          refine k_Vi (As := [.int (nI (k_1)), .int (nI 3)]) (rest := [.ref (eX V 500)]) (b := eX V 500) G hC hB h (met_X4_of l V (lW (nPut M 3 (nI 0)) ((((((([] ++ dgs k_1) ++ [58]) ++ dgs (B.1 1 k_1)) ++ [47]) ++ dgs (B.1 0 k_1)) ++ [98]) ++ [64])) k_1 3 (by omega) (by decide)) mw_1572 kv_X4_of ⟨rfl, rfl⟩ ⟨Nat.le_of_ble_eq_true rfl, Nat.le_of_ble_eq_true rfl⟩ (r_mV hC h) rfl rfl hl.1 (Nat.le_of_ble_eq_true rfl) dX4_writeStory_101 ⟨Nat.le_of_ble_eq_true rfl, Nat.le_of_ble_eq_true rfl⟩ (fun r u H locs hp h => ?_)
          obtain ⟨hr9, hu9⟩ := hp
          obtain rfl : r = nI (asgOf B k_1) - 1 := (hr9.trans (gOf_s hg hn (k := k_1) (w := 3) (by omega) (by decide)))
          rw [hu9] at h
          have q_25 := asgOf_le B k_1
          refine lv_topi (fun z_26 e_z_26 => ?_)
          obtain rfl : z_26 = nI ((asgOf B k_1) - 1) := by rw [e_z_26]; exact pk_sub (b := 1) (by omega)
          refine k_Vv (As := [.int (nI ((asgOf B k_1) - 1))]) (rest := []) (b := eX V 500) G hC hB h (met_X4_wn2 l V (nPut M 3 (nI 0)) ((((((([] ++ dgs k_1) ++ [58]) ++ dgs (B.1 1 k_1)) ++ [47]) ++ dgs (B.1 0 k_1)) ++ [98]) ++ [64]) ((asgOf B k_1) - 1) (by omega) (by omega)) mw_1814 kv_X4_writesNumber ⟨rfl, rfl⟩ ⟨Nat.le_of_ble_eq_true rfl, Nat.le_of_ble_eq_true rfl⟩ (r_mV hC h) rfl rfl hl.1 (Nat.le_of_ble_eq_true rfl) dX4_writeStory_104 ⟨Nat.le_of_ble_eq_true rfl, Nat.le_of_ble_eq_true rfl⟩ (fun u H locs hp h => ?_)
          have hu9 := hp
          rw [hu9] at h
          have hb_27 := lapq (v := ((asgOf B k_1) - 1)) hb_24 (dl2 (by omega))
          refine lv_aload_n hx hcd dX4_writeStory_107 rfl (lv_at hl 0 rfl) ?_
          refine r_mN G hC h 7 (by decide) mw_1485 (x := nI ((((((((([] ++ dgs k_1) ++ [58]) ++ dgs (B.1 1 k_1)) ++ [47]) ++ dgs (B.1 0 k_1)) ++ [98]) ++ [64]) ++ dgs ((asgOf B k_1) - 1)).length)) rfl dX4_writeStory_108 ?_
          exact k_reti hQ G hret hlocks h (Or.inl ⟨k_1, by assumption, rfl, by rw [(show lmS B k_1 = ((((((([] ++ dgs k_1) ++ [58]) ++ dgs (B.1 1 k_1)) ++ [47]) ++ dgs (B.1 0 k_1)) ++ [98]) ++ [64]) ++ dgs ((asgOf B k_1) - 1) from by unfold lmS lm3 lm2; rw [if_neg (by omega), if_pos (by omega), if_neg (by rw [pln_f (by omega)]; decide)]; rfl)], by rw [(show lmS B k_1 = ((((((([] ++ dgs k_1) ++ [58]) ++ dgs (B.1 1 k_1)) ++ [47]) ++ dgs (B.1 0 k_1)) ++ [98]) ++ [64]) ++ dgs ((asgOf B k_1) - 1) from by unfold lmS lm3 lm2; rw [if_neg (by omega), if_pos (by omega), if_neg (by rw [pln_f (by omega)]; decide)]; rfl)]⟩) (Nat.le_of_ble_eq_true rfl) (Nat.le_of_ble_eq_true rfl) dX4_writeStory_111
    · have c_12 := cEq (tN (n := pln B k_1) (by omega)) (tN (n := 1) (by decide)) c_12
      refine lv_aload_n hx hcd dX4_writeStory_62 rfl (lv_at hl 0 rfl) ?_
      refine lv_bipush (v := nI 112) hx hcd dX4_writeStory_63 (by decide) ?_
      refine k_Vv (As := [.int (nI 112)]) (rest := []) (b := eX V 500) G hC hB h (met_X4_writes l V (lW (nPut M 3 (nI 0)) ((((([] ++ dgs k_1) ++ [58]) ++ dgs (B.1 1 k_1)) ++ [47]) ++ dgs (B.1 0 k_1))) ((((([] ++ dgs k_1) ++ [58]) ++ dgs (B.1 1 k_1)) ++ [47]) ++ dgs (B.1 0 k_1)).length rfl (by omega) 112 (by omega)) mw_1818 kv_X4_writes ⟨rfl, rfl⟩ ⟨Nat.le_of_ble_eq_true rfl, Nat.le_of_ble_eq_true rfl⟩ (r_mV hC h) rfl rfl hl.1 (Nat.le_of_ble_eq_true rfl) dX4_writeStory_65 ⟨Nat.le_of_ble_eq_true rfl, Nat.le_of_ble_eq_true rfl⟩ (fun u H locs hp h => ?_)
      have hu9 := hp
      rw [hu9, lW_s] at h
      have hb_28 := lapp1 hb_10 (112)
      refine lv_aload_n hx hcd dX4_writeStory_68 rfl (lv_at hl 0 rfl) ?_
      refine lv_iload_n hx hcd dX4_writeStory_69 rfl (lv_at hl 1 rfl) ?_
      refine k_Vi (As := [.int (nI (k_1))]) (rest := []) (b := eX V 500) G hC hB h (met_X4_open l V (lW (nPut M 3 (nI 0)) (((((([] ++ dgs k_1) ++ [58]) ++ dgs (B.1 1 k_1)) ++ [47]) ++ dgs (B.1 0 k_1)) ++ [112])) B hg hI0 k_1 (by omega)) mw_1639 kv_X4_open ⟨rfl, rfl⟩ ⟨Nat.le_of_ble_eq_true rfl, Nat.le_of_ble_eq_true rfl⟩ (r_mV hC h) rfl rfl hl.1 (Nat.le_of_ble_eq_true rfl) dX4_writeStory_70 ⟨Nat.le_of_ble_eq_true rfl, Nat.le_of_ble_eq_true rfl⟩ (fun r u H locs hp h => ?_)
      obtain ⟨hr9, hu9⟩ := hp
      obtain rfl : r = nI (opS B k_1) := hr9
      rw [hu9] at h
      have q_29 := opS_le hn k_1
      refine lv_if_le (tgt := 82) hx hcd dX4_writeStory_73 (by decide) (fun c_30 => ?_) (fun c_30 => ?_)
      · have c_30 := cLe (tN (n := opS B k_1) (by omega)) t0 c_30
        refine lv_aload_n hx hcd dX4_writeStory_82 rfl (lv_at hl 0 rfl) ?_
        refine lv_iload_n hx hcd dX4_writeStory_83 rfl (lv_at hl 1 rfl) ?_
        refine lv_iconst (v := nI 3) hx hcd dX4_writeStory_84 (by decide) ?_
        refine k_Vi (As := [.int (nI (k_1)), .int (nI 3)]) (rest := []) (b := eX V 500) G hC hB h (met_X4_of l V (lW (nPut M 3 (nI 0)) (((((([] ++ dgs k_1) ++ [58]) ++ dgs (B.1 1 k_1)) ++ [47]) ++ dgs (B.1 0 k_1)) ++ [112])) k_1 3 (by omega) (by decide)) mw_1572 kv_X4_of ⟨rfl, rfl⟩ ⟨Nat.le_of_ble_eq_true rfl, Nat.le_of_ble_eq_true rfl⟩ (r_mV hC h) rfl rfl hl.1 (Nat.le_of_ble_eq_true rfl) dX4_writeStory_85 ⟨Nat.le_of_ble_eq_true rfl, Nat.le_of_ble_eq_true rfl⟩ (fun r u H locs hp h => ?_)
        obtain ⟨hr9, hu9⟩ := hp
        obtain rfl : r = nI (asgOf B k_1) - 1 := (hr9.trans (gOf_s hg hn (k := k_1) (w := 3) (by omega) (by decide)))
        rw [hu9] at h
        have q_31 := asgOf_le B k_1
        refine lv_if_lt (tgt := 107) hx hcd dX4_writeStory_88 (by decide) (fun c_32 => ?_) (fun c_32 => ?_)
        · have c_32 := cLt (tA (n := asgOf B k_1) (by omega)) t0 c_32
          refine lv_aload_n hx hcd dX4_writeStory_107 rfl (lv_at hl 0 rfl) ?_
          refine r_mN G hC h 7 (by decide) mw_1485 (x := nI ((((((([] ++ dgs k_1) ++ [58]) ++ dgs (B.1 1 k_1)) ++ [47]) ++ dgs (B.1 0 k_1)) ++ [112]).length)) rfl dX4_writeStory_108 ?_
          exact k_reti hQ G hret hlocks h (Or.inl ⟨k_1, by assumption, rfl, by rw [(show lmS B k_1 = ((((([] ++ dgs k_1) ++ [58]) ++ dgs (B.1 1 k_1)) ++ [47]) ++ dgs (B.1 0 k_1)) ++ [112] from by unfold lmS lm3 lm2; rw [if_pos (by omega), if_neg (by omega), if_pos (pln_t (by omega))]; rfl)], by rw [(show lmS B k_1 = ((((([] ++ dgs k_1) ++ [58]) ++ dgs (B.1 1 k_1)) ++ [47]) ++ dgs (B.1 0 k_1)) ++ [112] from by unfold lmS lm3 lm2; rw [if_pos (by omega), if_neg (by omega), if_pos (pln_t (by omega))]; rfl)]⟩) (Nat.le_of_ble_eq_true rfl) (Nat.le_of_ble_eq_true rfl) dX4_writeStory_111
        · have c_32 := cNlt (tA (n := asgOf B k_1) (by omega)) t0 c_32
          refine lv_aload_n hx hcd dX4_writeStory_91 rfl (lv_at hl 0 rfl) ?_
          refine lv_bipush (v := nI 64) hx hcd dX4_writeStory_92 (by decide) ?_
          refine k_Vv (As := [.int (nI 64)]) (rest := []) (b := eX V 500) G hC hB h (met_X4_writes l V (lW (nPut M 3 (nI 0)) (((((([] ++ dgs k_1) ++ [58]) ++ dgs (B.1 1 k_1)) ++ [47]) ++ dgs (B.1 0 k_1)) ++ [112])) (((((([] ++ dgs k_1) ++ [58]) ++ dgs (B.1 1 k_1)) ++ [47]) ++ dgs (B.1 0 k_1)) ++ [112]).length rfl (by omega) 64 (by omega)) mw_1818 kv_X4_writes ⟨rfl, rfl⟩ ⟨Nat.le_of_ble_eq_true rfl, Nat.le_of_ble_eq_true rfl⟩ (r_mV hC h) rfl rfl hl.1 (Nat.le_of_ble_eq_true rfl) dX4_writeStory_94 ⟨Nat.le_of_ble_eq_true rfl, Nat.le_of_ble_eq_true rfl⟩ (fun u H locs hp h => ?_)
          have hu9 := hp
          rw [hu9, lW_s] at h
          have hb_33 := lapp1 hb_28 (64)
          refine lv_aload_n hx hcd dX4_writeStory_97 rfl (lv_at hl 0 rfl) ?_
          refine lv_aload_n hx hcd dX4_writeStory_98 rfl (lv_at hl 0 rfl) ?_
          refine lv_iload_n hx hcd dX4_writeStory_99 rfl (lv_at hl 1 rfl) ?_
          refine lv_iconst (v := nI 3) hx hcd dX4_writeStory_100 (by decide) ?_
          refine k_Vi (As := [.int (nI (k_1)), .int (nI 3)]) (rest := [.ref (eX V 500)]) (b := eX V 500) G hC hB h (met_X4_of l V (lW (nPut M 3 (nI 0)) ((((((([] ++ dgs k_1) ++ [58]) ++ dgs (B.1 1 k_1)) ++ [47]) ++ dgs (B.1 0 k_1)) ++ [112]) ++ [64])) k_1 3 (by omega) (by decide)) mw_1572 kv_X4_of ⟨rfl, rfl⟩ ⟨Nat.le_of_ble_eq_true rfl, Nat.le_of_ble_eq_true rfl⟩ (r_mV hC h) rfl rfl hl.1 (Nat.le_of_ble_eq_true rfl) dX4_writeStory_101 ⟨Nat.le_of_ble_eq_true rfl, Nat.le_of_ble_eq_true rfl⟩ (fun r u H locs hp h => ?_)
          obtain ⟨hr9, hu9⟩ := hp
          obtain rfl : r = nI (asgOf B k_1) - 1 := (hr9.trans (gOf_s hg hn (k := k_1) (w := 3) (by omega) (by decide)))
          rw [hu9] at h
          have q_34 := asgOf_le B k_1
          refine lv_topi (fun z_35 e_z_35 => ?_)
          obtain rfl : z_35 = nI ((asgOf B k_1) - 1) := by rw [e_z_35]; exact pk_sub (b := 1) (by omega)
          refine k_Vv (As := [.int (nI ((asgOf B k_1) - 1))]) (rest := []) (b := eX V 500) G hC hB h (met_X4_wn2 l V (nPut M 3 (nI 0)) ((((((([] ++ dgs k_1) ++ [58]) ++ dgs (B.1 1 k_1)) ++ [47]) ++ dgs (B.1 0 k_1)) ++ [112]) ++ [64]) ((asgOf B k_1) - 1) (by omega) (by omega)) mw_1814 kv_X4_writesNumber ⟨rfl, rfl⟩ ⟨Nat.le_of_ble_eq_true rfl, Nat.le_of_ble_eq_true rfl⟩ (r_mV hC h) rfl rfl hl.1 (Nat.le_of_ble_eq_true rfl) dX4_writeStory_104 ⟨Nat.le_of_ble_eq_true rfl, Nat.le_of_ble_eq_true rfl⟩ (fun u H locs hp h => ?_)
          have hu9 := hp
          rw [hu9] at h
          have hb_36 := lapq (v := ((asgOf B k_1) - 1)) hb_33 (dl2 (by omega))
          refine lv_aload_n hx hcd dX4_writeStory_107 rfl (lv_at hl 0 rfl) ?_
          refine r_mN G hC h 7 (by decide) mw_1485 (x := nI ((((((((([] ++ dgs k_1) ++ [58]) ++ dgs (B.1 1 k_1)) ++ [47]) ++ dgs (B.1 0 k_1)) ++ [112]) ++ [64]) ++ dgs ((asgOf B k_1) - 1)).length)) rfl dX4_writeStory_108 ?_
          exact k_reti hQ G hret hlocks h (Or.inl ⟨k_1, by assumption, rfl, by rw [(show lmS B k_1 = ((((((([] ++ dgs k_1) ++ [58]) ++ dgs (B.1 1 k_1)) ++ [47]) ++ dgs (B.1 0 k_1)) ++ [112]) ++ [64]) ++ dgs ((asgOf B k_1) - 1) from by unfold lmS lm3 lm2; rw [if_neg (by omega), if_neg (by omega), if_pos (pln_t (by omega))]; rfl)], by rw [(show lmS B k_1 = ((((((([] ++ dgs k_1) ++ [58]) ++ dgs (B.1 1 k_1)) ++ [47]) ++ dgs (B.1 0 k_1)) ++ [112]) ++ [64]) ++ dgs ((asgOf B k_1) - 1) from by unfold lmS lm3 lm2; rw [if_neg (by omega), if_neg (by omega), if_pos (pln_t (by omega))]; rfl)]⟩) (Nat.le_of_ble_eq_true rfl) (Nat.le_of_ble_eq_true rfl) dX4_writeStory_111
      · have c_30 := cNle (tN (n := opS B k_1) (by omega)) t0 c_30
        refine lv_aload_n hx hcd dX4_writeStory_76 rfl (lv_at hl 0 rfl) ?_
        refine lv_bipush (v := nI 98) hx hcd dX4_writeStory_77 (by decide) ?_
        refine k_Vv (As := [.int (nI 98)]) (rest := []) (b := eX V 500) G hC hB h (met_X4_writes l V (lW (nPut M 3 (nI 0)) (((((([] ++ dgs k_1) ++ [58]) ++ dgs (B.1 1 k_1)) ++ [47]) ++ dgs (B.1 0 k_1)) ++ [112])) (((((([] ++ dgs k_1) ++ [58]) ++ dgs (B.1 1 k_1)) ++ [47]) ++ dgs (B.1 0 k_1)) ++ [112]).length rfl (by omega) 98 (by omega)) mw_1818 kv_X4_writes ⟨rfl, rfl⟩ ⟨Nat.le_of_ble_eq_true rfl, Nat.le_of_ble_eq_true rfl⟩ (r_mV hC h) rfl rfl hl.1 (Nat.le_of_ble_eq_true rfl) dX4_writeStory_79 ⟨Nat.le_of_ble_eq_true rfl, Nat.le_of_ble_eq_true rfl⟩ (fun u H locs hp h => ?_)
        have hu9 := hp
        rw [hu9, lW_s] at h
        have hb_37 := lapp1 hb_28 (98)
        refine lv_aload_n hx hcd dX4_writeStory_82 rfl (lv_at hl 0 rfl) ?_
        refine lv_iload_n hx hcd dX4_writeStory_83 rfl (lv_at hl 1 rfl) ?_
        refine lv_iconst (v := nI 3) hx hcd dX4_writeStory_84 (by decide) ?_
        refine k_Vi (As := [.int (nI (k_1)), .int (nI 3)]) (rest := []) (b := eX V 500) G hC hB h (met_X4_of l V (lW (nPut M 3 (nI 0)) ((((((([] ++ dgs k_1) ++ [58]) ++ dgs (B.1 1 k_1)) ++ [47]) ++ dgs (B.1 0 k_1)) ++ [112]) ++ [98])) k_1 3 (by omega) (by decide)) mw_1572 kv_X4_of ⟨rfl, rfl⟩ ⟨Nat.le_of_ble_eq_true rfl, Nat.le_of_ble_eq_true rfl⟩ (r_mV hC h) rfl rfl hl.1 (Nat.le_of_ble_eq_true rfl) dX4_writeStory_85 ⟨Nat.le_of_ble_eq_true rfl, Nat.le_of_ble_eq_true rfl⟩ (fun r u H locs hp h => ?_)
        obtain ⟨hr9, hu9⟩ := hp
        obtain rfl : r = nI (asgOf B k_1) - 1 := (hr9.trans (gOf_s hg hn (k := k_1) (w := 3) (by omega) (by decide)))
        rw [hu9] at h
        have q_38 := asgOf_le B k_1
        refine lv_if_lt (tgt := 107) hx hcd dX4_writeStory_88 (by decide) (fun c_39 => ?_) (fun c_39 => ?_)
        · have c_39 := cLt (tA (n := asgOf B k_1) (by omega)) t0 c_39
          refine lv_aload_n hx hcd dX4_writeStory_107 rfl (lv_at hl 0 rfl) ?_
          refine r_mN G hC h 7 (by decide) mw_1485 (x := nI (((((((([] ++ dgs k_1) ++ [58]) ++ dgs (B.1 1 k_1)) ++ [47]) ++ dgs (B.1 0 k_1)) ++ [112]) ++ [98]).length)) rfl dX4_writeStory_108 ?_
          exact k_reti hQ G hret hlocks h (Or.inl ⟨k_1, by assumption, rfl, by rw [(show lmS B k_1 = (((((([] ++ dgs k_1) ++ [58]) ++ dgs (B.1 1 k_1)) ++ [47]) ++ dgs (B.1 0 k_1)) ++ [112]) ++ [98] from by unfold lmS lm3 lm2; rw [if_pos (by omega), if_pos (by omega), if_pos (pln_t (by omega))]; rfl)], by rw [(show lmS B k_1 = (((((([] ++ dgs k_1) ++ [58]) ++ dgs (B.1 1 k_1)) ++ [47]) ++ dgs (B.1 0 k_1)) ++ [112]) ++ [98] from by unfold lmS lm3 lm2; rw [if_pos (by omega), if_pos (by omega), if_pos (pln_t (by omega))]; rfl)]⟩) (Nat.le_of_ble_eq_true rfl) (Nat.le_of_ble_eq_true rfl) dX4_writeStory_111
        · have c_39 := cNlt (tA (n := asgOf B k_1) (by omega)) t0 c_39
          refine lv_aload_n hx hcd dX4_writeStory_91 rfl (lv_at hl 0 rfl) ?_
          refine lv_bipush (v := nI 64) hx hcd dX4_writeStory_92 (by decide) ?_
          refine k_Vv (As := [.int (nI 64)]) (rest := []) (b := eX V 500) G hC hB h (met_X4_writes l V (lW (nPut M 3 (nI 0)) ((((((([] ++ dgs k_1) ++ [58]) ++ dgs (B.1 1 k_1)) ++ [47]) ++ dgs (B.1 0 k_1)) ++ [112]) ++ [98])) ((((((([] ++ dgs k_1) ++ [58]) ++ dgs (B.1 1 k_1)) ++ [47]) ++ dgs (B.1 0 k_1)) ++ [112]) ++ [98]).length rfl (by omega) 64 (by omega)) mw_1818 kv_X4_writes ⟨rfl, rfl⟩ ⟨Nat.le_of_ble_eq_true rfl, Nat.le_of_ble_eq_true rfl⟩ (r_mV hC h) rfl rfl hl.1 (Nat.le_of_ble_eq_true rfl) dX4_writeStory_94 ⟨Nat.le_of_ble_eq_true rfl, Nat.le_of_ble_eq_true rfl⟩ (fun u H locs hp h => ?_)
          have hu9 := hp
          rw [hu9, lW_s] at h
          have hb_40 := lapp1 hb_37 (64)
          refine lv_aload_n hx hcd dX4_writeStory_97 rfl (lv_at hl 0 rfl) ?_
          refine lv_aload_n hx hcd dX4_writeStory_98 rfl (lv_at hl 0 rfl) ?_
          refine lv_iload_n hx hcd dX4_writeStory_99 rfl (lv_at hl 1 rfl) ?_
          refine lv_iconst (v := nI 3) hx hcd dX4_writeStory_100 (by decide) ?_
          refine k_Vi (As := [.int (nI (k_1)), .int (nI 3)]) (rest := [.ref (eX V 500)]) (b := eX V 500) G hC hB h (met_X4_of l V (lW (nPut M 3 (nI 0)) (((((((([] ++ dgs k_1) ++ [58]) ++ dgs (B.1 1 k_1)) ++ [47]) ++ dgs (B.1 0 k_1)) ++ [112]) ++ [98]) ++ [64])) k_1 3 (by omega) (by decide)) mw_1572 kv_X4_of ⟨rfl, rfl⟩ ⟨Nat.le_of_ble_eq_true rfl, Nat.le_of_ble_eq_true rfl⟩ (r_mV hC h) rfl rfl hl.1 (Nat.le_of_ble_eq_true rfl) dX4_writeStory_101 ⟨Nat.le_of_ble_eq_true rfl, Nat.le_of_ble_eq_true rfl⟩ (fun r u H locs hp h => ?_)
          obtain ⟨hr9, hu9⟩ := hp
          obtain rfl : r = nI (asgOf B k_1) - 1 := (hr9.trans (gOf_s hg hn (k := k_1) (w := 3) (by omega) (by decide)))
          rw [hu9] at h
          have q_41 := asgOf_le B k_1
          refine lv_topi (fun z_42 e_z_42 => ?_)
          obtain rfl : z_42 = nI ((asgOf B k_1) - 1) := by rw [e_z_42]; exact pk_sub (b := 1) (by omega)
          refine k_Vv (As := [.int (nI ((asgOf B k_1) - 1))]) (rest := []) (b := eX V 500) G hC hB h (met_X4_wn2 l V (nPut M 3 (nI 0)) (((((((([] ++ dgs k_1) ++ [58]) ++ dgs (B.1 1 k_1)) ++ [47]) ++ dgs (B.1 0 k_1)) ++ [112]) ++ [98]) ++ [64]) ((asgOf B k_1) - 1) (by omega) (by omega)) mw_1814 kv_X4_writesNumber ⟨rfl, rfl⟩ ⟨Nat.le_of_ble_eq_true rfl, Nat.le_of_ble_eq_true rfl⟩ (r_mV hC h) rfl rfl hl.1 (Nat.le_of_ble_eq_true rfl) dX4_writeStory_104 ⟨Nat.le_of_ble_eq_true rfl, Nat.le_of_ble_eq_true rfl⟩ (fun u H locs hp h => ?_)
          have hu9 := hp
          rw [hu9] at h
          have hb_43 := lapq (v := ((asgOf B k_1) - 1)) hb_40 (dl2 (by omega))
          refine lv_aload_n hx hcd dX4_writeStory_107 rfl (lv_at hl 0 rfl) ?_
          refine r_mN G hC h 7 (by decide) mw_1485 (x := nI (((((((((([] ++ dgs k_1) ++ [58]) ++ dgs (B.1 1 k_1)) ++ [47]) ++ dgs (B.1 0 k_1)) ++ [112]) ++ [98]) ++ [64]) ++ dgs ((asgOf B k_1) - 1)).length)) rfl dX4_writeStory_108 ?_
          exact k_reti hQ G hret hlocks h (Or.inl ⟨k_1, by assumption, rfl, by rw [(show lmS B k_1 = (((((((([] ++ dgs k_1) ++ [58]) ++ dgs (B.1 1 k_1)) ++ [47]) ++ dgs (B.1 0 k_1)) ++ [112]) ++ [98]) ++ [64]) ++ dgs ((asgOf B k_1) - 1) from by unfold lmS lm3 lm2; rw [if_neg (by omega), if_pos (by omega), if_pos (pln_t (by omega))]; rfl)], by rw [(show lmS B k_1 = (((((((([] ++ dgs k_1) ++ [58]) ++ dgs (B.1 1 k_1)) ++ [47]) ++ dgs (B.1 0 k_1)) ++ [112]) ++ [98]) ++ [64]) ++ dgs ((asgOf B k_1) - 1) from by unfold lmS lm3 lm2; rw [if_neg (by omega), if_pos (by omega), if_pos (pln_t (by omega))]; rfl)]⟩) (Nat.le_of_ble_eq_true rfl) (Nat.le_of_ble_eq_true rfl) dX4_writeStory_111
  · skip
    rw [hu9] at h
    refine lv_if_eq (tgt := 10) hx hcd dX4_writeStory_5 (by decide) (fun c_44 => absurd c_44 (by decide)) (fun _ => ?_)
    refine lv_iconst (v := nI 0) hx hcd dX4_writeStory_8 (by decide) ?_
    exact k_reti hQ G hret hlocks h (Or.inr ⟨c9, rfl, rfl⟩) (Nat.le_of_ble_eq_true rfl) (Nat.le_of_ble_eq_true rfl) dX4_writeStory_9
set_option maxHeartbeats 4000000 in
set_option maxRecDepth 100000 in
/-- writeBurnDown() -/
theorem met_X4_writeBurnDown (l : Launch) (V : kEnv) (M : kMs) (B : kBd) (hg : M.2 0 = gOf B) (hI : bI B) : kI l yX4_writeBurnDown cX4_writeBurnDown 2 (some .int) { frames := 4, cells := 0, slots := 0, locals := 84 } V (mWs V) [.ref (eX V 500)] (M) (fun r u => r = nI (if B.2 3 = 0 then [] else bdl B (B.2 5 + 1)).length ∧ u = lW (nPut M 3 (nI 0)) (if B.2 3 = 0 then [] else bdl B (B.2 5 + 1))) 0 0 := by
  refine kI_of (by decide +kernel) (Nat.le_of_ble_eq_true rfl) ?_
  intro pg e s m args below meth c G hret hlocks hC hB h ls hl Q hQ
  have hl : lv_has ls 2 [(0, .ref (eX V 500))] := hl
  have hx := G.1
  have hcd := G.2.1
  have hI0 := hI
  obtain ⟨hz, hbn, hn, hm, h3, h54, h4, h7, hr, he, ha, hact, h5⟩ := hI
  refine lv_aload_n hx hcd dX4_writeBurnDown_0 rfl (lv_at hl 0 rfl) ?_
  refine lv_iconst (v := nI 0) hx hcd dX4_writeBurnDown_1 (by decide) ?_
  refine r_mP G hC h 3 (by decide) mw_1479 (fun z => absurd z (by decide)) rfl dX4_writeBurnDown_2 (fun H locs h => ?_)
  refine lv_aload_n hx hcd dX4_writeBurnDown_5 rfl (lv_at hl 0 rfl) ?_
  refine lv_iconst (v := nI 0) hx hcd dX4_writeBurnDown_6 (by decide) ?_
  refine r_mP G hC h 7 (by decide) mw_1485 (fun z => absurd z (by decide)) rfl dX4_writeBurnDown_7 (fun H locs h => ?_)
  rw [lW_0] at h
  have hb0 : ([] : List Nat).length ≤ 0 := Nat.le_refl _
  refine lv_iconst (v := nI 0) hx hcd dX4_writeBurnDown_10 (by decide) ?_
  refine lv_istore_n (lv' := [(1, .int (nI 0)), (0, .ref (eX V 500))]) hx hcd dX4_writeBurnDown_11 rfl hl (by decide) rfl (fun ls hl => ?_)
  have L_1 : ∀ (fu_3 : Nat) (k9 : Nat) (X9 : List Nat) (hk9 : k9 ≤ B.2 5 + 1) (hX9 : X9 = bdl B k9) (hka : k9 = 0 ∨ B.2 3 ≠ 0) (hxl : X9.length ≤ 4 * k9), B.2 5 + 1 - k9 < fu_3 → ∀ (H : Heap) (locs : List Loc), cH V s H locs (mWs V (lW (nPut M 3 (nI 0)) X9)) → ∀ ls : Array Slot, lv_has ls 2 [(1, .int (nI (k9))), (0, .ref (eX V 500))] → W pg l e { frames := 4, cells := 0, slots := 0, locals := 84 } s m args below meth c H locs 0 0 Q (F0 m 12 ls []) := by
    intro fu_3
    induction fu_3 with
    | zero => intro k9 X9 hk9 hX9 hka hxl hmz; exact absurd hmz (Nat.not_lt_zero _)
    | succ fu_3 ih_2 =>
      intro k9 X9 hk9 hX9 hka hxl hmz H locs h ls hl
      refine lv_iload_n hx hcd dX4_writeBurnDown_12 rfl (lv_at hl 0 rfl) ?_
      refine lv_aload_n hx hcd dX4_writeBurnDown_13 rfl (lv_at hl 1 rfl) ?_
      refine r_mA G hC h 0 (by decide) mw_1472 dX4_writeBurnDown_14 ?_
      refine lv_iconst (v := nI 4) hx hcd dX4_writeBurnDown_17 (by decide) ?_
      refine r_mL G hC h 0 (4) (by decide) (by decide) rfl (show 4 < 115 by omega) (x := nI (B.2 5)) (gOf_n hg (f := 4) (by decide)) dX4_writeBurnDown_18 ?_
      have q_4 := hz.2 5
      refine lv_icmp_gt (tgt := 61) hx hcd dX4_writeBurnDown_19 (by decide) (fun c_5 => ?_) (fun c_5 => ?_)
      · have c_5 := cLt (tN (n := B.2 5) (by omega)) (tN (n := k9) (by omega)) c_5
        refine lv_aload_n hx hcd dX4_writeBurnDown_61 rfl (lv_at hl 1 rfl) ?_
        refine r_mN G hC h 7 (by decide) mw_1485 (x := nI (X9.length)) rfl dX4_writeBurnDown_62 ?_
        exact k_reti hQ G hret hlocks h (⟨by rw [(show (if B.2 3 = 0 then [] else bdl B (B.2 5 + 1)) = X9 from by rw [if_neg (by omega), hX9, show k9 = B.2 5 + 1 by omega])], by rw [(show (if B.2 3 = 0 then [] else bdl B (B.2 5 + 1)) = X9 from by rw [if_neg (by omega), hX9, show k9 = B.2 5 + 1 by omega])]⟩) (Nat.le_of_ble_eq_true rfl) (Nat.le_of_ble_eq_true rfl) dX4_writeBurnDown_65
      · have c_5 := cNlt (tN (n := B.2 5) (by omega)) (tN (n := k9) (by omega)) c_5
        refine lv_aload_n hx hcd dX4_writeBurnDown_22 rfl (lv_at hl 1 rfl) ?_
        refine r_mA G hC h 0 (by decide) mw_1472 dX4_writeBurnDown_23 ?_
        refine lv_iconst (v := nI 2) hx hcd dX4_writeBurnDown_26 (by decide) ?_
        refine r_mL G hC h 0 (2) (by decide) (by decide) rfl (show 2 < 115 by omega) (x := nI (B.2 3)) (gOf_n hg (f := 2) (by decide)) dX4_writeBurnDown_27 ?_
        have q_6 := hz.2 3
        refine lv_iconst (v := nI 1) hx hcd dX4_writeBurnDown_28 (by decide) ?_
        refine lv_icmp_ne (tgt := 61) hx hcd dX4_writeBurnDown_29 (by decide) (fun c_7 => ?_) (fun c_7 => ?_)
        · have c_7 := cNe (tN (n := B.2 3) (by omega)) (tN (n := 1) (by decide)) c_7
          refine lv_aload_n hx hcd dX4_writeBurnDown_61 rfl (lv_at hl 1 rfl) ?_
          refine r_mN G hC h 7 (by decide) mw_1485 (x := nI (X9.length)) rfl dX4_writeBurnDown_62 ?_
          exact k_reti hQ G hret hlocks h (⟨by rw [(show (if B.2 3 = 0 then [] else bdl B (B.2 5 + 1)) = X9 from by rw [if_pos (by omega), hX9, show k9 = 0 by omega]; rfl)], by rw [(show (if B.2 3 = 0 then [] else bdl B (B.2 5 + 1)) = X9 from by rw [if_pos (by omega), hX9, show k9 = 0 by omega]; rfl)]⟩) (Nat.le_of_ble_eq_true rfl) (Nat.le_of_ble_eq_true rfl) dX4_writeBurnDown_65
        · have c_7 := cEq (tN (n := B.2 3) (by omega)) (tN (n := 1) (by decide)) c_7
          refine lv_iload_n hx hcd dX4_writeBurnDown_32 rfl (lv_at hl 0 rfl) ?_
          refine lv_if_le (tgt := 42) hx hcd dX4_writeBurnDown_33 (by decide) (fun c_8 => ?_) (fun c_8 => ?_)
          · have c_8 := cLe (tN (n := k9) (by omega)) t0 c_8
            have h59 := h5 k9
            refine lv_aload_n hx hcd dX4_writeBurnDown_42 rfl (lv_at hl 1 rfl) ?_
            refine lv_aload_n hx hcd dX4_writeBurnDown_43 rfl (lv_at hl 1 rfl) ?_
            refine r_mA G hC h 0 (by decide) mw_1472 dX4_writeBurnDown_44 ?_
            refine lv_bipush (v := nI 104) hx hcd dX4_writeBurnDown_47 (by decide) ?_
            refine lv_iload_n hx hcd dX4_writeBurnDown_49 rfl (lv_at hl 0 rfl) ?_
            refine w_iadd (v := nI (104 + k9)) hx hcd dX4_writeBurnDown_50 (nI_add _ _) ?_
            refine r_mL G hC h 0 (104 + k9) (by decide) (by decide) rfl (show 104 + k9 < 115 by omega) (x := nI (B.1 5 k9)) (gOf_b hg (k := k9) (by omega)) dX4_writeBurnDown_51 ?_
            have q_10 := hz.1 5 k9
            refine k_Vv (As := [.int (nI (B.1 5 k9))]) (rest := []) (b := eX V 500) G hC hB h (met_X4_wn2 l V (nPut M 3 (nI 0)) X9 (B.1 5 k9) (by omega) (by omega)) mw_1814 kv_X4_writesNumber ⟨rfl, rfl⟩ ⟨Nat.le_of_ble_eq_true rfl, Nat.le_of_ble_eq_true rfl⟩ (r_mV hC h) rfl rfl hl.1 (Nat.le_of_ble_eq_true rfl) dX4_writeBurnDown_52 ⟨Nat.le_of_ble_eq_true rfl, Nat.le_of_ble_eq_true rfl⟩ (fun u H locs hp h => ?_)
            have hu9 := hp
            rw [hu9] at h
            have hb_11 := lapq (v := (B.1 5 k9)) hxl (dl2 (by omega))
            refine lv_iinc (v := nI (k9 + 1)) (lv' := [(1, .int (nI (k9 + 1))), (0, .ref (eX V 500))]) hx hcd dX4_writeBurnDown_55 hl (k := 0) rfl (by exact nI_add (k9) 1) (by decide) rfl (fun ls hl => ?_)
            refine lv_goto (tgt := 12) hx hcd dX4_writeBurnDown_58 (by decide) ?_
            exact ih_2 (k9 + 1) (X9 ++ dgs (B.1 5 k9)) (by omega) (bd_z hX9 (by omega)) (Or.inr (by omega)) (by omega) (by omega) _ _ h _ (lv_sub hl [0, 1] rfl)
          · have c_8 := cNle (tN (n := k9) (by omega)) t0 c_8
            refine lv_aload_n hx hcd dX4_writeBurnDown_36 rfl (lv_at hl 1 rfl) ?_
            refine lv_bipush (v := nI 32) hx hcd dX4_writeBurnDown_37 (by decide) ?_
            refine k_Vv (As := [.int (nI 32)]) (rest := []) (b := eX V 500) G hC hB h (met_X4_writes l V (lW (nPut M 3 (nI 0)) X9) (X9).length rfl (by omega) 32 (by omega)) mw_1818 kv_X4_writes ⟨rfl, rfl⟩ ⟨Nat.le_of_ble_eq_true rfl, Nat.le_of_ble_eq_true rfl⟩ (r_mV hC h) rfl rfl hl.1 (Nat.le_of_ble_eq_true rfl) dX4_writeBurnDown_39 ⟨Nat.le_of_ble_eq_true rfl, Nat.le_of_ble_eq_true rfl⟩ (fun u H locs hp h => ?_)
            have hu9 := hp
            rw [hu9, lW_s] at h
            have hb_12 := lapp1 hxl (32)
            have h59 := h5 k9
            refine lv_aload_n hx hcd dX4_writeBurnDown_42 rfl (lv_at hl 1 rfl) ?_
            refine lv_aload_n hx hcd dX4_writeBurnDown_43 rfl (lv_at hl 1 rfl) ?_
            refine r_mA G hC h 0 (by decide) mw_1472 dX4_writeBurnDown_44 ?_
            refine lv_bipush (v := nI 104) hx hcd dX4_writeBurnDown_47 (by decide) ?_
            refine lv_iload_n hx hcd dX4_writeBurnDown_49 rfl (lv_at hl 0 rfl) ?_
            refine w_iadd (v := nI (104 + k9)) hx hcd dX4_writeBurnDown_50 (nI_add _ _) ?_
            refine r_mL G hC h 0 (104 + k9) (by decide) (by decide) rfl (show 104 + k9 < 115 by omega) (x := nI (B.1 5 k9)) (gOf_b hg (k := k9) (by omega)) dX4_writeBurnDown_51 ?_
            have q_14 := hz.1 5 k9
            refine k_Vv (As := [.int (nI (B.1 5 k9))]) (rest := []) (b := eX V 500) G hC hB h (met_X4_wn2 l V (nPut M 3 (nI 0)) (X9 ++ [32]) (B.1 5 k9) (by omega) (by omega)) mw_1814 kv_X4_writesNumber ⟨rfl, rfl⟩ ⟨Nat.le_of_ble_eq_true rfl, Nat.le_of_ble_eq_true rfl⟩ (r_mV hC h) rfl rfl hl.1 (Nat.le_of_ble_eq_true rfl) dX4_writeBurnDown_52 ⟨Nat.le_of_ble_eq_true rfl, Nat.le_of_ble_eq_true rfl⟩ (fun u H locs hp h => ?_)
            have hu9 := hp
            rw [hu9] at h
            have hb_15 := lapq (v := (B.1 5 k9)) hb_12 (dl2 (by omega))
            refine lv_iinc (v := nI (k9 + 1)) (lv' := [(1, .int (nI (k9 + 1))), (0, .ref (eX V 500))]) hx hcd dX4_writeBurnDown_55 hl (k := 0) rfl (by exact nI_add (k9) 1) (by decide) rfl (fun ls hl => ?_)
            refine lv_goto (tgt := 12) hx hcd dX4_writeBurnDown_58 (by decide) ?_
            exact ih_2 (k9 + 1) ((X9 ++ [32]) ++ dgs (B.1 5 k9)) (by omega) (bd_p hX9 (by omega)) (Or.inr (by omega)) (by omega) (by omega) _ _ h _ (lv_sub hl [0, 1] rfl)
  exact L_1 (B.2 5 + 1 + 1) 0 [] (Nat.zero_le _) rfl (Or.inl rfl) (Nat.zero_le _) (by omega) _ _ h _ (lv_sub hl [0, 1] rfl)
