/-! THE ENTRY: what the statement and the tables say of the start, as the environment of all methods. -/
def nf : List Cond := flatC (Cond.and given_1 narrow_1)
def tK (i : Nat) : Term := .string (kTx.getD i ("", 0, "", [])).1 (kTx.getD i ("", 0, "", [])).2.1
def tV (i : Nat) : Term := .field (tK i) "java/lang/String" "value" "[B"
def nBs : List Nat := [574, 585, 594, 607, 622, 632, 644, 655, 669, 679, 693, 700, 751, 757, 763, 771, 778, 787, 794, 800, 805, 810, 816]
def tSr : List Nat := [1370, 1371, 1372, 1373, 1374, 1375, 1376, 1377, 1378, 1379, 1380, 1381, 1862, 1873, 1878, 1883, 1884, 1885, 1886, 1887, 1888, 1889, 1890]
def tXr : List Nat := [797, 816, 862, 902, 1040, 1282, 1416, 1429]
def nXb : List Nat := [411, 442, 479, 506, 534, 551, 707, 732]
set_option maxRecDepth 100000
theorem en_1 : ∀ i, i < 23 → nf[nBs.getD i 0]? = some (.exactly (tK i) "java/lang/String") := by decide +kernel
theorem en_2 : ∀ i, i < 23 → nf[nBs.getD i 0 + 1]? = some (.eq (.field (tK i) "java/lang/String" "coder" "B") (.int 0)) := by decide +kernel
theorem en_3 : ∀ i, i < 23 → nf[nBs.getD i 0 + 2]? = some (.arrayOf (tV i) .byte) := by decide +kernel
theorem en_4 : ∀ i, i < 23 → nf[nBs.getD i 0 + 3]? = some (.eq (.length (tV i)) (.int (Int32.ofNat (kTn.getD i 0)))) := by decide +kernel
theorem en_5 : ∀ i, i < 23 → ∀ j, j < kTn.getD i 0 → nf[nBs.getD i 0 + 4 + j]? = some (.eq (.elem (tV i) (.int (Int32.ofNat j))) (.int ((kTb.getD i []).getD j 0))) := by decide +kernel
theorem en_6 : ∀ i, i < 23 → lw_tbl[tSr.getD i 0]? = some (.stringRef (kTx.getD i ("", 0, "", [])).1 (kTx.getD i ("", 0, "", [])).2.1 (kTx.getD i ("", 0, "", [])).2.2.1) := by decide +kernel
theorem en_7 : ∀ i, i < 8 → lw_tbl[tXr.getD i 0]? = some (.stringRef RX3 (kXt.getD i (0, "")).1 (kXt.getD i (0, "")).2) := by decide +kernel
theorem en_8 : ∀ i, i < 8 → nf[nXb.getD i 0]? = some (.exactly (.string RX3 (kXt.getD i (0, "")).1) "java/lang/String") := by decide +kernel
theorem en_9 : ∀ i, i < 23 → ∀ j, j < 23 → kTn.getD i 0 = kTn.getD j 0 → (∀ c, c < kTn.getD i 0 → (kTb.getD i []).getD c 0 = (kTb.getD j []).getD c 0) → i = j := by decide +kernel
theorem en_n : ∀ i, i < 23 → kTn.getD i 0 < 12 := by decide +kernel
theorem en_cs : (.eq (.static "java/lang/String" "COMPACT_STRINGS" "Z") (.int 1) : Cond) ∈ nf := List.mem_of_getElem? (i := 4) (by decide +kernel)
theorem en_sio : (.isRef (.static "jdk/internal/util/Preconditions" "SIOOBE_FORMATTER" "Ljava/util/function/BiFunction;") : Cond) ∈ nf := List.mem_of_getElem? (i := 5) (by decide +kernel)
theorem en_us : (.isRef (.static "java/lang/Throwable" "UNASSIGNED_STACK" "[Ljava/lang/StackTraceElement;") : Cond) ∈ nf := List.mem_of_getElem? (i := 215) (by decide +kernel)
theorem en_ss : (.isRef (.static "java/lang/Throwable" "SUPPRESSED_SENTINEL" "Ljava/util/List;") : Cond) ∈ nf := List.mem_of_getElem? (i := 216) (by decide +kernel)
theorem en_doa : (.arrayOf (.static "java/lang/Integer" "DigitOnes" "[B") .byte : Cond) ∈ nf := List.mem_of_getElem? (i := 10) (by decide +kernel)
theorem en_dol : (.eq (.length (.static "java/lang/Integer" "DigitOnes" "[B")) (.int (Int32.ofNat 100)) : Cond) ∈ nf := List.mem_of_getElem? (i := 11) (by decide +kernel)
theorem en_doe : ∀ j, j < 100 → nf[12 + j]? = some (.eq (.elem (.static "java/lang/Integer" "DigitOnes" "[B") (.int (Int32.ofNat j))) (.int (nI (48 + j % 10)))) := by decide +kernel
theorem en_dta : (.arrayOf (.static "java/lang/Integer" "DigitTens" "[B") .byte : Cond) ∈ nf := List.mem_of_getElem? (i := 113) (by decide +kernel)
theorem en_dtl : (.eq (.length (.static "java/lang/Integer" "DigitTens" "[B")) (.int (Int32.ofNat 100)) : Cond) ∈ nf := List.mem_of_getElem? (i := 114) (by decide +kernel)
theorem en_dte : ∀ j, j < 100 → nf[115 + j]? = some (.eq (.elem (.static "java/lang/Integer" "DigitTens" "[B") (.int (Int32.ofNat j))) (.int (nI (48 + j / 10)))) := by decide +kernel
theorem en_esa : (.arrayOf (.static "SprintBoard" "ESTIMATES" "[I") .int : Cond) ∈ nf := List.mem_of_getElem? (i := 218) (by decide +kernel)
theorem en_esl : (.eq (.length (.static "SprintBoard" "ESTIMATES" "[I")) (.int (Int32.ofNat 6)) : Cond) ∈ nf := List.mem_of_getElem? (i := 219) (by decide +kernel)
theorem en_ese : ∀ j, j < 6 → nf[220 + j]? = some (.eq (.elem (.static "SprintBoard" "ESTIMATES" "[I") (.int (Int32.ofNat j))) (.int (kEst j))) := by decide +kernel
theorem el_cs : (.laysStatic "java/lang/String" "COMPACT_STRINGS" "Z" : Cond) ∈ lw_tbl := List.mem_of_getElem? (i := 194) (by decide +kernel)
theorem el_sio : (.laysStatic "jdk/internal/util/Preconditions" "SIOOBE_FORMATTER" "Ljava/util/function/BiFunction;" : Cond) ∈ lw_tbl := List.mem_of_getElem? (i := 406) (by decide +kernel)
theorem el_do : (.laysStatic "java/lang/Integer" "DigitOnes" "[B" : Cond) ∈ lw_tbl := List.mem_of_getElem? (i := 476) (by decide +kernel)
theorem el_dt : (.laysStatic "java/lang/Integer" "DigitTens" "[B" : Cond) ∈ lw_tbl := List.mem_of_getElem? (i := 478) (by decide +kernel)
theorem el_es : (.laysStatic "SprintBoard" "ESTIMATES" "[I" : Cond) ∈ lw_tbl := List.mem_of_getElem? (i := 792) (by decide +kernel)
theorem el_us : (.laysStatic "java/lang/Throwable" "UNASSIGNED_STACK" "[Ljava/lang/StackTraceElement;" : Cond) ∈ lw_tbl := List.mem_of_getElem? (i := 550) (by decide +kernel)
theorem el_ss : (.laysStatic "java/lang/Throwable" "SUPPRESSED_SENTINEL" "Ljava/util/List;" : Cond) ∈ lw_tbl := List.mem_of_getElem? (i := 552) (by decide +kernel)
theorem el_ao : (.arrayOver (.object RX0) : Cond) ∈ lw_tbl := List.mem_of_getElem? (i := 165) (by decide +kernel)
theorem el_n1 : (.methodLinkNest RX3 34 yX1_init RX3 : Cond) ∈ lw_tbl := List.mem_of_getElem? (i := 180) (by decide +kernel)
theorem el_n2 : (.methodLinkNest RX0 70 yX3_holds RX3 : Cond) ∈ lw_tbl := List.mem_of_getElem? (i := 304) (by decide +kernel)
theorem el_n3 : (.methodLinkNest RX0 99 yX3_setOf RX3 : Cond) ∈ lw_tbl := List.mem_of_getElem? (i := 725) (by decide +kernel)
theorem el_n4 : (.fieldLinkNest RX0 63 RX3 "ESTIMATES" "[I" RX3 : Cond) ∈ lw_tbl := List.mem_of_getElem? (i := 791) (by decide +kernel)
theorem el_de : ∀ y ∈ kDn, (.declares y : Cond) ∈ lw_tbl := by
  intro y hy
  simp only [kDn, List.mem_cons, List.not_mem_nil, or_false] at hy
  rcases hy with rfl | rfl | rfl
  · exact List.mem_of_getElem? (i := 527) (by decide +kernel)
  · exact List.mem_of_getElem? (i := 529) (by decide +kernel)
  · exact List.mem_of_getElem? (i := 531) (by decide +kernel)
def tCa : List Nat := [525, 809, 855, 895, 1033, 1275]
theorem el_ca : ∀ i, i < 6 → lw_tbl[tCa.getD i 0]? = some (.castable (kEx.getD i "") (kEx.getD i "")) := by decide +kernel
def nNc : List (List Nat) := [[0, 246, 260, 272, 286, 300], [232, 0, 261, 273, 287, 301], [234, 248, 0, 275, 289, 303], [235, 249, 262, 0, 290, 304], [236, 250, 263, 276, 0, 305], [237, 251, 264, 277, 291, 0]]
theorem en_nc : ∀ i, i < 6 → ∀ j, j < 6 → i ≠ j → nf[(nNc.getD i []).getD j 0]? = some (.not (.castable (kEx.getD i "") (kEx.getD j ""))) := by decide +kernel
theorem el_pec : (.privateMethod yJ5_ensureCapacityInternal_d00df : Cond) ∈ lw_tbl := List.mem_of_getElem? (i := 354) (by decide +kernel)
theorem el_pnc : (.privateMethod yJ5_newCapacity_0f7a4 : Cond) ∈ lw_tbl := List.mem_of_getElem? (i := 358) (by decide +kernel)
