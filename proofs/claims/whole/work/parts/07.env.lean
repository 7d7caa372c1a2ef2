/-! WHAT STANDS BEHIND EVERY METHOD: tables, links between nest mates, constant texts, static tables; how it is handed on to a callee. -/
def kEst : Nat → Int32
  | 0 => 1
  | 1 => 2
  | 2 => 3
  | 3 => 5
  | 4 => 8
  | _ => 13
/-- the texts that are walked: class, entry, text, letters -/
def kTx : List (String × Nat × String × List Nat) := [(RX1, 91, "story N", [115, 116, 111, 114, 121, 32, 78]), (RX1, 93, "dev D", [100, 101, 118, 32, 68]), (RX1, 95, "block N N", [98, 108, 111, 99, 107, 32, 78, 32, 78]), (RX1, 97, "unblock N N", [117, 110, 98, 108, 111, 99, 107, 32, 78, 32, 78]), (RX1, 99, "plan N", [112, 108, 97, 110, 32, 78]), (RX1, 101, "unplan N", [117, 110, 112, 108, 97, 110, 32, 78]), (RX1, 103, "start N", [115, 116, 97, 114, 116, 32, 78]), (RX1, 105, "assign N D", [97, 115, 115, 105, 103, 110, 32, 78, 32, 68]), (RX1, 107, "free D", [102, 114, 101, 101, 32, 68]), (RX1, 109, "points N N", [112, 111, 105, 110, 116, 115, 32, 78, 32, 78]), (RX1, 111, "day", [100, 97, 121]), (RX1, 113, "end", [101, 110, 100]), (RX4, 196, "ry", [114, 121]), (RX4, 198, "rt", [114, 116]), (RX4, 185, "lock", [108, 111, 99, 107]), (RX4, 194, "lan", [108, 97, 110]), (RX4, 206, "ssign", [115, 115, 105, 103, 110]), (RX4, 208, "ree", [114, 101, 101]), (RX4, 210, "nd", [110, 100]), (RX4, 212, "v", [118]), (RX4, 214, "y", [121]), (RX4, 216, "an", [97, 110]), (RX4, 218, "ints", [105, 110, 116, 115])]
/-- the texts of exceptions: entry, text -/
def kXt : List (Nat × String) := [(346, "the argument is not allowed"), (348, "the board does not allow this now"), (343, "there is no such number"), (352, "the board cannot do this"), (357, "there is none"), (260, "no sprint has ended"), (309, "the text is malformed"), (320, "a command fails")]
def kLs (n : Nat) : List Nat := (kTx.getD n ("", 0, "", [])).2.2.2
def kTn : List Nat := kTx.map (fun q => q.2.2.2.length)
def kTb : List (List Int32) := kTx.map (fun q => q.2.2.2.map nI)
def cNw (U : State) : Prop := va_Nw (.methodLinkNest RX3 34 yX1_init RX3) U ∧ va_Nw (.methodLinkNest RX0 70 yX3_holds RX3) U ∧ va_Nw (.methodLinkNest RX0 99 yX3_setOf RX3) U ∧ va_Nw (.fieldLinkNest RX0 63 RX3 "ESTIMATES" "[I" RX3) U
def cEs (V : kEnv) (U : State) : Prop := va_Z RX3 "ESTIMATES" "[I" (.ref (eX V 400)) (eA V) U U.heap ∧ va_T .int (eX V 400) 6 (fun j => .int (kEst j)) (eA V) U U.heap
def cXq (V : kEnv) (U : State) : Prop := vx_Zq Bundle.tN "UNASSIGNED_STACK" Bundle.steD (eA V) U U.heap ∧ vx_Zq Bundle.tN "SUPPRESSED_SENTINEL" Bundle.listD (eA V) U U.heap
def cXs (V : kEnv) (U : State) : Prop := ∀ q ∈ kXt, ∃ sa, vk_R RX3 q.1 q.2 sa U
def cTx (V : kEnv) (U : State) : Prop := vk_S 23 kTn kTb (fun i => eX V (200 + i)) (fun i => eX V (300 + i)) (eA V) U U.heap ∧ ∀ (i : Nat) (q : String × Nat × String × List Nat), kTx[i]? = some q → vk_R q.1 q.2.1 q.2.2.1 (eX V (200 + i)) U
/-- digits: of a number below 100, its tens and its ones, as letters -/
def kTens (j : Nat) : Value := .int (nI (48 + j / 10))
def kOnes (j : Nat) : Value := .int (nI (48 + j % 10))
/-- private methods of AbstractStringBuilder, called on a StringBuilder -/
def kSl : List MethodName := [yJ5_ensureCapacityInternal_d00df, yJ5_newCapacity_0f7a4]
def cSl (U : State) : Prop := ∀ y ∈ kSl, (Cond.selects RJ4 y y).before #[] U = true
/-- constructors that a thrown exception passes through -/
def kDn : List MethodName := [⟨"java/lang/RuntimeException", "<init>", "(Ljava/lang/String;)V"⟩, ⟨"java/lang/Exception", "<init>", "(Ljava/lang/String;)V"⟩, ⟨"java/lang/Throwable", "<init>", "(Ljava/lang/String;)V"⟩]
def cDe (U : State) : Prop := ∀ y ∈ kDn, va_Nw (.declares y) U
def cJd (V : kEnv) (U : State) : Prop := va_Z "java/lang/String" "COMPACT_STRINGS" "Z" (.int 1) (eA V) U U.heap ∧ va_Z "java/lang/Integer" "DigitTens" "[B" (.ref (eX V 401)) (eA V) U U.heap ∧ va_Z "java/lang/Integer" "DigitOnes" "[B" (.ref (eX V 402)) (eA V) U U.heap ∧ va_T .byte (eX V 401) 100 kTens (eA V) U U.heap ∧ va_T .byte (eX V 402) 100 kOnes (eA V) U U.heap ∧ va_Zq "jdk/internal/util/Preconditions" "SIOOBE_FORMATTER" "Ljava/util/function/BiFunction;" (eA V) U U.heap ∧ cSl U ∧ cDe U
/-- the exceptions of the class -/
def kEx : List String := ["java/lang/IllegalArgumentException", "java/lang/IllegalStateException", "java/lang/IndexOutOfBoundsException", "java/lang/UnsupportedOperationException", "java/util/NoSuchElementException", "java/lang/ArithmeticException"]
def cCa (U : State) : Prop := ∀ q ∈ kEx, va_Nw (.castable q q) U
def cNc (U : State) : Prop := ∀ q ∈ kEx, ∀ r ∈ kEx, q ≠ r → va_Nc q r U
def cSt (V : kEnv) (U : State) : Prop := va_K (eD V) vwCl (eT V) U ∧ cNw U ∧ cEs V U ∧ cXq V U ∧ cXs V U ∧ cTx V U ∧ cJd V U ∧ cCa U ∧ cNc U
theorem cSt.go {V : kEnv} {s U : State} (hW : s.WarmedH U.vm) (hq : ∀ a : Nat, a < s.heap.size → ¬ eA V a → U.heap[a]? = s.heap[a]?) (h : cSt V s) : cSt V U := by
  obtain ⟨h1, ⟨n1, n2, n3, n4⟩, ⟨e1, e2⟩, ⟨x1, x2⟩, h5, ⟨t1, t2⟩, ⟨j1, j2, j3, j4, j5, j6, j7, j8⟩, c1, c2⟩ := h
  have a := hW.alike
  refine ⟨h1.moved a, ⟨va_Nw.warmM hW n1, va_Nw.warmM hW n2, va_Nw.warmM hW n3, va_Nw.warmF hW n4⟩, ⟨(e1.moved a).kept hq, (e2.moved a).kept hq⟩, ⟨(x1.moved a).kept hq, (x2.moved a).kept hq⟩, fun q hqm => ?_, ⟨(t1.moved a).kept hq, fun i q hi => (t2 i q hi).warm hW⟩, ⟨(j1.moved a).kept hq, (j2.moved a).kept hq, (j3.moved a).kept hq, (j4.moved a).kept hq, (j5.moved a).kept hq, (j6.moved a).kept hq, fun y hy => word_at hW (Or.inl (by first | rfl | simp [Cond.onTables, Cond.keeps, Cond.steady])) (j7 y hy), fun y hy => va_Nw.warmD hW (j8 y hy)⟩, fun q hqm => va_Nw.warmC hW (c1 q hqm), fun q hqm r hrm hne => (c2 q hqm r hrm hne).moved a⟩
  obtain ⟨sa, h⟩ := h5 q hqm
  exact ⟨sa, h.warm hW⟩
/-- a method's start and end over the cells ws -/
def cPre (V : kEnv) (ws : va_W) (U : State) : Prop := cSt V U ∧ eB V ≤ U.heap.size ∧ va_P (eD V) vwCl ws U.heap ∧ va_D (eA V) ws
def cAt (V : kEnv) (ws : va_W) (t : State) : Prop := va_P (eD V) vwCl ws t.heap ∧ va_D (eA V) ws
/-- where a walk stands -/
def cH (V : kEnv) (s : State) (H : Heap) (locs : List Loc) (ws : va_W) : Prop := va_P (eD V) vwCl ws H ∧ va_D (eA V) ws ∧ va_S (eA V) s.heap H locs
theorem cPre.blind {V : kEnv} {ws : va_W} {av : List Value} : FrameBlind (va_Pc av (cPre V ws)) := by
  intro a U g mk h
  obtain ⟨h1, h2, h3, h4, h5⟩ := h
  exact ⟨h1, h2.go (s := U) (U := U.calling g mk a) (State.WarmedH.refl U) (fun _ _ _ => rfl), h3, h4, h5⟩
theorem cPre.of {V : kEnv} {ws : va_W} {av : List Value} {s : State} {H : Heap} {locs : List Loc} (hC : cSt V s) (hB : eB V ≤ s.heap.size) (h : cH V s H locs ws) : ∀ U : State, U.heap = H → s.WarmedH U.vm → va_Pc av (cPre V ws) av.toArray U := by
  intro U hU hW
  obtain ⟨hP, hD, hS⟩ := h
  refine ⟨rfl, hC.go hW (fun a h1 h2 => by rw [hU]; exact hS.2.1 a h1 h2), ?_, by rw [hU]; exact hP, hD⟩
  rw [hU]
  exact Nat.le_trans hB hS.1
