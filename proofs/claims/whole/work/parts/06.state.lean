/-! THE STATE OF THE CLASS. A board's value: its seven int arrays (0 estimates, 1 remains, 2 blockerSets, 3 speeds, 4 assignments, 5 burnDowns, 6 velocities) and its eight numbers (0 stories, 1 developers, 2 plannedSet, 3 active, 4 sprintLength, 5 passedDays, 6 startScope, 7 endedSprints); assignments are held one up (0: none). -/
abbrev kBd : Type := (Nat → Nat → Nat) × (Nat → Nat)
/-- a string builder: bytes, capacity, the bytes' address, how many, maybeLatin1 -/
abbrev kSb : Type := (Nat → Int32) × Nat × Nat × Nat × Int32
/-- the class: boards (0 board, 1 trial, 2 backup, 3 snapshot, 4 .. 11 history), numbers (0 hasSnapshot, 1 lastErrorPosition, 2 lastFailedCommand, 3 next, 4 size, 5 commands, 6 position), arrays (0 closure, 1 kinds, 2 firsts, 3 seconds), builders (0 line, 1 typed) -/
abbrev kCs : Type := (Nat → kBd) × (Nat → Int32) × (Nat → Nat → Int32) × (Nat → kSb)
/-- what is fixed in a run: tables, array classes, addresses, what may be written, from where on all is free -/
abbrev kEnv : Type := va_G × (Nat → ClassId) × (Nat → Nat) × (Nat → Prop) × Nat
abbrev eD (V : kEnv) : va_G := V.1
abbrev eC (V : kEnv) : Nat → ClassId := V.2.1
abbrev eX (V : kEnv) : Nat → Nat := V.2.2.1
abbrev eA (V : kEnv) : Nat → Prop := V.2.2.2.1
abbrev eB (V : kEnv) : Nat := V.2.2.2.2
def eT (V : kEnv) : List (ClassId × FieldType) := [(eC V 0, .int), (eC V 1, .byte), (eC V 2, .object "SprintBoard$Board"), (eC V 3, .char), (eC V 4, .long), (eC V 5, .double)]
def kLen : Nat → Nat
  | 0 => 16
  | 1 => 16
  | 2 => 16
  | 3 => 4
  | 4 => 4
  | 5 => 11
  | _ => 9
def kE : Nat → Nat → Int32
  | 4, v => nI v - 1
  | _, v => nI v
def bFl (V : kEnv) (b : Nat) (B : kBd) : List Value := [.ref (eX V (8 * b + 1)), .ref (eX V (8 * b + 2)), .ref (eX V (8 * b + 3)), .ref (eX V (8 * b + 4)), .ref (eX V (8 * b + 5)), .ref (eX V (8 * b + 6)), .ref (eX V (8 * b + 7)), .int (nI (B.2 0)), .int (nI (B.2 1)), .int (nI (B.2 2)), .int (nI (B.2 3)), .int (nI (B.2 4)), .int (nI (B.2 5)), .int (nI (B.2 6)), .int (nI (B.2 7))]
def bArr (V : kEnv) (B : kBd) (c : Nat) : va_E := .inl (eC V 0, kLen c, .inl (fun k => kE c (B.1 c k)))
def bCel (V : kEnv) (b : Nat) (B : kBd) : Nat → va_E
  | 0 => .inr (4, bFl V b B)
  | c + 1 => bArr V B c
def sFl (V : kEnv) (g : Nat → Int32) : List Value := [.ref (eX V 0), .ref (eX V 8), .ref (eX V 16), .ref (eX V 24), .ref (eX V 97), .ref (eX V 99), .ref (eX V 104), .ref (eX V 100), .int (g 0), .int (g 1), .int (g 2)]
def hFl (V : kEnv) (g : Nat → Int32) : List Value := [.ref (eX V 98), .int (g 3), .int (g 4)]
def tFl (V : kEnv) (g : Nat → Int32) : List Value := [.ref (eX V 101), .ref (eX V 102), .ref (eX V 103), .int (g 5), .ref (eX V 105), .int (g 6)]
def uFl (x : kSb) : List Value := [.ref x.2.2.1, .int 0, .int x.2.2.2.2, .int (nI x.2.2.2.1)]
def fCel (V : kEnv) (S : kCs) : Nat → va_E
  | 0 => .inr (7, sFl V S.2.1)
  | 1 => .inr (6, hFl V S.2.1)
  | 2 => .inl (eC V 2, 8, .inr (.inr (.inr (.inr (fun j => some (eX V (8 * (4 + j))))))))
  | 3 => .inr (5, tFl V S.2.1)
  | 4 => .inl (eC V 0, 16, .inl (S.2.2.1 0))
  | 5 => .inl (eC V 0, 60, .inl (S.2.2.1 1))
  | 6 => .inl (eC V 0, 60, .inl (S.2.2.1 2))
  | 7 => .inl (eC V 0, 60, .inl (S.2.2.1 3))
  | 8 => .inr (1, uFl (S.2.2.2 0))
  | 9 => .inr (1, uFl (S.2.2.2 1))
  | 10 => .inl (eC V 1, (S.2.2.2 0).2.1, .inl (S.2.2.2 0).1)
  | _ => .inl (eC V 1, (S.2.2.2 1).2.1, .inl (S.2.2.2 1).1)
def cCel (V : kEnv) (S : kCs) (i : Nat) : va_E := if i < 96 then bCel V (i / 8) (S.1 (i / 8)) (i % 8) else fCel V S (i - 96)
def cAdr (V : kEnv) (S : kCs) (i : Nat) : Nat := if i = 106 then (S.2.2.2 0).2.2.1 else if i = 107 then (S.2.2.2 1).2.2.1 else eX V i
def cWs (V : kEnv) (S : kCs) : va_W := (List.range 108).map (fun i => (cAdr V S i, cCel V S i))
theorem cWs_at (V : kEnv) (S : kCs) {i : Nat} (h : i < 108) : (cWs V S)[i]? = some (cAdr V S i, cCel V S i) := by
  simp [cWs, List.getElem?_map, List.getElem?_range h]
theorem cWs_set {V : kEnv} {S S' : kCs} {i : Nat} (h : i < 108) (h1 : ∀ j, j < 108 → cAdr V S' j = cAdr V S j) {e : va_E} (h2 : cCel V S' i = e) (h3 : ∀ j, j < 108 → j ≠ i → cCel V S' j = cCel V S j) : (cWs V S).set i (cAdr V S i, e) = cWs V S' := by
  apply List.ext_getElem?
  intro j
  rw [List.getElem?_set]
  have hl : (cWs V S).length = 108 := by simp [cWs]
  have hl' : (cWs V S').length = 108 := by simp [cWs]
  by_cases hj : j < 108
  · rw [cWs_at V S' hj]
    by_cases hi : i = j
    · subst hi
      rw [if_pos rfl, if_pos (by rw [hl]; exact h), h1 i h, h2]
    · rw [if_neg hi, cWs_at V S hj, h1 j hj, h3 j hj (fun e => hi e.symm)]
  · have e1 : (cWs V S')[j]? = none := List.getElem?_eq_none (by omega)
    have e2 : (cWs V S)[j]? = none := List.getElem?_eq_none (by omega)
    rw [e1, if_neg (by omega), e2]
/-- one board's value set -/
def setB (S : kCs) (b : Nat) (B : kBd) : kCs := (va_up S.1 b B, S.2)
theorem setB_at (S : kCs) (b : Nat) (B : kBd) : (setB S b B).1 b = B := by simp [setB, va_up]
theorem setB_ne (S : kCs) {b d : Nat} (B : kBd) (h : d ≠ b) : (setB S b B).1 d = S.1 d := by simp [setB, va_up, h]
theorem setB_set (S : kCs) (b : Nat) (B C : kBd) : setB (setB S b B) b C = setB S b C := by
  unfold setB
  congr 1
  funext j
  simp only [va_up]
  split <;> rfl
theorem setB_self (S : kCs) (b : Nat) : setB S b (S.1 b) = S := by
  unfold setB
  have : va_up S.1 b (S.1 b) = S.1 := by
    funext j
    simp only [va_up]
    split
    · rename_i h; rw [h]
    · rfl
  rw [this]
theorem setB_comm (S : kCs) {b d : Nat} (B C : kBd) (h : b ≠ d) : setB (setB S b B) d C = setB (setB S d C) b B := by
  unfold setB
  congr 1
  funext j
  simp only [va_up]
  by_cases h1 : j = b
  · subst h1; simp [h]
  · simp [h1]
theorem cCel_b (V : kEnv) (S : kCs) {b c : Nat} (hb : b < 12) (hc : c < 8) : cCel V S (8 * b + c) = bCel V b (S.1 b) c := by
  unfold cCel
  rw [if_pos (by omega), show (8 * b + c) / 8 = b by omega, show (8 * b + c) % 8 = c by omega]
theorem cAdr_b (V : kEnv) (S : kCs) {i : Nat} (hi : i < 106) : cAdr V S i = eX V i := by
  unfold cAdr
  rw [if_neg (by omega), if_neg (by omega)]
theorem cAdr_s (V : kEnv) (S : kCs) (b : Nat) (B : kBd) (i : Nat) : cAdr V (setB S b B) i = cAdr V S i := rfl
/-- board b's cell c of a world -/
theorem cB_at (V : kEnv) (S : kCs) {b c : Nat} (hb : b < 12) (hc : c < 8) : (cWs V S)[8 * b + c]? = some (eX V (8 * b + c), bCel V b (S.1 b) c) := by
  rw [cWs_at V S (by omega), cCel_b V S hb hc, cAdr_b V S (by omega)]
/-- .. and set -/
theorem cB_set (V : kEnv) (S : kCs) {b c : Nat} (hb : b < 12) (hc : c < 8) (B' : kBd) {e : va_E} (h2 : bCel V b B' c = e) (h3 : ∀ d, d < 8 → d ≠ c → bCel V b B' d = bCel V b (S.1 b) d) : (cWs V S).set (8 * b + c) (eX V (8 * b + c), e) = cWs V (setB S b B') := by
  rw [← cAdr_b V S (i := 8 * b + c) (by omega)]
  refine cWs_set (V := V) (S := S) (S' := setB S b B') (i := 8 * b + c) (by omega) (fun _ _ => rfl) ?_ ?_
  · rw [cCel_b V _ hb hc, setB_at]; exact h2
  · intro j hj hne
    by_cases h : j < 96
    · have e1 : j = 8 * (j / 8) + j % 8 := by omega
      rw [e1, cCel_b V _ (by omega) (by omega), cCel_b V _ (by omega) (by omega)]
      by_cases hjb : j / 8 = b
      · rw [hjb, setB_at]
        exact h3 _ (by omega) (fun e => hne (by omega))
      · rw [setB_ne S B' hjb]
    · unfold cCel
      rw [if_neg h, if_neg h]
      rfl
theorem bArr_put (B : kBd) (c k : Nat) (v : Nat) : ((va_up B.1 c (va_up (B.1 c) k v), B.2) : kBd).1 c = va_up (B.1 c) k v := by simp [va_up]
