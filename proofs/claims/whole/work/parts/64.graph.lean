/-! WHAT DEPENDS ON WHAT: paths; the class's search, its closure and the reference's set find the same. -/
def rch (B : kBd) : Nat → Nat → Nat → Prop
  | 0, x, y => x = y
  | n + 1, x, y => ∃ z, (B.1 2 x).testBit z = true ∧ rch B n z y
def rcp (B : kBd) (x y : Nat) : Prop := ∃ n, rch B (n + 1) x y
theorem rch_app {B : kBd} : ∀ {n m x y z : Nat}, rch B n x y → rch B m y z → rch B (n + m) x z
  | 0, m, x, y, z, h1, h2 => by
    have e : x = y := h1
    subst e; rw [Nat.zero_add]; exact h2
  | n + 1, m, x, y, z, ⟨w, h1, h3⟩, h2 => by
    rw [show n + 1 + m = (n + m) + 1 by omega]
    exact ⟨w, h1, rch_app h3 h2⟩
theorem rch_one {B : kBd} {x y : Nat} (h : (B.1 2 x).testBit y = true) : rch B 1 x y := ⟨y, h, rfl⟩
theorem rcp_one {B : kBd} {x y : Nat} (h : (B.1 2 x).testBit y = true) : rcp B x y := ⟨0, rch_one h⟩
theorem rcp_tr {B : kBd} {x y z : Nat} (h1 : rcp B x y) (h2 : rcp B y z) : rcp B x z := by
  obtain ⟨n, h1⟩ := h1
  obtain ⟨m, h2⟩ := h2
  exact ⟨n + (m + 1), by have := rch_app h1 h2; rw [show n + 1 + (m + 1) = n + (m + 1) + 1 by omega] at this; exact this⟩
theorem rcp_in {B : kBd} (hq : bQ B) {x y : Nat} (h : rcp B x y) : x < B.2 0 ∧ y < B.2 0 := by
  obtain ⟨n, h⟩ := h
  refine ⟨?_, ?_⟩
  · obtain ⟨z, h1, -⟩ := h
    exact (hq x z h1).1
  · induction n generalizing x with
    | zero =>
      obtain ⟨z, h1, h2⟩ := h
      have e : z = y := h2
      rw [← e]; exact (hq x z h1).2
    | succ n ih =>
      obtain ⟨z, h1, h2⟩ := h
      exact ih h2
/-- a set that holds all blockers of its own holds all that is below -/
theorem rch_closed {B : kBd} {s : Nat} (h : ∀ x y, s.testBit x = true → (B.1 2 x).testBit y = true → s.testBit y = true) : ∀ {n x y : Nat}, s.testBit x = true → rch B n x y → s.testBit y = true
  | 0, x, y, h1, h2 => by
    have e : x = y := h2
    rw [← e]; exact h1
  | n + 1, x, y, h1, ⟨z, h2, h3⟩ => rch_closed h (h x z h1 h2) h3
theorem boa_bit (B : kBd) (q j : Nat) : (boa B q).testBit j = true ↔ ∃ x, x < 16 ∧ q.testBit x = true ∧ (B.1 2 x).testBit j = true := by
  unfold boa
  rw [orUp_bit]
  constructor
  · rintro ⟨k, hk, h⟩
    by_cases c : q.testBit k = true
    · rw [if_pos c] at h; exact ⟨k, hk, c, h⟩
    · rw [if_neg c, bit0] at h; exact Bool.noConfusion h
  · rintro ⟨k, hk, h1, h2⟩
    exact ⟨k, hk, by rw [if_pos h1]; exact h2⟩
theorem bit_lt {a j : Nat} (ha : a < 65536) (h : a.testBit j = true) : j < 16 := by
  rcases Nat.lt_or_ge j 16 with z | z
  · exact z
  · rw [Nat.testBit_lt_two_pow (Nat.lt_of_lt_of_le (show a < 2 ^ 16 from ha) (Nat.pow_le_pow_right (by decide) z))] at h
    exact Bool.noConfusion h
theorem andn_bit {a q j : Nat} (ha : a < 65536) : (andn a q).testBit j = true ↔ a.testBit j = true ∧ q.testBit j = false := by
  unfold andn
  rw [Nat.testBit_and, Nat.testBit_xor, Bool.and_eq_true]
  constructor
  · rintro ⟨h1, h2⟩
    refine ⟨h1, ?_⟩
    rw [(by decide : ∀ i, i < 16 → Nat.testBit 65535 i = true) j (bit_lt ha h1)] at h2
    cases c : q.testBit j
    · rfl
    · rw [c] at h2; exact Bool.noConfusion h2
  · rintro ⟨h1, h2⟩
    refine ⟨h1, ?_⟩
    rw [(by decide : ∀ i, i < 16 → Nat.testBit 65535 i = true) j (bit_lt ha h1), h2]
    rfl
theorem or_bit {a b j : Nat} : (a ||| b).testBit j = true ↔ a.testBit j = true ∨ b.testBit j = true := by
  rw [Nat.testBit_or, Bool.or_eq_true]
theorem ne0_bit {q : Nat} (h : q ≠ 0) : ∃ j, q.testBit j = true := by
  refine Classical.byContradiction (fun z => h (Nat.eq_of_testBit_eq (fun j => ?_)))
  rw [bit0]
  cases c : q.testBit j
  · rfl
  · exact absurd ⟨j, c⟩ z
theorem sumUp_mono {f g : Nat → Nat} (h : ∀ k, f k ≤ g k) : ∀ n, sumUp f n ≤ sumUp g n
  | 0 => Nat.le_refl _
  | n + 1 => Nat.add_le_add (sumUp_mono h n) (h n)
theorem sumUp_lt {f g : Nat → Nat} (h : ∀ k, f k ≤ g k) {j : Nat} (hj : f j < g j) : ∀ n, j < n → sumUp f n < sumUp g n
  | 0, hn => absurd hn (Nat.not_lt_zero _)
  | n + 1, hn => by
    show sumUp f n + f n < sumUp g n + g n
    by_cases c : j = n
    · rw [c] at hj
      have := sumUp_mono h n
      omega
    · have := sumUp_lt h hj n (by omega)
      have := h n
      omega
def cntN (c n : Nat) : Nat := sumUp (fun k => if c.testBit k = true then 1 else 0) n
theorem cntN_le (c n : Nat) : cntN c n ≤ n := by
  have := sumUp_le (f := fun k => if c.testBit k = true then 1 else 0) (c := 1) (fun k => by split <;> omega) n
  unfold cntN; omega
theorem cntN_sub {a b : Nat} (h : ∀ k, a.testBit k = true → b.testBit k = true) (n : Nat) : cntN a n ≤ cntN b n := by
  refine sumUp_mono (fun k => ?_) n
  by_cases c : a.testBit k = true
  · rw [if_pos c, if_pos (h k c)]
    exact Nat.le_refl _
  · rw [if_neg c]; exact Nat.zero_le _
theorem cntN_lt {a b j : Nat} (h : ∀ k, a.testBit k = true → b.testBit k = true) (hj : a.testBit j = false) (hb : b.testBit j = true) {n : Nat} (hn : j < n) : cntN a n < cntN b n := by
  refine sumUp_lt (fun k => ?_) (j := j) ?_ n hn
  · by_cases c : a.testBit k = true
    · rw [if_pos c, if_pos (h k c)]
      exact Nat.le_refl _
    · rw [if_neg c]; exact Nat.zero_le _
  · rw [if_neg (by rw [hj]; decide), if_pos hb]; decide
theorem cntN_all {c : Nat} : ∀ n, n ≤ cntN c n → ∀ k, k < n → c.testBit k = true
  | 0, _, k, hk => absurd hk (Nat.not_lt_zero k)
  | n + 1, h, k, hk => by
    have h1 : cntN c (n + 1) = cntN c n + (if c.testBit n = true then 1 else 0) := rfl
    have h2 := cntN_le c n
    by_cases e : c.testBit n = true
    · rw [if_pos e] at h1
      by_cases d : k = n
      · rw [d]; exact e
      · exact cntN_all n (by omega) k (by omega)
    · rw [if_neg e] at h1; omega
/-! the class's search -/
theorem fndN_ok {B : kBd} (hz : kSm B) (hq : bQ B) (hn : B.2 0 ≤ 16) {i g : Nat} (hg : g < 16) : ∀ f seen q, seen < 65536 → q < 65536 → (∀ y, (boa B (2 ^ i)).testBit y = true → seen.testBit y = true ∨ q.testBit y = true) → (∀ x y, seen.testBit x = true → (B.1 2 x).testBit y = true → seen.testBit y = true ∨ q.testBit y = true) → (∀ y, q.testBit y = true → rcp B i y) → (∀ y, q.testBit y = true → seen.testBit y = false) → seen.testBit g = false → 16 ≤ f + cntN seen 16 →
    (fndN B g f seen q = true ↔ ∃ z, (boa B (2 ^ i)).testBit z = true ∧ ∃ n, rch B n z g)
  | 0, seen, q, h1, h2, h3, h4, h5, h6, h7, h8 => by
    have := cntN_all (c := seen) 16 (by omega) g hg
    rw [h7] at this; exact Bool.noConfusion this
  | f + 1, seen, q, h1, h2, h3, h4, h5, h6, h7, h8 => by
    unfold fndN
    by_cases c0 : q = 0
    · rw [if_pos c0]
      subst c0
      constructor
      · intro z; exact Bool.noConfusion z
      · rintro ⟨z, hz1, n, hz2⟩
        have hs : seen.testBit z = true := (h3 z hz1).resolve_right (by rw [bit0]; decide)
        have := rch_closed (s := seen) (fun x y hx hy => (h4 x y hx hy).resolve_right (by rw [bit0]; decide)) hs hz2
        rw [h7] at this; exact Bool.noConfusion this
    · rw [if_neg c0]
      by_cases c1 : q.testBit g = true
      · rw [if_pos c1]
        constructor
        · intro _
          obtain ⟨n, z, hz1, hz2⟩ := h5 g c1
          refine ⟨z, (boa_bit B _ z).mpr ⟨i, ?_, Nat.testBit_two_pow_self, hz1⟩, n, hz2⟩
          have := (hq i z hz1).1; omega
        · intro _; rfl
      · rw [if_neg c1]
        have hs : seen ||| q < 65536 := or16 h1 h2
        have hb := boa_lt hz q
        refine fndN_ok hz hq hn hg f (seen ||| q) (andn (boa B q) (seen ||| q)) hs (andn_lt hb) (fun y hy => Or.inl (or_bit.mpr (h3 y hy))) (fun x y hx hy => ?_) (fun y hy => ?_) (fun y hy => ((andn_bit hb).mp hy).2) ?_ ?_
        · rcases or_bit.mp hx with e | e
          · exact Or.inl (or_bit.mpr (h4 x y e hy))
          · cases c : (seen ||| q).testBit y
            · exact Or.inr ((andn_bit hb).mpr ⟨(boa_bit B q y).mpr ⟨x, bit_lt h2 e, e, hy⟩, c⟩)
            · exact Or.inl rfl
        · obtain ⟨x, -, hx1, hx2⟩ := (boa_bit B q y).mp ((andn_bit hb).mp hy).1
          exact rcp_tr (h5 x hx1) (rcp_one hx2)
        · cases c : (seen ||| q).testBit g
          · rfl
          · rcases or_bit.mp c with e | e
            · rw [h7] at e; exact Bool.noConfusion e
            · exact absurd e c1
        · obtain ⟨j, hj⟩ := ne0_bit c0
          have := cntN_lt (a := seen) (b := seen ||| q) (j := j) (fun k hk => or_bit.mpr (Or.inl hk)) (h6 j hj) (or_bit.mpr (Or.inr hj)) (n := 16) (bit_lt h2 hj)
          omega
theorem boa_one {B : kBd} {i z : Nat} (hi : i < 16) : (boa B (2 ^ i)).testBit z = true ↔ (B.1 2 i).testBit z = true := by
  rw [boa_bit]
  constructor
  · rintro ⟨x, hx, h1, h2⟩
    rw [pow_bit] at h1
    rw [of_decide_eq_true h1]; exact h2
  · intro h
    exact ⟨i, hi, Nat.testBit_two_pow_self, h⟩
theorem fnd_ok {B : kBd} (hz : kSm B) (hq : bQ B) (hn : B.2 0 ≤ 16) {i g : Nat} (hi : i < 16) (hg : g < 16) : fnd B i g = true ↔ rcp B i g := by
  have h := fndN_ok hz hq hn (i := i) hg 16 0 (boa B (2 ^ i)) (by decide) (boa_lt hz _) (fun y hy => Or.inr hy) (fun x y hx _ => by rw [bit0] at hx; exact Bool.noConfusion hx) (fun y hy => rcp_one ((boa_one hi).mp hy)) (fun y _ => bit0 y) (bit0 g) (by omega)
  unfold fnd
  rw [h]
  constructor
  · rintro ⟨z, h1, n, h2⟩
    exact ⟨n, z, (boa_one hi).mp h1, h2⟩
  · rintro ⟨n, z, h1, h2⟩
    exact ⟨z, (boa_one hi).mpr h1, n, h2⟩
/-! the reference's set -/
theorem unI_bit {B : kBd} {z i j : Nat} : (unI B z i).testBit j = true ↔ z.testBit j = true ∨ ∃ x, x < i ∧ z.testBit x = true ∧ (B.1 2 x).testBit j = true := by
  unfold unI
  rw [or_bit, orUp_bit]
  constructor
  · rintro (h | ⟨k, hk, h⟩)
    · exact Or.inl h
    · by_cases c : z.testBit k = true
      · rw [if_pos c] at h; exact Or.inr ⟨k, hk, c, h⟩
      · rw [if_neg c, bit0] at h; exact Bool.noConfusion h
  · rintro (h | ⟨k, hk, h1, h2⟩)
    · exact Or.inl h
    · exact Or.inr ⟨k, hk, by rw [if_pos h1]; exact h2⟩
theorem unN_ok' {B : kBd} (hz : kSm B) (hq : bQ B) {i : Nat} (f z : Nat) (h1 : z < 65536) (hf : 1 ≤ f) (e : unI B z (B.2 0) = z) (h4 : ∀ y, z.testBit y = true → rcp B i y) (h5 : ∀ y, (B.1 2 i).testBit y = true → z.testBit y = true) (g : Nat) : (unN B f z z).testBit g = true ↔ rcp B i g := by
  rw [unN_e hf rfl]
  constructor
  · exact h4 g
  · rintro ⟨n, y, hy1, hy2⟩
    refine rch_closed (s := z) (fun x y hx hy => ?_) (h5 y hy1) hy2
    rw [← e]
    exact unI_bit.mpr (Or.inr ⟨x, (hq x y hy).1, hx, hy⟩)
theorem unN_ok {B : kBd} (hz : kSm B) (hq : bQ B) {i : Nat} : ∀ f z w, z < 65536 → 65537 - z ≤ f → (z = w → unI B z (B.2 0) = z) → (∀ y, z.testBit y = true → rcp B i y) → (∀ y, (B.1 2 i).testBit y = true → z.testBit y = true) →
    ∀ g, (unN B f z w).testBit g = true ↔ rcp B i g
  | 0, z, w, h1, h2, _, _, _ => by omega
  | f + 1, z, w, h1, h2, h3, h4, h5 => by
    intro g
    by_cases c : z = w
    · have hu := h3 c
      unfold unN
      rw [if_pos c]
      constructor
      · exact h4 g
      · rintro ⟨n, y, hy1, hy2⟩
        refine rch_closed (s := z) (fun x y hx hy => ?_) (h5 y hy1) hy2
        rw [← hu]
        exact unI_bit.mpr (Or.inr ⟨x, (hq x y hy).1, hx, hy⟩)
    · rw [unN_s c]
      have hle : z ≤ unI B z (B.2 0) := Nat.left_le_or
      have hlt := unI_lt hz h1 (B.2 0)
      by_cases e : unI B z (B.2 0) = z
      · rw [e]
        refine unN_ok' hz hq f z h1 ?_ e h4 h5 g
        omega
      · refine unN_ok hz hq f (unI B z (B.2 0)) z hlt (by omega) (fun y => absurd y e) (fun y hy => ?_) (fun y hy => unI_bit.mpr (Or.inl (h5 y hy))) g
        rcases unI_bit.mp hy with d | ⟨x, _, hx1, hx2⟩
        · exact h4 y d
        · exact rcp_tr (h4 x hx1) (rcp_one hx2)
theorem und_ok {B : kBd} (hz : kSm B) (hq : bQ B) (i g : Nat) : (und B i).testBit g = true ↔ rcp B i g := by
  unfold und
  refine unN_ok hz hq uF (B.1 2 i) 0 (hz.1 2 i) (by unfold uF; omega) (fun e => ?_) (fun y hy => rcp_one hy) (fun y hy => hy) g
  rw [e]
  apply Nat.eq_of_testBit_eq
  intro j
  cases c : (unI B 0 (B.2 0)).testBit j
  · exact (bit0 j).symm
  · rcases unI_bit.mp c with d | ⟨x, _, hx1, _⟩
    · rw [bit0] at d; exact Bool.noConfusion d
    · rw [bit0] at hx1; exact Bool.noConfusion hx1
/-! the closure -/
theorem wsI_m (c : Nat → Nat) (m : Nat) : ∀ j k, wsI c m j k = if k < j ∧ (c k).testBit m = true then c k ||| c m else c k := by
  have key : ∀ j, (∀ k, wsI c m j k = if k < j ∧ (c k).testBit m = true then c k ||| c m else c k) := by
    intro j
    induction j with
    | zero => intro k; rw [if_neg (fun z => Nat.not_lt_zero k z.1)]; rfl
    | succ j ih =>
      intro k
      have em : wsI c m j m = c m := by
        rw [ih m]
        split
        · exact Nat.or_self _
        · rfl
      have ej : wsI c m j j = c j := by rw [ih j, if_neg (fun z => Nat.lt_irrefl j z.1)]
      show (if (wsI c m j j).testBit m then va_up (wsI c m j) j (wsI c m j j ||| wsI c m j m) else wsI c m j) k = _
      rw [ej, em]
      by_cases cb : (c j).testBit m = true
      · rw [if_pos cb]
        show (if k = j then c j ||| c m else wsI c m j k) = _
        by_cases e : k = j
        · subst e; rw [if_pos rfl, if_pos ⟨Nat.lt_succ_self k, cb⟩]
        · rw [if_neg e, ih k]
          by_cases d : k < j ∧ (c k).testBit m = true
          · rw [if_pos d, if_pos ⟨by omega, d.2⟩]
          · rw [if_neg d, if_neg (fun z => d ⟨by omega, z.2⟩)]
      · rw [if_neg cb, ih k]
        by_cases e : k = j
        · subst e; rw [if_neg (fun z => cb z.2), if_neg (fun z => cb z.2)]
        · by_cases d : k < j ∧ (c k).testBit m = true
          · rw [if_pos d, if_pos ⟨by omega, d.2⟩]
          · rw [if_neg d, if_neg (fun z => d ⟨by omega, z.2⟩)]
  exact key
theorem wsO_s (B : kBd) (m k : Nat) : wsO B (m + 1) k = if k < 16 ∧ (wsO B m k).testBit m = true then wsO B m k ||| wsO B m m else wsO B m k := wsI_m (wsO B m) m 16 k
theorem wsO_sound {B : kBd} : ∀ m x y, (wsO B m x).testBit y = true → rcp B x y
  | 0, x, y, h => rcp_one h
  | m + 1, x, y, h => by
    rw [wsO_s] at h
    by_cases c : x < 16 ∧ (wsO B m x).testBit m = true
    · rw [if_pos c] at h
      rcases or_bit.mp h with e | e
      · exact wsO_sound m x y e
      · exact rcp_tr (wsO_sound m x m c.2) (wsO_sound m m y e)
    · rw [if_neg c] at h; exact wsO_sound m x y h
theorem wsO_up {B : kBd} {m x y : Nat} (h : (wsO B m x).testBit y = true) : (wsO B (m + 1) x).testBit y = true := by
  rw [wsO_s]
  split
  · exact or_bit.mpr (Or.inl h)
  · exact h
theorem wsO_base {B : kBd} {x y : Nat} (h : (B.1 2 x).testBit y = true) : ∀ m, (wsO B m x).testBit y = true
  | 0 => h
  | m + 1 => wsO_up (wsO_base h m)
theorem wsO_thru {B : kBd} {m x y : Nat} (hx : x < 16) (h1 : (wsO B m x).testBit m = true) (h2 : (wsO B m m).testBit y = true) : (wsO B (m + 1) x).testBit y = true := by
  rw [wsO_s, if_pos ⟨hx, h1⟩]
  exact or_bit.mpr (Or.inr h2)
theorem wsO_inv {B : kBd} {m x y : Nat} (h : (wsO B (m + 1) x).testBit y = true) : (wsO B m x).testBit y = true ∨ ((wsO B m x).testBit m = true ∧ (wsO B m m).testBit y = true) := by
  rw [wsO_s] at h
  by_cases c : x < 16 ∧ (wsO B m x).testBit m = true
  · rw [if_pos c] at h
    rcases or_bit.mp h with e | e
    · exact Or.inl e
    · exact Or.inr ⟨c.2, e⟩
  · rw [if_neg c] at h; exact Or.inl h
theorem wsO_tr {B : kBd} : ∀ m, m ≤ 16 → ∀ x y z, x < 16 → z < m → (wsO B m x).testBit z = true → (wsO B m z).testBit y = true → (wsO B m x).testBit y = true
  | 0, _, x, y, z, hx, hz, _, _ => absurd hz (Nat.not_lt_zero z)
  | m + 1, hm, x, y, z, hx, hz, h1, h2 => by
    have T := wsO_tr (B := B) m (by omega)
    by_cases e : z = m
    · rw [e] at h1 h2
      have a : (wsO B m x).testBit m = true := by
        rcases wsO_inv h1 with c | c
        · exact c
        · exact c.1
      have b : (wsO B m m).testBit y = true := by
        rcases wsO_inv h2 with c | c
        · exact c
        · exact c.2
      exact wsO_thru hx a b
    · have hz2 : z < m := by omega
      rcases wsO_inv h1 with a | ⟨a, a2⟩
      · rcases wsO_inv h2 with b | ⟨b, b2⟩
        · exact wsO_up (T x y z hx hz2 a b)
        · exact wsO_thru hx (T x m z hx hz2 a b) b2
      · rcases wsO_inv h2 with b | ⟨b, b2⟩
        · exact wsO_thru hx a (T m y z (by omega) hz2 a2 b)
        · exact wsO_thru hx a b2
theorem wsO_ok {B : kBd} (hq : bQ B) (hn : B.2 0 ≤ 16) (x y : Nat) : (wsO B 16 x).testBit y = true ↔ rcp B x y := by
  constructor
  · exact wsO_sound 16 x y
  · rintro ⟨n, h⟩
    induction n generalizing x with
    | zero =>
      obtain ⟨z, h1, h2⟩ := h
      have e : z = y := h2
      rw [← e]; exact wsO_base h1 16
    | succ n ih =>
      obtain ⟨z, h1, h2⟩ := h
      have hb := hq x z h1
      exact wsO_tr 16 (Nat.le_refl _) x y z (by omega) (by omega) (wsO_base h1 16) (ih z h2)
/-! no cycles -/
theorem rch_rk {B : kBd} {rk : Nat → Nat} (hc : ∀ k j, (B.1 2 k).testBit j = true → rk j < rk k) : ∀ {n x y : Nat}, rch B n x y → n + rk y ≤ rk x
  | 0, x, y, h => by
    have e : x = y := h
    rw [e, Nat.zero_add]; exact Nat.le_refl _
  | n + 1, x, y, ⟨z, h1, h2⟩ => by
    have := hc x z h1
    have := rch_rk hc h2
    omega
theorem rcp_irr {B : kBd} (hc : bC B) (x : Nat) : ¬ rcp B x x := by
  obtain ⟨rk, hc⟩ := hc
  rintro ⟨n, h⟩
  have := rch_rk hc h
  omega
/-- a height below the number of stories: how many are below -/
def rk0 (B : kBd) (x : Nat) : Nat := cntN (wsO B 16 x) (B.2 0)
theorem rk0_lt {B : kBd} (hq : bQ B) (hn : B.2 0 ≤ 16) (hc : bC B) {x y : Nat} (h : (B.1 2 x).testBit y = true) : rk0 B y < rk0 B x := by
  refine cntN_lt (j := y) (fun k hk => ?_) ?_ ?_ (hq x y h).2
  · exact (wsO_ok hq hn x k).mpr (rcp_tr (rcp_one h) ((wsO_ok hq hn y k).mp hk))
  · cases c : (wsO B 16 y).testBit y
    · rfl
    · exact absurd ((wsO_ok hq hn y y).mp c) (rcp_irr hc y)
  · exact wsO_base h 16
theorem rk0_b {B : kBd} (hq : bQ B) (hn : B.2 0 ≤ 16) (hc : bC B) {x : Nat} (hx : x < B.2 0) : rk0 B x < B.2 0 := by
  have h1 := cntN_le (wsO B 16 x) (B.2 0)
  rcases Nat.lt_or_ge (rk0 B x) (B.2 0) with z | z
  · exact z
  · have := cntN_all (B.2 0) z x hx
    exact absurd ((wsO_ok hq hn x x).mp this) (rcp_irr hc x)
theorem bC_blk {B : kBd} (hz : kSm B) (hq : bQ B) (hn : B.2 0 ≤ 16) (hc : bC B) {j k : Nat} (hne : j ≠ k) (hu : ¬ rcp B k j) : bC (blkB B j k) := by
  have hok := wsO_ok hq hn
  obtain ⟨rk, hc⟩ := hc
  refine ⟨fun x => if x = j ∨ (wsO B 16 x).testBit j = true then rk x + rk k + 1 else rk x, fun x y hb => ?_⟩
  have e2 : (blkB B j k).1 2 x = if x = j then B.1 2 j ||| 2 ^ k else B.1 2 x := rfl
  rw [e2] at hb
  have old : (B.1 2 x).testBit y = true → (if y = j ∨ (wsO B 16 y).testBit j = true then rk y + rk k + 1 else rk y) < (if x = j ∨ (wsO B 16 x).testBit j = true then rk x + rk k + 1 else rk x) := by
    intro h
    have hr := hc x y h
    by_cases cy : y = j ∨ (wsO B 16 y).testBit j = true
    · have cx : x = j ∨ (wsO B 16 x).testBit j = true := by
        refine Or.inr ((hok x j).mpr ?_)
        rcases cy with e | e
        · rw [← e]; exact rcp_one h
        · exact rcp_tr (rcp_one h) ((hok y j).mp e)
      rw [if_pos cy, if_pos cx]; omega
    · rw [if_neg cy]
      split
      · omega
      · exact hr
  by_cases e : x = j
  · rw [if_pos e] at hb
    rcases or2 hb with d | d
    · exact old (by rw [e]; exact d)
    · rw [d]
      show (if k = j ∨ (wsO B 16 k).testBit j = true then rk k + rk k + 1 else rk k) < (if x = j ∨ (wsO B 16 x).testBit j = true then rk x + rk k + 1 else rk x)
      rw [if_neg, if_pos (Or.inl e)]
      · omega
      · rintro (z | z)
        · exact hne z.symm
        · exact hu ((hok k j).mp z)
  · rw [if_neg e] at hb; exact old hb
theorem bA_blk {B : kBd} (h : bA B) {j k : Nat} (hj : j < B.2 0) (hk : k < B.2 0) (hne : j ≠ k) (hu : ¬ rcp B k j) : bA (blkB B j k) := by
  obtain ⟨hI, hu', hv, hw, hq, hp9, hy, hz, hc⟩ := h
  have hn := hI.2.2.1
  refine ⟨bI_row hI (Or.inl rfl) (show j < kLen 2 from (by show j < 16; omega)) (or16 (hI.1.1 2 j) (p16 (by omega))), hu', hv, hw, fun x y hb => ?_, hp9, hy, hz, bC_blk hI.1 hq hn hc hne hu⟩
  have e2 : (blkB B j k).1 2 x = if x = j then B.1 2 j ||| 2 ^ k else B.1 2 x := rfl
  rw [e2] at hb
  by_cases e : x = j
  · rw [if_pos e] at hb
    rcases or2 hb with d | d
    · rw [e]; exact hq j y d
    · rw [e, d]; exact ⟨hj, hk⟩
  · rw [if_neg e] at hb; exact hq x y hb
/-! stories in order -/
theorem frdN_0 (B : kBd) (q : Nat) : ∀ f k, frdN B q f k = 0 → ∀ i, k ≤ i → i < k + f → i < B.2 0 → ¬ (q.testBit i = false ∧ andn (B.1 2 i) q = 0)
  | 0, k, _, i, h1, h2, _ => by omega
  | f + 1, k, h, i, h1, h2, h3 => by
    unfold frdN at h
    rw [if_pos (by omega)] at h
    by_cases c : q.testBit k = false ∧ andn (B.1 2 k) q = 0
    · rw [if_pos c] at h; exact absurd h (Nat.succ_ne_zero k)
    · rw [if_neg c] at h
      by_cases e : i = k
      · rw [e]; exact c
      · exact frdN_0 B q f (k + 1) h i (by omega) (by omega) h3
theorem frd_ex {B : kBd} (hz : kSm B) (hq : bQ B) (hn : B.2 0 ≤ 16) (hc : bC B) {c : Nat} (h : ∃ k, k < B.2 0 ∧ c.testBit k = false) : frd B c ≠ 0 := by
  obtain ⟨rk, hc⟩ := hc
  intro h0
  have hno := fun i (hi : i < B.2 0) => frdN_0 B c 17 0 h0 i (Nat.zero_le _) (by omega) hi
  have key : ∀ n k, rk k ≤ n → k < B.2 0 → c.testBit k = false → False := by
    intro n
    induction n with
    | zero =>
      intro k hk hk2 hk3
      refine hno k hk2 ⟨hk3, ?_⟩
      apply Nat.eq_of_testBit_eq
      intro j
      rw [bit0]
      cases d : (andn (B.1 2 k) c).testBit j
      · rfl
      · have := hc k j ((andn_bit (hz.1 2 k)).mp d).1
        omega
    | succ n ih =>
      intro k hk hk2 hk3
      refine hno k hk2 ⟨hk3, ?_⟩
      apply Nat.eq_of_testBit_eq
      intro j
      rw [bit0]
      cases d : (andn (B.1 2 k) c).testBit j
      · rfl
      · have hd := (andn_bit (hz.1 2 k)).mp d
        have h1 := hc k j hd.1
        exact (ih j (by omega) (hq k j hd.1).2 hd.2).elim
  obtain ⟨k, hk, hk2⟩ := h
  exact key (rk k) k (Nat.le_refl _) hk hk2
theorem cnt_pow {c s n : Nat} : cntN (c ||| 2 ^ s) n ≤ cntN c n + 1 := by
  induction n with
  | zero => exact Nat.zero_le _
  | succ n ih =>
    have h1 : cntN (c ||| 2 ^ s) (n + 1) = cntN (c ||| 2 ^ s) n + (if (c ||| 2 ^ s).testBit n = true then 1 else 0) := rfl
    have h2 : cntN c (n + 1) = cntN c n + (if c.testBit n = true then 1 else 0) := rfl
    by_cases e : n = s
    · have : cntN (c ||| 2 ^ s) n = cntN c n := by
        refine sumUp_cong (fun k hk => ?_)
        have hb : (c ||| 2 ^ s).testBit k = c.testBit k := by rw [Nat.testBit_or, pow_bit, decide_eq_false (by omega), Bool.or_false]
        rw [hb]
      rw [h1, h2, this]
      split <;> split <;> omega
    · have hb : (c ||| 2 ^ s).testBit n = c.testBit n := by rw [Nat.testBit_or, pow_bit, decide_eq_false (fun z => e z.symm), Bool.or_false]
      rw [h1, h2, hb]
      omega
theorem cm_cnt (B : kBd) : ∀ n, cntN (cmN B n) (B.2 0) ≤ n
  | 0 => by
    have : cntN (cmN B 0) (B.2 0) ≤ 0 * B.2 0 + 0 := by
      show sumUp (fun k => if (0 : Nat).testBit k = true then 1 else 0) (B.2 0) ≤ _
      have := sumUp_le (f := fun k => if (0 : Nat).testBit k = true then 1 else 0) (c := 0) (fun k => by rw [bit0]; decide) (B.2 0)
      omega
    omega
  | n + 1 => Nat.le_trans cnt_pow (Nat.succ_le_succ (cm_cnt B n))
theorem bA_R {B : kBd} (h : bA B) : bR B := by
  intro n hn
  obtain ⟨hI, -, -, -, hq, -, -, -, hc⟩ := h
  refine frd_ex hI.1 hq hI.2.2.1 hc (Classical.byContradiction (fun z => ?_))
  have h1 := cm_cnt B n
  have h2 : B.2 0 ≤ cntN (cmN B n) (B.2 0) := by
    have : ∀ m, m ≤ B.2 0 → m ≤ cntN (cmN B n) m := by
      intro m
      induction m with
      | zero => intro _; exact Nat.zero_le _
      | succ m ih =>
        intro hm
        have h3 : cntN (cmN B n) (m + 1) = cntN (cmN B n) m + (if (cmN B n).testBit m = true then 1 else 0) := rfl
        have h4 : (cmN B n).testBit m = true := by
          cases c : (cmN B n).testBit m
          · exact absurd ⟨m, by omega, c⟩ z
          · rfl
        rw [if_pos h4] at h3
        have := ih (by omega)
        omega
    exact this _ (Nat.le_refl _)
  omega
theorem satN_ok {B : kBd} (hR : bR B) (hn : B.2 0 ≤ 16) (z : Int) : ∀ f i, i ≤ B.2 0 → B.2 0 - i < f → ¬ (0 ≤ z ∧ z < (i : Nat)) → satN B z f i (cmN B i) = if 0 ≤ z ∧ z < (B.2 0 : Nat) then frd B (cmN B z.toNat) else 0
  | 0, i, _, h2, _ => by omega
  | f + 1, i, h1, h2, h3 => by
    unfold satN
    by_cases c : i < B.2 0
    · rw [if_pos c]
      have hr := hR i c
      by_cases e : (i : Int) = z
      · rw [if_pos (Or.inr e), if_pos (by omega)]
        rw [← e]; rfl
      · rw [if_neg (by rintro (d | d); exact hr d; exact e d)]
        exact satN_ok hR hn z f (i + 1) c (by omega) (by omega)
    · rw [if_neg c, if_neg (by omega)]
theorem sat_ok {B : kBd} (hR : bR B) (hn : B.2 0 ≤ 16) (z : Int) : sat B z = if 0 ≤ z ∧ z < (B.2 0 : Nat) then frd B (cmN B z.toNat) else 0 := by
  have h := satN_ok hR hn z 17 0 (Nat.zero_le _) (by omega) (by omega)
  exact h
/-! the longest chain -/
def boaN (B : kBd) : Nat → Nat → Nat
  | 0, q => q
  | n + 1, q => boaN B n (boa B q)
theorem boaN_bit {B : kBd} (hz : kSm B) : ∀ n q y, q < 65536 → ((boaN B n q).testBit y = true ↔ ∃ x, q.testBit x = true ∧ rch B n x y)
  | 0, q, y, hq => by
    constructor
    · intro h; exact ⟨y, h, rfl⟩
    · rintro ⟨x, h1, h2⟩
      have e : x = y := h2
      rw [← e]; exact h1
  | n + 1, q, y, hq => by
    show (boaN B n (boa B q)).testBit y = true ↔ _
    rw [boaN_bit hz n (boa B q) y (boa_lt hz q)]
    constructor
    · rintro ⟨x, h1, h2⟩
      obtain ⟨w, _, h3, h4⟩ := (boa_bit B q x).mp h1
      exact ⟨w, h3, x, h4, h2⟩
    · rintro ⟨w, h3, x, h4, h2⟩
      exact ⟨x, (boa_bit B q x).mpr ⟨w, bit_lt hq h3, h3, h4⟩, h2⟩
theorem chlN_ge (B : kBd) : ∀ f n q, n + 1 ≤ chlN B f q ↔ n < f ∧ ∀ m, m ≤ n → boaN B m q ≠ 0
  | 0, n, q => by
    constructor
    · intro h; exact absurd h (Nat.not_succ_le_zero n)
    · rintro ⟨h, _⟩; exact absurd h (Nat.not_lt_zero n)
  | f + 1, n, q => by
    unfold chlN
    by_cases c : q = 0
    · rw [if_pos c]
      constructor
      · intro h; exact absurd h (Nat.not_succ_le_zero n)
      · rintro ⟨_, h⟩; exact absurd c (h 0 (Nat.zero_le _))
    · rw [if_neg c]
      match n with
      | 0 =>
        constructor
        · intro _
          refine ⟨Nat.zero_lt_succ f, fun m hm => ?_⟩
          rw [show m = 0 by omega]; exact c
        · intro _; exact Nat.le_add_left 1 _
      | n + 1 =>
        have ih := chlN_ge B f n (boa B q)
        constructor
        · intro h
          obtain ⟨h1, h2⟩ := ih.mp (by omega)
          refine ⟨by omega, fun m hm => ?_⟩
          match m with
          | 0 => exact c
          | m + 1 => exact h2 m (by omega)
        · rintro ⟨h1, h2⟩
          have := ih.mpr ⟨by omega, fun m hm => h2 (m + 1) (by omega)⟩
          omega
theorem rch_short {B : kBd} : ∀ {n m x y : Nat}, rch B n x y → m ≤ n → ∃ w, rch B m x w
  | n, 0, x, y, _, _ => ⟨x, rfl⟩
  | 0, m + 1, x, y, _, hm => absurd hm (Nat.not_succ_le_zero m)
  | n + 1, m + 1, x, y, ⟨z, h1, h2⟩, hm => by
    obtain ⟨w, hw⟩ := rch_short h2 (Nat.le_of_succ_le_succ hm)
    exact ⟨w, z, h1, hw⟩
theorem chl_ge {B : kBd} (h : bA B) {k : Nat} (hk : k < B.2 0) (n : Nat) : n + 1 ≤ chl B k ↔ ∃ y, rch B n k y := by
  obtain ⟨hI, -, -, -, hq, -, -, -, hc⟩ := h
  have hn := hI.2.2.1
  have hp : (2 : Nat) ^ k < 65536 := p16 (by omega)
  unfold chl
  rw [chlN_ge]
  constructor
  · rintro ⟨_, h2⟩
    obtain ⟨y, hy⟩ := ne0_bit (h2 n (Nat.le_refl _))
    obtain ⟨x, hx1, hx2⟩ := (boaN_bit hI.1 n (2 ^ k) y hp).mp hy
    rw [pow_bit] at hx1
    rw [of_decide_eq_true hx1]
    exact ⟨y, hx2⟩
  · rintro ⟨y, hy⟩
    have h1 := rch_rk (rk := rk0 B) (fun a b hb => rk0_lt hq hn hc hb) hy
    have h2 := rk0_b hq hn hc hk
    refine ⟨by omega, fun m hm hz => ?_⟩
    obtain ⟨w, hw⟩ := rch_short hy hm
    have := (boaN_bit hI.1 m (2 ^ k) w hp).mpr ⟨k, Nat.testBit_two_pow_self, hw⟩
    rw [hz, bit0] at this; exact Bool.noConfusion this
theorem chI_s (B : kBd) (f : Nat → Nat) (k o : Nat) : chI B f k (o + 1) = if (B.1 2 k).testBit o = true then va_up (chI B f k o) k (max (chI B f k o k) (chI B f k o o + 1)) else chI B f k o := rfl
theorem chI_in {B : kBd} {n : Nat} {f : Nat → Nat} {k : Nat} (hf : ∀ x, x < n → 1 ≤ f x ∧ ∃ y, rch B (f x - 1) x y) (hk : k < n) : ∀ o, o ≤ n → ∀ x, x < n → 1 ≤ chI B f k o x ∧ ∃ y, rch B (chI B f k o x - 1) x y
  | 0, _, x, hx => hf x hx
  | o + 1, ho, x, hx => by
    have ih := chI_in hf hk o (by omega)
    rw [chI_s]
    by_cases c : (B.1 2 k).testBit o = true
    · rw [if_pos c]
      show 1 ≤ (if x = k then max (chI B f k o k) (chI B f k o o + 1) else chI B f k o x) ∧ ∃ y, rch B ((if x = k then max (chI B f k o k) (chI B f k o o + 1) else chI B f k o x) - 1) x y
      by_cases e : x = k
      · rw [if_pos e]
        refine ⟨by omega, ?_⟩
        rcases Nat.le_total (chI B f k o k) (chI B f k o o + 1) with d | d
        · rw [Nat.max_eq_right d, Nat.add_sub_cancel]
          obtain ⟨h1, y, h2⟩ := ih o (by omega)
          refine ⟨y, ?_⟩
          rw [show chI B f k o o = (chI B f k o o - 1) + 1 by omega, e]
          exact ⟨o, c, h2⟩
        · rw [Nat.max_eq_left d, e]
          exact (ih k hk).2
      · rw [if_neg e]; exact ih x hx
    · rw [if_neg c]; exact ih x hx
theorem chI_up {B : kBd} {f : Nat → Nat} {k : Nat} : ∀ o x, f x ≤ chI B f k o x
  | 0, x => Nat.le_refl _
  | o + 1, x => by
    refine Nat.le_trans (chI_up (B := B) (k := k) o x) ?_
    rw [chI_s]
    by_cases c : (B.1 2 k).testBit o = true
    · rw [if_pos c]
      show _ ≤ (if x = k then max (chI B f k o k) (chI B f k o o + 1) else chI B f k o x)
      by_cases e : x = k
      · rw [if_pos e, e]; exact Nat.le_max_left _ _
      · rw [if_neg e]; exact Nat.le_refl _
    · rw [if_neg c]; exact Nat.le_refl _
theorem chI_mon {B : kBd} {f : Nat → Nat} {k o x : Nat} : chI B f k o x ≤ chI B f k (o + 1) x := by
  rw [chI_s]
  by_cases c : (B.1 2 k).testBit o = true
  · rw [if_pos c]
    show _ ≤ (if x = k then max (chI B f k o k) (chI B f k o o + 1) else chI B f k o x)
    by_cases e : x = k
    · rw [if_pos e, e]; exact Nat.le_max_left _ _
    · rw [if_neg e]; exact Nat.le_refl _
  · rw [if_neg c]; exact Nat.le_refl _
theorem chI_hit {B : kBd} {f : Nat → Nat} {k o : Nat} (hb : (B.1 2 k).testBit o = true) : ∀ m, o < m → f o + 1 ≤ chI B f k m k
  | 0, h => absurd h (Nat.not_lt_zero o)
  | m + 1, h => by
    by_cases e : o = m
    · have h1 : chI B f k (m + 1) k = max (chI B f k m k) (chI B f k m m + 1) := by
        rw [chI_s, if_pos (by rw [← e]; exact hb)]
        show (if k = k then _ else _) = _
        rw [if_pos rfl]
      have h2 := chI_up (B := B) (f := f) (k := k) m m
      rw [h1, e]
      omega
    · exact Nat.le_trans (chI_hit hb m (by omega)) chI_mon
theorem chJ_in {B : kBd} {f : Nat → Nat} (hf : ∀ x, x < B.2 0 → 1 ≤ f x ∧ ∃ y, rch B (f x - 1) x y) : ∀ k, k ≤ B.2 0 → ∀ x, x < B.2 0 → 1 ≤ chJ B f k x ∧ ∃ y, rch B (chJ B f k x - 1) x y
  | 0, _ => hf
  | k + 1, hk => chI_in (chJ_in hf k (by omega)) hk (B.2 0) (Nat.le_refl _)
theorem chJ_up {B : kBd} {f : Nat → Nat} : ∀ k x, f x ≤ chJ B f k x
  | 0, x => Nat.le_refl _
  | k + 1, x => Nat.le_trans (chJ_up k x) (chI_up (B.2 0) x)
theorem chJ_hit {B : kBd} {f : Nat → Nat} {k o : Nat} (hb : (B.1 2 k).testBit o = true) (ho : o < B.2 0) : ∀ m, k < m → f o + 1 ≤ chJ B f m k
  | 0, h => absurd h (Nat.not_lt_zero k)
  | m + 1, h => by
    by_cases e : k = m
    · rw [e]
      have h1 := chI_hit (B := B) (f := chJ B f m) (k := m) (o := o) (by rw [← e]; exact hb) (B.2 0) ho
      have h2 := chJ_up (B := B) (f := f) m o
      exact Nat.le_trans (Nat.succ_le_succ h2) h1
    · exact Nat.le_trans (chJ_hit hb ho m (by omega)) (chI_up (B.2 0) k)
theorem chK_in {B : kBd} {f : Nat → Nat} (hf : ∀ x, x < B.2 0 → 1 ≤ f x ∧ ∃ y, rch B (f x - 1) x y) : ∀ r x, x < B.2 0 → 1 ≤ chK B f r x ∧ ∃ y, rch B (chK B f r x - 1) x y
  | 0 => hf
  | r + 1 => chJ_in (chK_in hf r) (B.2 0) (Nat.le_refl _)
theorem chK_ge {B : kBd} (hq : bQ B) {f : Nat → Nat} (hf : ∀ x, x < B.2 0 → 1 ≤ f x) : ∀ r n k y, n ≤ r → k < B.2 0 → rch B n k y → n + 1 ≤ chK B f r k
  | 0, n, k, y, hn, hk, _ => by
    rw [show n = 0 by omega]; exact hf k hk
  | r + 1, 0, k, y, hn, hk, _ => by
    have h1 := chK_ge hq hf r 0 k k (Nat.zero_le _) hk rfl
    exact Nat.le_trans h1 (chJ_up (B.2 0) k)
  | r + 1, n + 1, k, y, hn, hk, ⟨z, h1, h2⟩ => by
    have hz := (hq k z h1).2
    have h3 := chK_ge hq hf r n z y (by omega) hz h2
    have h4 := chJ_hit (B := B) (f := chK B f r) h1 hz (B.2 0) hk
    exact Nat.le_trans (Nat.succ_le_succ h3) h4
theorem chF_chl {B : kBd} (h : bA B) (f0 : Nat → Nat) {k : Nat} (hk : k < B.2 0) : chF B f0 k = chl B k := by
  obtain ⟨hI, -, -, -, hq, -, -, -, hc⟩ := id h
  have hn := hI.2.2.1
  have hf : ∀ x, x < B.2 0 → 1 ≤ ch1 f0 (B.2 0) x ∧ ∃ y, rch B (ch1 f0 (B.2 0) x - 1) x y := by
    intro x hx
    rw [ch1_b f0 (B.2 0) x hx]
    exact ⟨Nat.le_refl _, x, rfl⟩
  obtain ⟨h1, h2⟩ := chK_in hf (B.2 0) k hk
  have hge := chl_ge h hk
  have a : chF B f0 k ≤ chl B k := by
    have := (hge (chF B f0 k - 1)).mpr h2
    have h1' : 1 ≤ chF B f0 k := h1
    omega
  have b : chl B k ≤ chF B f0 k := by
    by_cases c : chl B k = 0
    · omega
    · obtain ⟨y, hy⟩ := (hge (chl B k - 1)).mp (by omega)
      have h3 := rch_rk (rk := rk0 B) (fun a b hb => rk0_lt hq hn hc hb) hy
      have h4 := rk0_b hq hn hc hk
      have := chK_ge hq (fun x hx => (hf x hx).1) (B.2 0) (chl B k - 1) k y (by omega) hk hy
      have h5 : chl B k - 1 + 1 ≤ chF B f0 k := this
      omega
  omega
