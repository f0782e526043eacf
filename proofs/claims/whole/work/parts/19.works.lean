/-! ===== works by their clauses: word (0 glad, 1 sour, 2 round), number, signs ===== -/
abbrev Wk : Type := List (Nat × Nat × List Nat)
/-- a sign as the model writes it: 0 not, 1 and, 2 or, 10 and more a test -/
def tk2 (t : Nat) : Int32 := if t = 0 then -nI 33 else if t = 1 then -nI 38 else if t = 2 then -nI 124 else nI (t - 10)
/-- a sign is well made -/
def tkok (t : Nat) : Bool := decide (t < 3) || (decide (10 ≤ t) && decide (t < 6010) && decide ((t - 10) / 100 % 10 ≤ 2))
/-- how deep the pile is behind the signs -/
def shp : List Nat → Nat → Option Nat
  | [], n => some n
  | t :: r, n => if t = 0 then (if 1 ≤ n then shp r n else none) else if t = 1 ∨ t = 2 then (if 2 ≤ n then shp r (n - 1) else none) else shp r (n + 1)
def wkok (c : Nat × Nat × List Nat) : Prop := c.1 < 2 → c.2.2.all tkok = true ∧ shp c.2.2 0 = some 1 ∧ c.2.2.length ≤ 100 ∧ (c.2.2.filter (fun t => decide (10 ≤ t))).length ≤ 25
def wkd (w : Wk) (c : Nat) : Nat × Nat × List Nat := w.getD c (0, 0, [])
/-- the works number f lies in the model's rows -/
def mWk (w : Wk) (f : Nat) (I : Nat → Nat → Int32) : Prop := f < 6 ∧ I 115 f = nI w.length ∧ w.length ≤ 10 ∧ ∀ c, c < w.length → (wkd w c).1 ≤ 2 ∧ (wkd w c).2.1 ≤ 99 ∧ I 116 (10 * f + c) = nI (wkd w c).1 ∧ I 117 (10 * f + c) = nI (wkd w c).2.1 ∧
  ((wkd w c).1 < 2 → wkok (wkd w c) ∧ ∃ b, I 118 (10 * f + c) = nI b ∧ I 119 (10 * f + c) = nI (b + (wkd w c).2.2.length) ∧ b + (wkd w c).2.2.length ≤ 600 ∧ ∀ j, j < (wkd w c).2.2.length → I 120 (b + j) = tk2 ((wkd w c).2.2.getD j 0))
/-- the works that holds -/
def mH (w : Wk) (I : Nat → Nat → Int32) : Prop := (I 100 9 = -nI 1 ∧ w = []) ∨ ∃ f, I 100 9 = nI f ∧ mWk w f I
def rdN (w : Wk) : Nat → Nat
  | 0 => 0
  | c + 1 => if (wkd w c).1 = 2 then (wkd w c).2.1 else rdN w c
def rdS (w : Wk) : Nat := rdN w w.length
theorem mH_len {w : Wk} {I : Nat → Nat → Int32} (h : mH w I) : w.length ≤ 10 := by
  rcases h with ⟨-, rfl⟩ | ⟨f, -, -, -, h, -⟩
  · exact Nat.zero_le _
  · exact h
theorem rdN_le {w : Wk} {I : Nat → Nat → Int32} (h : mH w I) : ∀ c, c ≤ w.length → rdN w c ≤ 99
  | 0, _ => Nat.zero_le _
  | c + 1, hc => by
    unfold rdN
    split
    · rcases h with ⟨-, rfl⟩ | ⟨f, -, -, -, -, h⟩
      · cases hc
      · exact (h c (by omega)).2.1
    · exact rdN_le h c (by omega)
/-- the begin of the works that holds -/
def mB (w : Wk) (b : Nat) (I : Nat → Nat → Int32) : Prop := b + w.length ≤ 60 ∧ ∀ c, c < w.length → (wkd w c).1 ≤ 2 ∧ (wkd w c).2.1 ≤ 99 ∧ I 116 (b + c) = nI (wkd w c).1 ∧ I 117 (b + c) = nI (wkd w c).2.1 ∧
  ((wkd w c).1 < 2 → wkok (wkd w c) ∧ ∃ d, I 118 (b + c) = nI d ∧ I 119 (b + c) = nI (d + (wkd w c).2.2.length) ∧ d + (wkd w c).2.2.length ≤ 600 ∧ ∀ j, j < (wkd w c).2.2.length → I 120 (d + j) = tk2 ((wkd w c).2.2.getD j 0))
def mHB (w : Wk) (b : Nat) (I : Nat → Nat → Int32) : Prop := (I 100 9 = -nI 1 ∧ w = [] ∧ b = 0) ∨ ∃ f, I 100 9 = nI f ∧ mWk w f I ∧ b = 10 * f
theorem mH_B {w : Wk} {I : Nat → Nat → Int32} (h : mH w I) : ∃ b, mHB w b I := by
  rcases h with ⟨h1, h2⟩ | ⟨f, h1, h2⟩
  · exact ⟨0, Or.inl ⟨h1, h2, rfl⟩⟩
  · exact ⟨_, Or.inr ⟨f, h1, h2, rfl⟩⟩
theorem mHB_B {w : Wk} {b : Nat} {I : Nat → Nat → Int32} (h : mHB w b I) : mB w b I := by
  rcases h with ⟨-, rfl, rfl⟩ | ⟨f, -, ⟨h1, -, h3, h4⟩, rfl⟩
  · exact ⟨by decide, fun c hc => by cases hc⟩
  · exact ⟨by omega, h4⟩
theorem mHB_H {w : Wk} {b : Nat} {I : Nat → Nat → Int32} (h : mHB w b I) : mH w I := by
  rcases h with ⟨h1, h2, -⟩ | ⟨f, h1, h2, -⟩
  · exact Or.inl ⟨h1, h2⟩
  · exact Or.inr ⟨f, h1, h2⟩
/-- the works' rows are untouched -/
theorem mHB_eq {w : Wk} {b : Nat} {I I' : Nat → Nat → Int32} (h : mHB w b I) (h0 : I' 100 9 = I 100 9) (h1 : I' 115 = I 115) (h2 : I' 116 = I 116) (h3 : I' 117 = I 117) (h4 : I' 118 = I 118) (h5 : I' 119 = I 119) (h6 : I' 120 = I 120) : mHB w b I' := by
  rcases h with ⟨g1, g2, g3⟩ | ⟨f, g1, g2, g3⟩
  · exact Or.inl ⟨by rw [h0]; exact g1, g2, g3⟩
  · refine Or.inr ⟨f, by rw [h0]; exact g1, ?_, g3⟩
    unfold mWk
    rw [h1, h2, h3, h4, h5, h6]
    exact g2
