/-! ===== the gate by numbers: how many workers, kinds, v's, cards, holes, rows, at home (bits), day ===== -/
abbrev Gv : Type := Nat × (Nat → Nat) × (Nat → Nat) × (Nat → Nat) × (Nat → Nat) × (Nat → Nat) × Int32 × Nat
abbrev gn (g : Gv) : Nat := g.1
abbrev gk (g : Gv) : Nat → Nat := g.2.1
abbrev gv (g : Gv) : Nat → Nat := g.2.2.1
abbrev gc (g : Gv) : Nat → Nat := g.2.2.2.1
abbrev gh (g : Gv) : Nat → Nat := g.2.2.2.2.1
abbrev gr (g : Gv) : Nat → Nat := g.2.2.2.2.2.1
abbrev ga (g : Gv) : Int32 := g.2.2.2.2.2.2.1
abbrev gd (g : Gv) : Nat := g.2.2.2.2.2.2.2
def gwf (g : Gv) : Prop := gn g ≤ 6 ∧ (∀ p, p < gn g → gk g p ≤ 6 ∧ gv g p ≤ 9 ∧ gc g p < gn g ∧ gh g p < 1024 ∧ (∀ j, j < 4 → gr g (4 * p + j) ≤ 9)) ∧ (∀ p q, p < gn g → q < gn g → gc g p = gc g q → p = q)
def upN (f : Nat → Nat) (k v : Nat) : Nat → Nat := fun j => if j = k then v else f j
def lfL (h : Nat) : Nat → Nat → Nat
  | 0, _ => 0
  | m + 1, k => if h.testBit k = true then lfL h m (k + 1) else 2 ^ k
/-- the least free slot, as a bit -/
def lf (h : Nat) : Nat := lfL h 10 0
/-- what a worker of a kind, with v, punches on a day on a card with such holes; rs: its row's slot -/
def pn (k v d s rs : Nat) : Nat := if k = 1 then (if d % 3 = 0 then 0 else 2 ^ (d % 10)) else if k = 2 then 2 ^ ((v + d) % 10) else if k = 3 then lf s else if k = 4 then (if d % 3 = 0 then 0 else 2 ^ (d % 10) ||| 2 ^ ((d + 1) % 10)) else if k = 5 then 2 ^ (if s.testBit ((v + d) % 10) = true then ((v + d) % 10 + 5) % 10 else (v + d) % 10) else if k = 6 then lf s ||| 2 ^ rs else 2 ^ (d % 10)
def atB (x : Int32) (p : Nat) : Bool := decide (x >>> (nI p &&& 31) &&& nI 1 = nI 1)
/-- the holes when the first p workers have punched -/
def hoS (g : Gv) : Nat → Nat → Nat
  | 0 => gh g
  | p + 1 => if atB (ga g) p = true then hoS g p else upN (hoS g p) (gc g p) (hoS g p (gc g p) ||| pn (gk g p) (gv g p) (gd g) (hoS g p (gc g p)) (gr g (4 * p + gd g % 4)))
def rotC (n : Nat) (c : Nat → Nat) : Nat → Nat := fun p => if p < n then c ((p + 1) % n) else c p
/-- a day, by the round -/
def dayS (r : Nat) (g : Gv) : Gv := (gn g, gk g, gv g, (if r = 0 ∨ (gd g + 1) % r ≠ 0 then gc g else rotC (gn g) (gc g)), hoS g (gn g), gr g, ga g, gd g + 1)
def daysS (r : Nat) : Nat → Gv → Gv
  | 0, g => g
  | k + 1, g => dayS r (daysS r k g)
theorem lfL_lt (h : Nat) : ∀ m k, k + m = 10 → lfL h m k < 1024
  | 0, _, _ => Nat.le_of_ble_eq_true rfl
  | m + 1, k, e => by
    unfold lfL
    split
    · exact lfL_lt h m (k + 1) (by omega)
    · exact Nat.lt_of_lt_of_le (Nat.pow_lt_pow_right (a := 2) (by decide) (show k < 10 by omega)) (Nat.le_refl 1024)
theorem lf_lt (h : Nat) : lf h < 1024 := lfL_lt h 10 0 rfl
theorem or_lt {a b : Nat} (ha : a < 1024) (hb : b < 1024) : a ||| b < 1024 := Nat.or_lt_two_pow (n := 10) ha hb
theorem p2_lt {k : Nat} (h : k < 10) : 2 ^ k < 1024 := Nat.lt_of_lt_of_le (Nat.pow_lt_pow_right (a := 2) (by decide) h) (Nat.le_refl 1024)
theorem pn_lt (k v d s rs : Nat) (hr : rs ≤ 9) : pn k v d s rs < 1024 := by
  have h10 : ∀ x : Nat, 2 ^ (x % 10) < 1024 := fun x => p2_lt (Nat.mod_lt _ (by decide))
  unfold pn
  split
  · split
    · decide
    · exact h10 _
  · split
    · exact h10 _
    · split
      · exact lf_lt s
      · split
        · split
          · decide
          · exact or_lt (h10 _) (h10 _)
        · split
          · refine p2_lt ?_
            split <;> exact Nat.mod_lt _ (by decide)
          · split
            · exact or_lt (lf_lt s) (p2_lt (by omega))
            · exact h10 _
theorem hoS_lt {g : Gv} (hg : gwf g) : ∀ p, p ≤ gn g → ∀ c, c < gn g → hoS g p c < 1024
  | 0, _, c, hc => (hg.2.1 c hc).2.2.2.1
  | p + 1, hp, c, hc => by
    have ih := hoS_lt hg p (by omega)
    unfold hoS
    split
    · exact ih c hc
    · unfold upN
      split
      · exact or_lt (ih _ (hg.2.1 p (by omega)).2.2.1) (pn_lt _ _ _ _ _ ((hg.2.1 p (by omega)).2.2.2.2 _ (Nat.mod_lt _ (by decide))))
      · exact ih c hc
theorem rotC_inj {n : Nat} {c : Nat → Nat} (hc : ∀ p q, p < n → q < n → c p = c q → p = q) : ∀ p q, p < n → q < n → rotC n c p = rotC n c q → p = q := by
  intro p q hp hq h
  unfold rotC at h
  rw [if_pos hp, if_pos hq] at h
  have h1 := hc _ _ (Nat.mod_lt _ (by omega)) (Nat.mod_lt _ (by omega)) h
  rcases Nat.lt_or_ge (p + 1) n with a | a <;> rcases Nat.lt_or_ge (q + 1) n with b | b
  · rw [Nat.mod_eq_of_lt a, Nat.mod_eq_of_lt b] at h1; omega
  · have : q + 1 = n := by omega
    rw [Nat.mod_eq_of_lt a, this, Nat.mod_self] at h1; omega
  · have : p + 1 = n := by omega
    rw [Nat.mod_eq_of_lt b, this, Nat.mod_self] at h1; omega
  · omega
theorem gwf_day {g : Gv} (hg : gwf g) (r : Nat) : gwf (dayS r g) := by
  obtain ⟨a1, a2, a3⟩ := hg
  refine ⟨a1, fun p hp => ⟨(a2 p hp).1, (a2 p hp).2.1, ?_, hoS_lt ⟨a1, a2, a3⟩ _ (Nat.le_refl _) p hp, (a2 p hp).2.2.2.2⟩, ?_⟩
  · show (if r = 0 ∨ (gd g + 1) % r ≠ 0 then gc g else rotC (gn g) (gc g)) p < gn g
    split
    · exact (a2 p hp).2.2.1
    · have hp' : p < gn g := hp
      unfold rotC
      rw [if_pos hp']
      exact (a2 _ (Nat.mod_lt _ (by omega))).2.2.1
  · show ∀ p q, p < gn g → q < gn g → (if r = 0 ∨ (gd g + 1) % r ≠ 0 then gc g else rotC (gn g) (gc g)) p = (if r = 0 ∨ (gd g + 1) % r ≠ 0 then gc g else rotC (gn g) (gc g)) q → p = q
    split
    · exact a3
    · exact rotC_inj a3
theorem gn_days (r : Nat) : ∀ (k : Nat) (g : Gv), gn (daysS r k g) = gn g
  | 0, _ => rfl
  | k + 1, g => gn_days r k g
theorem gd_days (r : Nat) : ∀ (k : Nat) (g : Gv), gd (daysS r k g) = gd g + k
  | 0, _ => rfl
  | k + 1, g => by
    show gd (daysS r k g) + 1 = _
    rw [gd_days r k g]; omega
theorem gwf_days {g : Gv} (hg : gwf g) (r : Nat) : ∀ k, gwf (daysS r k g)
  | 0 => hg
  | k + 1 => gwf_day (gwf_days hg r k) r
def mG (g : Gv) (I : Nat → Nat → Int32) : Prop := I 100 0 = nI (gn g) ∧ I 100 1 = ga g ∧ I 100 2 = nI (gd g) ∧ ∀ p, p < gn g → I 104 p = nI (gk g p) ∧ I 105 p = nI (gv g p) ∧ I 106 p = nI (gc g p) ∧ I 107 p = nI (gh g p) ∧ ∀ j, j < 4 → I 108 (4 * p + j) = nI (gr g (4 * p + j))
theorem i_or (a b : Nat) : nI a ||| nI b = nI (a ||| b) := by
  apply Int32.toBitVec_inj.1
  show BitVec.ofNat 32 a ||| BitVec.ofNat 32 b = BitVec.ofNat 32 (a ||| b)
  apply BitVec.eq_of_getLsbD_eq
  intro i hi
  simp [hi]
theorem i_1shl {k : Nat} (hk : k < 10) : nI 1 <<< (nI k &&& 31) = nI (2 ^ k) := by
  rw [i_shl (by omega) (by rw [Nat.one_mul]; exact Nat.pow_lt_pow_right (by decide) (by omega)), Nat.one_mul]
