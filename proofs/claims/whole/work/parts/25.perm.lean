/-! ===== cards as a permutation of few numbers ===== -/
theorem php : ∀ (n : Nat) (f : Nat → Nat), (∀ i, i ≤ n → f i < n) → ∃ i j, i < j ∧ j ≤ n ∧ f i = f j
  | 0, f, h => absurd (h 0 (Nat.le_refl 0)) (Nat.not_lt_zero _)
  | n + 1, f, h => by
    by_cases hx : ∃ i, i ≤ n ∧ f i = f (n + 1)
    · obtain ⟨i, hi, he⟩ := hx
      exact ⟨i, n + 1, by omega, Nat.le_refl _, he⟩
    · have hx' : ∀ i, i ≤ n → f i ≠ f (n + 1) := fun i hi he => hx ⟨i, hi, he⟩
      obtain ⟨i, j, hij, hj, he⟩ := php n (fun i => if f i = n then f (n + 1) else f i) (fun i hi => by
        have h1 := h i (by omega)
        have h2 := h (n + 1) (Nat.le_refl _)
        have h3 := hx' i hi
        show (if f i = n then f (n + 1) else f i) < n
        split <;> omega)
      have h3 := hx' i (by omega)
      have h4 := hx' j hj
      refine ⟨i, j, hij, by omega, ?_⟩
      split at he <;> split at he <;> omega
def itN (c : Nat → Nat) : Nat → Nat → Nat
  | 0, x => x
  | k + 1, x => itN c k (c x)
theorem itN_out (c : Nat → Nat) : ∀ k x, itN c (k + 1) x = c (itN c k x)
  | 0, _ => rfl
  | k + 1, x => by
    show itN c (k + 1) (c x) = _
    rw [itN_out c k (c x)]
    rfl
theorem itN_lt {c : Nat → Nat} {n : Nat} (hc : ∀ p, p < n → c p < n) : ∀ k x, x < n → itN c k x < n
  | 0, _, h => h
  | k + 1, x, h => itN_lt hc k (c x) (hc x h)
theorem itN_ret {c : Nat → Nat} {n : Nat} (hc : ∀ p, p < n → c p < n) (hi : ∀ p q, p < n → q < n → c p = c q → p = q) {p : Nat} (hp : p < n) : ∃ k, k < n ∧ itN c k (c p) = p := by
  obtain ⟨i, j, hij, hj, he⟩ := php n (fun i => itN c i p) (fun i _ => itN_lt hc i p hp)
  have key : ∀ i j, i < j → itN c i p = itN c j p → itN c (j - i) p = p := by
    intro i
    induction i with
    | zero => intro j _ h; simpa [itN] using h.symm
    | succ i ih =>
      intro j hij h
      obtain ⟨m, rfl⟩ : ∃ m, j = m + 1 := ⟨j - 1, by omega⟩
      rw [itN_out, itN_out] at h
      have := ih m (by omega) (hi _ _ (itN_lt hc i p hp) (itN_lt hc m p hp) h)
      rwa [show m + 1 - (i + 1) = m - i by omega]
  have h := key i j hij he
  refine ⟨j - i - 1, by omega, ?_⟩
  have e : j - i = (j - i - 1) + 1 := by omega
  rw [e] at h
  exact h
/-- steps till p is there again -/
def rgL (c : Nat → Nat) (p : Nat) : Nat → Nat → Nat → Nat
  | 0, _, n => n
  | m + 1, o, n => if o = p then n else rgL c p m (c o) (n + 1)
def rg (c : Nat → Nat) (p : Nat) : Nat := rgL c p 6 (c p) 1
theorem rgL_of {c : Nat → Nat} {p : Nat} : ∀ k m o n, itN c k o = p → k ≤ m → rgL c p m o n = rgL c p k o n
  | 0, m, o, n, h, _ => by
    cases m with
    | zero => rfl
    | succ m => show (if o = p then n else _) = n; rw [if_pos (show o = p from h)]
  | k + 1, m, o, n, h, hm => by
    obtain ⟨m', rfl⟩ : ∃ m', m = m' + 1 := ⟨m - 1, by omega⟩
    show (if o = p then n else rgL c p m' (c o) (n + 1)) = (if o = p then n else rgL c p k (c o) (n + 1))
    split
    · rfl
    · exact rgL_of k m' (c o) (n + 1) h (by omega)
theorem rgL_le {c : Nat → Nat} {p : Nat} : ∀ m o n, rgL c p m o n ≤ n + m
  | 0, _, n => Nat.le_refl n
  | m + 1, o, n => by
    show (if o = p then n else rgL c p m (c o) (n + 1)) ≤ _
    split
    · omega
    · have := rgL_le (c := c) (p := p) m (c o) (n + 1)
      omega
theorem rgL_ge {c : Nat → Nat} {p : Nat} : ∀ m o n, n ≤ rgL c p m o n
  | 0, _, n => Nat.le_refl n
  | m + 1, o, n => by
    show n ≤ (if o = p then n else rgL c p m (c o) (n + 1))
    split
    · omega
    · have := rgL_ge (c := c) (p := p) m (c o) (n + 1)
      omega
/-- who has a card: the first -/
def whL (c : Nat → Nat) (x : Nat) : Nat → Nat → Nat
  | 0, p => p
  | m + 1, p => if c p = x then p else whL c x m (p + 1)
def wh (c : Nat → Nat) (x : Nat) : Nat := whL c x 6 0
theorem whL_sp {c : Nat → Nat} {x q : Nat} (hq : c q = x) : ∀ m p, p ≤ q → q < p + m → c (whL c x m p) = x ∧ whL c x m p ≤ q
  | 0, p, h1, h2 => by omega
  | m + 1, p, h1, h2 => by
    show c (if c p = x then p else _) = x ∧ (if c p = x then p else _) ≤ q
    split
    · exact ⟨by assumption, h1⟩
    · have hne : p ≠ q := fun z => by subst z; contradiction
      exact whL_sp hq m (p + 1) (by omega) (by omega)
theorem wh_sp {g : Gv} (hg : gwf g) {x : Nat} (hx : x < gn g) : wh (gc g) x < gn g ∧ gc g (wh (gc g) x) = x := by
  obtain ⟨k, hk, he⟩ := itN_ret (fun p hp => (hg.2.1 p hp).2.2.1) hg.2.2 hx
  have h1 : itN (gc g) (k + 1) x = x := he
  rw [itN_out] at h1
  have hlt := itN_lt (fun p hp => (hg.2.1 p hp).2.2.1) k x hx
  have h6 := hg.1
  obtain ⟨h2, h3⟩ := whL_sp (c := gc g) h1 6 0 (Nat.zero_le _) (by omega)
  exact ⟨by unfold wh; omega, h2⟩
/-- the first swap: 10 times the least who has not its own, and who has that -/
def fsL (c : Nat → Nat) : Nat → Nat → Int32
  | 0, _ => -nI 5
  | m + 1, p => if c p = p then fsL c m (p + 1) else nI (10 * p + wh c p)
/-- marks on a ring -/
def mkL (c : Nat → Nat) : Nat → Nat → Nat → Nat
  | 0, s, _ => s
  | m + 1, s, o => if s.testBit o = true then s else mkL c m (s ||| 2 ^ o) (c o)
def swL (c : Nat → Nat) : Nat → Nat → Nat → Nat → Nat
  | 0, _, _, n => n
  | m + 1, p, s, n => if s.testBit p = true then swL c m (p + 1) s n else swL c m (p + 1) (mkL c 6 s p) (n + (rg c p - 1))
/-- bits of the first n that are not set -/
def ucN (s : Nat) : Nat → Nat
  | 0 => 0
  | k + 1 => ucN s k + (if s.testBit k = true then 0 else 1)
theorem ucN_le (s : Nat) : ∀ k, ucN s k ≤ k
  | 0 => Nat.le_refl 0
  | k + 1 => by
    have := ucN_le s k
    show ucN s k + _ ≤ _
    split <;> omega
theorem ucN_or {s o : Nat} (hs : ¬ s.testBit o = true) : ∀ k, ucN (s ||| 2 ^ o) k + (if o < k then 1 else 0) = ucN s k
  | 0 => by simp [ucN]
  | k + 1 => by
    have ih := ucN_or hs k
    show ucN (s ||| 2 ^ o) k + (if (s ||| 2 ^ o).testBit k = true then 0 else 1) + _ = ucN s k + (if s.testBit k = true then 0 else 1)
    rw [Nat.testBit_or, Nat.testBit_two_pow]
    by_cases hok : o = k
    · subst hok
      simp [hs] at ih ⊢
      omega
    · have e : decide (o = k) = false := decide_eq_false hok
      simp only [e, Bool.or_false]
      rcases Nat.lt_or_ge o k with h | h
      · rw [if_pos h] at ih
        rw [if_pos (show o < k + 1 by omega)]
        omega
      · rw [if_neg (by omega)] at ih
        rw [if_neg (show ¬ o < k + 1 by omega)]
        omega
theorem ucN_0 {s : Nat} : ∀ {k : Nat}, ucN s k = 0 → ∀ j, j < k → s.testBit j = true
  | 0, _, j, hj => absurd hj (Nat.not_lt_zero _)
  | k + 1, h, j, hj => by
    have h' : ucN s k + (if s.testBit k = true then 0 else 1) = 0 := h
    by_cases hb : s.testBit k = true
    · rw [if_pos hb] at h'
      rcases Nat.lt_or_ge j k with z | z
      · exact ucN_0 h' j z
      · have : j = k := by omega
        subst this; exact hb
    · rw [if_neg hb] at h'; omega
theorem mkL_of (c : Nat → Nat) {n : Nat} (hc : ∀ p, p < n → c p < n) : ∀ k m s o, o < n → ucN s n ≤ k → k ≤ m → mkL c m s o = mkL c k s o
  | 0, m, s, o, ho, hu, _ => by
    cases m with
    | zero => rfl
    | succ m =>
      show (if s.testBit o = true then s else _) = s
      rw [if_pos (ucN_0 (by omega) o ho)]
  | k + 1, m, s, o, ho, hu, hm => by
    obtain ⟨m', rfl⟩ : ∃ m', m = m' + 1 := ⟨m - 1, by omega⟩
    show (if s.testBit o = true then s else mkL c m' (s ||| 2 ^ o) (c o)) = (if s.testBit o = true then s else mkL c k (s ||| 2 ^ o) (c o))
    split
    · rfl
    · rename_i hs
      have := ucN_or hs n
      rw [if_pos ho] at this
      exact mkL_of c hc k m' _ (c o) (hc o ho) (by omega) (by omega)
theorem mkL_lt (c : Nat → Nat) (hc : ∀ p, p < 6 → c p < 6) : ∀ m s o, s < 64 → o < 6 → mkL c m s o < 64
  | 0, s, o, hs, _ => hs
  | m + 1, s, o, hs, ho => by
    show (if s.testBit o = true then s else mkL c m (s ||| 2 ^ o) (c o)) < 64
    split
    · exact hs
    · exact mkL_lt c hc m _ (c o) (Nat.or_lt_two_pow (n := 6) hs (Nat.pow_lt_pow_right (by decide) ho)) (hc o ho)
