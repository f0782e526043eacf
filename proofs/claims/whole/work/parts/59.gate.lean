/-! ===== the gates of the class: now at 300, trial at 340, kept at 380 ===== -/
theorem kF_hi (K : Nat → Nat) {h : Nat} (hh : 1000 ≤ h) : kF K h = K h := by
  unfold kF
  rw [show Nat.blt h 1000 = false from Bool.eq_false_iff.mpr (fun z => absurd (Nat.le_of_ble_eq_true z) (by omega))]
  rfl
theorem nF_hi (N : Nat → Nat) {h : Nat} (hh : 1000 ≤ h) : nF N h = N h := by
  unfold nF
  rw [show Nat.blt h 1000 = false from Bool.eq_false_iff.mpr (fun z => absurd (Nat.le_of_ble_eq_true z) (by omega))]
  rfl
theorem rF_hi (R : Nat → Nat → Option Nat) {h : Nat} (hh : 1000 ≤ h) (k : Nat) : rF R h k = R h k := by
  unfold rF
  rw [show Nat.blt h 1000 = false from Bool.eq_false_iff.mpr (fun z => absurd (Nat.le_of_ble_eq_true z) (by omega))]
  rfl
def xHd (K : Nat → Nat) (I : Nat → Nat → Int32) (h k p v : Nat) : Prop := 1000 ≤ h ∧ K h = hci k + 1 ∧ I h 0 = nI p ∧ I h 1 = nI v
def xG (b : Nat) (g : Gv) (K : Nat → Nat) (R : Nat → Nat → Option Nat) (I : Nat → Nat → Int32) : Prop := I b 4 = nI (gn g) ∧ I b 5 = ga g ∧ I b 6 = nI (gd g) ∧ ∀ p, p < gn g → (∃ h, R (b + 1) p = some h ∧ xHd K I h (gk g p) p (gv g p)) ∧ I (b + 3) p = nI (gc g p) ∧ I (b + 2) p = nI (gh g p) ∧ ∀ j, j < 4 → I (b + 4) (4 * p + j) = nI (gr g (4 * p + j))
/-- what days and swaps change of a gate's numbers -/
def gfr (b n : Nat) (I I' : Nat → Nat → Int32) : Prop := (∀ q, q ≠ b → q ≠ b + 2 → q ≠ b + 3 → I' q = I q) ∧ (∀ k, k ≠ 5 → k ≠ 6 → I' b k = I b k) ∧ (∀ k, n ≤ k → I' (b + 2) k = I (b + 2) k)
theorem gfr_rf (b n : Nat) (I : Nat → Nat → Int32) : gfr b n I I := ⟨fun _ _ _ _ => rfl, fun _ _ _ => rfl, fun _ _ => rfl⟩
theorem gfr_tr {b n : Nat} {I I1 I2 : Nat → Nat → Int32} (h1 : gfr b n I I1) (h2 : gfr b n I1 I2) : gfr b n I I2 := ⟨fun q x y z => (h2.1 q x y z).trans (h1.1 q x y z), fun k x y => (h2.2.1 k x y).trans (h1.2.1 k x y), fun k x => (h2.2.2 k x).trans (h1.2.2 k x)⟩
theorem and1 (y : Int32) : ¬ y &&& nI 1 = 0 ↔ y &&& nI 1 = nI 1 := by
  have h : y &&& nI 1 = 0 ∨ y &&& nI 1 = nI 1 := by
    have e : (y &&& nI 1).toBitVec = y.toBitVec &&& 1#32 := rfl
    cases hb : y.toBitVec.getLsbD 0 with
    | false => exact Or.inl (Int32.toBitVec_inj.1 (by rw [e, BitVec.and_one_eq_setWidth_ofBool_getLsbD, hb]; rfl))
    | true => exact Or.inr (Int32.toBitVec_inj.1 (by rw [e, BitVec.and_one_eq_setWidth_ofBool_getLsbD, hb]; rfl))
  rcases h with h | h
  · rw [h]; decide
  · rw [h]; decide
theorem atB_n0 {x : Int32} {p : Nat} : (¬ x >>> (nI p &&& 31) &&& nI 1 = 0) ↔ atB x p = true := by
  rw [and1]
  unfold atB
  rw [decide_eq_true_iff]
theorem itN_key {c : Nat → Nat} {n : Nat} (hc : ∀ p, p < n → c p < n) (hi : ∀ p q, p < n → q < n → c p = c q → p = q) {p : Nat} (hp : p < n) : ∀ i j, i < j → itN c i p = itN c j p → itN c (j - i) p = p := by
  intro i
  induction i with
  | zero => intro j _ h; simpa [itN] using h.symm
  | succ i ih =>
    intro j hij h
    obtain ⟨m, rfl⟩ : ∃ m, j = m + 1 := ⟨j - 1, by omega⟩
    rw [itN_out, itN_out] at h
    have := ih m (by omega) (hi _ _ (itN_lt hc i p hp) (itN_lt hc m p hp) h)
    rwa [show m + 1 - (i + 1) = m - i by omega]
/-- rgL counts the steps till p is first there -/
theorem rgL_first {c : Nat → Nat} {p : Nat} : ∀ k o n, itN c k o = p → ∃ j, j ≤ k ∧ itN c j o = p ∧ (∀ i, i < j → itN c i o ≠ p) ∧ rgL c p k o n = n + j
  | 0, o, n, h => ⟨0, Nat.le_refl 0, h, fun i hi => absurd hi (Nat.not_lt_zero i), rfl⟩
  | k + 1, o, n, h => by
    by_cases ho : o = p
    · exact ⟨0, Nat.zero_le _, ho, fun i hi => absurd hi (Nat.not_lt_zero i), by show (if o = p then n else _) = n; rw [if_pos ho]⟩
    · obtain ⟨j, h1, h2, h3, h4⟩ := rgL_first (c := c) (p := p) k (c o) (n + 1) h
      refine ⟨j + 1, by omega, h2, fun i hi => ?_, ?_⟩
      · cases i with
        | zero => exact ho
        | succ i => exact h3 i (by omega)
      · show (if o = p then n else rgL c p k (c o) (n + 1)) = _
        rw [if_neg ho, h4]; omega
/-- a ring's length: the first return -/
theorem rg_sp {g : Gv} (hg : gwf g) {p : Nat} (hp : p < gn g) : 1 ≤ rg (gc g) p ∧ rg (gc g) p ≤ gn g ∧ itN (gc g) (rg (gc g) p) p = p ∧ ∀ i, 0 < i → i < rg (gc g) p → itN (gc g) i p ≠ p := by
  obtain ⟨k, hk, he⟩ := itN_ret (fun q hq => (hg.2.1 q hq).2.2.1) hg.2.2 hp
  obtain ⟨j, h1, h2, h3, h4⟩ := rgL_first (c := gc g) (p := p) k (gc g p) 1 he
  have h6 := hg.1
  have e : rg (gc g) p = 1 + j := by
    unfold rg
    rw [rgL_of k 6 _ _ he (by omega), h4]
  rw [e]
  refine ⟨by omega, by omega, ?_, fun i hi hlt => ?_⟩
  · rw [Nat.add_comm]; exact h2
  · obtain ⟨i', rfl⟩ : ∃ i', i = i' + 1 := ⟨i - 1, by omega⟩
    exact h3 i' (by omega)
/-- marks, as many as are told -/
def mk2 (c : Nat → Nat) : Nat → Nat → Nat → Nat
  | 0, s, _ => s
  | k + 1, s, o => mk2 c k (s ||| 2 ^ o) (c o)
theorem mk2_out (c : Nat → Nat) : ∀ k s o, mk2 c (k + 1) s o = mk2 c k s o ||| 2 ^ (itN c k o)
  | 0, _, _ => rfl
  | k + 1, s, o => mk2_out c k (s ||| 2 ^ o) (c o)
theorem mk2_bit (c : Nat → Nat) : ∀ k s o q, (mk2 c k s o).testBit q = true ↔ s.testBit q = true ∨ ∃ i, i < k ∧ itN c i o = q
  | 0, s, o, q => ⟨Or.inl, fun h => h.elim id (fun ⟨i, hi, _⟩ => absurd hi (Nat.not_lt_zero i))⟩
  | k + 1, s, o, q => by
    rw [mk2_out, Nat.testBit_or, Nat.testBit_two_pow, Bool.or_eq_true, mk2_bit c k s o q, decide_eq_true_iff]
    constructor
    · rintro ((h | ⟨i, hi, he⟩) | h)
      · exact Or.inl h
      · exact Or.inr ⟨i, by omega, he⟩
      · exact Or.inr ⟨k, by omega, h⟩
    · rintro (h | ⟨i, hi, he⟩)
      · exact Or.inl (Or.inl h)
      · rcases Nat.lt_or_ge i k with z | z
        · exact Or.inl (Or.inr ⟨i, z, he⟩)
        · obtain rfl : i = k := by omega
          exact Or.inr he
theorem mk2_lt (c : Nat → Nat) (hc : ∀ p, p < 6 → c p < 6) : ∀ m s o, s < 64 → o < 6 → mk2 c m s o < 64
  | 0, s, o, hs, _ => hs
  | m + 1, s, o, hs, ho => mk2_lt c hc m _ (c o) (Nat.or_lt_two_pow (n := 6) hs (Nat.pow_lt_pow_right (by decide) ho)) (hc o ho)
/-- marks on a ring that has none: both ways, and how many are left -/
theorem mk_ring {g : Gv} (hg : gwf g) {s p : Nat} (hp : p < gn g) (hcl : ∀ o, o < gn g → (s.testBit (gc g o) = true ↔ s.testBit o = true)) (hs : ¬ s.testBit p = true) :
    mkL (gc g) 6 s p = mk2 (gc g) (rg (gc g) p) s p ∧ ucN (mk2 (gc g) (rg (gc g) p) s p) (gn g) + rg (gc g) p = ucN s (gn g) ∧ (mk2 (gc g) (rg (gc g) p) s p).testBit p = true ∧
    (∀ o, o < gn g → ((mk2 (gc g) (rg (gc g) p) s p).testBit (gc g o) = true ↔ (mk2 (gc g) (rg (gc g) p) s p).testBit o = true)) := by
  have h6 := hg.1
  have hc : ∀ q, q < gn g → gc g q < gn g := fun q hq => (hg.2.1 q hq).2.2.1
  obtain ⟨r1, r2, r3, r4⟩ := rg_sp hg hp
  have hout : ∀ j, (s.testBit (itN (gc g) j p) = true ↔ s.testBit p = true) := by
    intro j
    induction j with
    | zero => exact Iff.rfl
    | succ j ih => rw [itN_out, hcl _ (itN_lt hc j p hp)]; exact ih
  have hdis : ∀ j, j < rg (gc g) p → ¬ (mk2 (gc g) j s p).testBit (itN (gc g) j p) = true := by
    intro j hj
    rw [mk2_bit]
    rintro (h | ⟨i, hi, he⟩)
    · exact hs ((hout j).mp h)
    · exact r4 (j - i) (by omega) (by omega) (itN_key hc hg.2.2 hp i j hi he)
  have hstep : ∀ j, j ≤ rg (gc g) p → mkL (gc g) 6 s p = mkL (gc g) (6 - j) (mk2 (gc g) j s p) (itN (gc g) j p) := by
    intro j
    induction j with
    | zero => intro _; rfl
    | succ j ih =>
      intro hj
      rw [ih (by omega)]
      obtain ⟨m, hm⟩ : ∃ m, 6 - j = m + 1 := ⟨5 - j, by omega⟩
      rw [hm, show 6 - (j + 1) = m by omega, mk2_out, itN_out]
      show (if (mk2 (gc g) j s p).testBit (itN (gc g) j p) = true then _ else _) = _
      rw [if_neg (hdis j (by omega))]
  have hbp : (mk2 (gc g) (rg (gc g) p) s p).testBit p = true := (mk2_bit _ _ _ _ _).mpr (Or.inr ⟨0, by omega, rfl⟩)
  refine ⟨?_, ?_, hbp, fun o ho => ?_⟩
  · rw [hstep _ (Nat.le_refl _), r3]
    cases h : 6 - rg (gc g) p with
    | zero => rfl
    | succ m =>
      show (if (mk2 (gc g) (rg (gc g) p) s p).testBit p = true then _ else _) = _
      rw [if_pos hbp]
  · have hu : ∀ j, j ≤ rg (gc g) p → ucN (mk2 (gc g) j s p) (gn g) + j = ucN s (gn g) := by
      intro j
      induction j with
      | zero => intro _; rfl
      | succ j ih =>
        intro hj
        have := ih (by omega)
        have h2 := ucN_or (hdis j (by omega)) (gn g)
        rw [if_pos (itN_lt hc j p hp)] at h2
        rw [mk2_out]
        omega
    exact hu _ (Nat.le_refl _)
  · rw [mk2_bit, mk2_bit, hcl o ho]
    constructor
    · rintro (h | ⟨i, hi, he⟩)
      · exact Or.inl h
      · right
        cases i with
        | zero =>
          refine ⟨rg (gc g) p - 1, by omega, hg.2.2 _ _ (itN_lt hc _ p hp) ho ?_⟩
          rw [← itN_out (gc g), show rg (gc g) p - 1 + 1 = rg (gc g) p by omega, r3]; exact he
        | succ i =>
          rw [itN_out] at he
          exact ⟨i, by omega, hg.2.2 _ _ (itN_lt hc _ p hp) ho he⟩
    · rintro (h | ⟨i, hi, he⟩)
      · exact Or.inl h
      · right
        rcases Nat.lt_or_ge (i + 1) (rg (gc g) p) with z | z
        · exact ⟨i + 1, z, by rw [itN_out, he]⟩
        · refine ⟨0, by omega, ?_⟩
          rw [← he, ← itN_out (gc g), show i + 1 = rg (gc g) p by omega, r3]; rfl
