/-! ===== what is asked is put back: which cells a day, a swap .. may change, and which are for scratch alone ===== -/
def scP : List Nat := [127, 130, 131, 132, 133, 134, 126, 121]
def scF : List Nat := [11, 12, 21, 22, 23, 27, 28]
/-- alike but for scratch -/
def sE (I I' : Nat → Nat → Int32) : Prop := (∀ q, q ∉ scP → q ≠ 100 → I' q = I q) ∧ (∀ k, k ∉ scF → I' 100 k = I 100 k)
theorem sE_rf (I : Nat → Nat → Int32) : sE I I := ⟨fun _ _ _ => rfl, fun _ _ => rfl⟩
theorem sE_tr {I I1 I2 : Nat → Nat → Int32} (h1 : sE I I1) (h2 : sE I1 I2) : sE I I2 := ⟨fun q a b => (h2.1 q a b).trans (h1.1 q a b), fun k a => (h2.2 k a).trans (h1.2 k a)⟩
theorem sE_pile {I I1 : Nat → Nat → Int32} (h : ∀ q, q ≠ 126 → I1 q = I q) : sE I I1 := ⟨fun q a _ => h q (fun z => a (by rw [z]; decide)), fun k _ => by rw [h 100 (by decide)]⟩
theorem mG_sE {g : Gv} {I I1 : Nat → Nat → Int32} (hG : mG g I) (h : sE I I1) : mG g I1 := by
  obtain ⟨a1, a2, a3, a4⟩ := hG
  unfold mG
  rw [h.2 0 (by decide), h.2 1 (by decide), h.2 2 (by decide), h.1 104 (by decide) (by decide), h.1 105 (by decide) (by decide), h.1 106 (by decide) (by decide), h.1 107 (by decide) (by decide), h.1 108 (by decide) (by decide)]
  exact ⟨a1, a2, a3, a4⟩
theorem mHB_sE {w : Wk} {b : Nat} {I I1 : Nat → Nat → Int32} (hB : mHB w b I) (h : sE I I1) : mHB w b I1 := by
  refine mHB_eq hB (h.2 9 (by decide)) ?_ ?_ ?_ ?_ ?_ ?_ <;> exact h.1 _ (by decide) (by decide)
/-- what happens between save and putBack -/
def frA (I I' : Nat → Nat → Int32) : Prop := (∀ q, q ≠ 107 → q ≠ 106 → q ≠ 127 → q ≠ 126 → q ≠ 100 → I' q = I q) ∧ (∀ k, k ≠ 1 → k ≠ 2 → I' 100 k = I 100 k) ∧ (∀ k, 6 ≤ k → I' 107 k = I 107 k ∧ I' 106 k = I 106 k)
theorem frA_rf (I : Nat → Nat → Int32) : frA I I := ⟨fun _ _ _ _ _ _ => rfl, fun _ _ _ => rfl, fun _ _ => ⟨rfl, rfl⟩⟩
theorem frA_tr {I I1 I2 : Nat → Nat → Int32} (h1 : frA I I1) (h2 : frA I1 I2) : frA I I2 := ⟨fun q a b c d e => (h2.1 q a b c d e).trans (h1.1 q a b c d e), fun k a b => (h2.2.1 k a b).trans (h1.2.1 k a b), fun k a => ⟨(h2.2.2 k a).1.trans (h1.2.2 k a).1, (h2.2.2 k a).2.trans (h1.2.2 k a).2⟩⟩
theorem frA_D {n : Nat} {I I1 : Nat → Nat → Int32} (hn : n ≤ 6) (h : frD n I I1) : frA I I1 := ⟨fun q a b c _ e => h.1 q a b c e, fun k _ b => h.2.1 k b, fun k hk => h.2.2 k (by omega)⟩
theorem frA_pile {I I1 : Nat → Nat → Int32} (h : ∀ q, q ≠ 126 → I1 q = I q) : frA I I1 := ⟨fun q _ _ _ d _ => h q d, fun k _ _ => by rw [h 100 (by decide)], fun k _ => ⟨by rw [h _ (by decide)], by rw [h _ (by decide)]⟩⟩
theorem sE_sv (I : Nat → Nat → Int32) : sE I (svI I 6) := by
  refine ⟨fun q a b => ?_, fun k a => ?_⟩
  · funext k
    have h1 : q ≠ 130 := fun z => a (by rw [z]; decide)
    have h2 : q ≠ 131 := fun z => a (by rw [z]; decide)
    simp [svI, h1, h2, b]
  · have h1 : k ≠ 27 := fun z => a (by rw [z]; decide)
    have h2 : k ≠ 28 := fun z => a (by rw [z]; decide)
    simp [svI, h1, h2]
theorem ask_back {I I2 : Nat → Nat → Int32} (h : frA (svI I 6) I2) : sE I (pbI I2 6) := by
  obtain ⟨a1, a2, a3⟩ := h
  refine ⟨fun q hq h0 => ?_, fun k hk => ?_⟩
  · funext k
    have n1 : q ≠ 130 := fun z => hq (by rw [z]; decide)
    have n2 : q ≠ 131 := fun z => hq (by rw [z]; decide)
    have n3 : q ≠ 127 := fun z => hq (by rw [z]; decide)
    have n4 : q ≠ 126 := fun z => hq (by rw [z]; decide)
    by_cases hc : q = 106
    · subst hc
      by_cases hk : k < 6
      · rw [show pbI I2 6 106 k = I2 130 k by simp [pbI, hk], a1 130 (by decide) (by decide) (by decide) (by decide) (by decide)]
        simp [svI, hk]
      · rw [show pbI I2 6 106 k = I2 106 k by simp [pbI, hk], (a3 k (by omega)).2]
        simp [svI]
    · by_cases hh : q = 107
      · subst hh
        by_cases hk : k < 6
        · rw [show pbI I2 6 107 k = I2 131 k by simp [pbI, hk], a1 131 (by decide) (by decide) (by decide) (by decide) (by decide)]
          simp [svI, hk]
        · rw [show pbI I2 6 107 k = I2 107 k by simp [pbI, hk], (a3 k (by omega)).1]
          simp [svI]
      · rw [show pbI I2 6 q k = I2 q k by simp [pbI, hc, hh, h0], a1 q hh hc n3 n4 h0]
        simp [svI, n1, n2, h0]
  · have h27 : k ≠ 27 := fun z => hk (by rw [z]; decide)
    have h28 : k ≠ 28 := fun z => hk (by rw [z]; decide)
    by_cases k1 : k = 1
    · subst k1
      rw [show pbI I2 6 100 1 = I2 100 27 by simp [pbI], a2 27 (by decide) (by decide)]
      simp [svI]
    · by_cases k2 : k = 2
      · subst k2
        rw [show pbI I2 6 100 2 = I2 100 28 by simp [pbI], a2 28 (by decide) (by decide)]
        simp [svI]
      · rw [show pbI I2 6 100 k = I2 100 k by simp [pbI, k1, k2], a2 k k1 k2]
        simp [svI, h27, h28]
/-! asked by ints -/
def jx (x : Int32) : Nat := x.toNatClampNeg
def isIn (x : Int32) (n : Nat) : Bool := decide (0 ≤ x.toInt ∧ x.toInt < (n : Int))
theorem jx_nI {j : Nat} (h : j < 2 ^ 31) : jx (nI j) = j := cl h
theorem isIn_iff {x : Int32} {n : Nat} (hn : n ≤ 2 ^ 31) : isIn x n = true ↔ ∃ j, j < n ∧ x = nI j := by
  unfold isIn
  rw [decide_eq_true_iff]
  constructor
  · rintro ⟨h1, h2⟩
    obtain ⟨j, hj, rfl⟩ := nI_of (x := x) (fun z => by rw [Int32.lt_iff_toInt_lt] at z; have : (0 : Int32).toInt = 0 := rfl; omega)
    rw [nI_toInt hj] at h2
    exact ⟨j, by omega, rfl⟩
  · rintro ⟨j, hj, rfl⟩
    rw [nI_toInt (by omega)]
    omega
theorem isIn_nI {j n : Nat} (hj : j < n) (hn : n ≤ 2 ^ 31) : isIn (nI j) n = true := (isIn_iff hn).mpr ⟨j, hj, rfl⟩
theorem in10 {x : Int32} {n : Nat} (b : Nat) (hb : 1 ≤ b ∧ b ≤ 1000) (hn : n ≤ 6) : (nI b ≤ x ∧ x ≤ nI (b - 1) + nI n) ↔ isIn (x - nI b) n = true := by
  rw [isIn_iff (by omega), nI_add]
  constructor
  · rintro ⟨h1, h2⟩
    obtain ⟨j, hj, rfl⟩ := i_nn (x := x) (by
      rw [Int32.le_iff_toInt_le] at h1 ⊢
      rw [nI_toInt (by omega)] at h1 ⊢
      omega)
    rw [nI_leI (by omega) hj] at h1
    rw [nI_leI hj (by omega)] at h2
    exact ⟨j - b, by omega, by rw [pk_sub h1]⟩
  · rintro ⟨j, hj, he⟩
    have hx : x = nI (j + b) := by
      rw [← nI_add, ← he, Int32.sub_add_cancel]
    rw [hx]
    exact ⟨nI_le (by omega) (by omega), nI_le (by omega) (by omega)⟩
