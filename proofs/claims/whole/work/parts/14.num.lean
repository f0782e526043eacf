/-! ===== ints by their numbers ===== -/
theorem nI_toInt' {n : Nat} (h : n < 2 ^ 31) : (nI n).toInt = (n : Int) := nI_toInt h
theorem i_nn {x : Int32} (h : nI 0 ≤ x) : ∃ j : Nat, j < 2 ^ 31 ∧ x = nI j := nI_of (fun h2 => by
  rw [Int32.lt_iff_toInt_lt] at h2
  rw [Int32.le_iff_toInt_le] at h
  have e : (nI 0).toInt = 0 := by decide
  have e2 : (0 : Int32).toInt = 0 := by decide
  omega)
theorem i_sub1 {n : Nat} (hn : n ≤ 2 ^ 30) : (nI n - nI 1).toInt = (n : Int) - 1 := by
  rcases Nat.lt_or_ge n (2 ^ 30) with h | h
  · have := pk_sub_toInt (a := n) (b := 1) h (by decide)
    simpa using this
  · have e : n = 2 ^ 30 := by omega
    subst e
    decide
/-- within 0 and less than n -/
theorem i_in {x : Int32} {n : Nat} (hn : n ≤ 2 ^ 30) : (nI 0 ≤ x ∧ x ≤ nI n - nI 1) ↔ ∃ j, j < n ∧ x = nI j := by
  constructor
  · rintro ⟨h1, h2⟩
    obtain ⟨j, hj, rfl⟩ := i_nn h1
    refine ⟨j, ?_, rfl⟩
    rw [Int32.le_iff_toInt_le, i_sub1 hn, nI_toInt hj] at h2
    omega
  · rintro ⟨j, hj, rfl⟩
    have hj2 : j < 2 ^ 31 := by omega
    refine ⟨nI_le (Nat.zero_le _) hj2, ?_⟩
    rw [Int32.le_iff_toInt_le, i_sub1 hn, nI_toInt hj2]
    omega
theorem i_le {x : Int32} {n : Nat} (hn : n < 2 ^ 31) : (nI 0 ≤ x ∧ x ≤ nI n) ↔ ∃ j, j ≤ n ∧ x = nI j := by
  constructor
  · rintro ⟨h1, h2⟩
    obtain ⟨j, hj, rfl⟩ := i_nn h1
    exact ⟨j, (nI_leI hj hn).mp h2, rfl⟩
  · rintro ⟨j, hj, rfl⟩
    exact ⟨nI_le (Nat.zero_le _) (by omega), nI_le hj hn⟩
theorem i_nlt {x y : Int32} : ¬ x < y ↔ y ≤ x := Int32.not_lt
theorem i_nle {x y : Int32} : ¬ x ≤ y ↔ y < x := Int32.not_le
theorem nI_inj {a b : Nat} (ha : a < 2 ^ 31) (hb : b < 2 ^ 31) (h : nI a = nI b) : a = b := (nI_eq ha hb).mp h
theorem vin (m : Nat) {j n : Nat} (hj : j < m) (e : n = m := by rfl) (hm : m < 2 ^ 31 := by decide) : vp_in (nI j) n := by
  subst e
  exact vp_in_nI hj hm
theorem cl {j : Nat} (h : j < 2 ^ 31) : (nI j).toNatClampNeg = j := nI_clamp h
theorem sh31 : ∀ k, k < 32 → ((nI k &&& 31).toBitVec.smod 32).toNat = k := by decide +kernel
theorem i_shr {h k : Nat} (hh : h < 2 ^ 31) (hk : k < 32) : nI h >>> (nI k &&& 31) = nI (h / 2 ^ k) := pk_shrN hh _ k (sh31 k hk)
theorem i_shl {h k : Nat} (hk : k < 32) (hh : h * 2 ^ k < 2 ^ 32) : nI h <<< (nI k &&& 31) = nI (h * 2 ^ k) := pk_shlN _ k (sh31 k hk) hh
theorem i_and1 {h : Nat} (hh : h < 2 ^ 32) : nI h &&& nI 1 = nI (h % 2) := pk_andN hh (m := nI 1) 1 (by decide)
/-- a bit, asked as the classes do -/
theorem i_bit {h k : Nat} (hh : h < 2 ^ 31) (hk : k < 32) : (nI h >>> (nI k &&& 31) &&& nI 1 = nI 1) ↔ h.testBit k = true := by
  rw [i_shr hh hk, i_and1 (Nat.lt_of_le_of_lt (Nat.div_le_self _ _) (by omega)), nI_eq (by omega) (by decide), Nat.testBit_eq_decide_div_mod_eq]
  simp
theorem i_mod {a d : Nat} (ha : a < 2 ^ 31) (h0 : 0 < d) (hd : d < 2 ^ 31) : nI a - nI a / nI d * nI d = nI (a % d) := pk_rem ha h0 hd
theorem i_div {a d : Nat} (ha : a < 2 ^ 31) (h0 : 0 < d) (hd : d < 2 ^ 31) : nI a / nI d = nI (a / d) := pk_div ha h0 hd
