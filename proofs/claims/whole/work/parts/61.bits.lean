/-! ===== a pile of truths as a number ===== -/
theorem i_and (a b : Nat) : nI a &&& nI b = nI (a &&& b) := by
  apply Int32.toBitVec_inj.1
  show BitVec.ofNat 32 a &&& BitVec.ofNat 32 b = BitVec.ofNat 32 (a &&& b)
  apply BitVec.eq_of_getLsbD_eq
  intro i hi
  simp [hi]
theorem i_xor (a b : Nat) : nI a ^^^ nI b = nI (a ^^^ b) := by
  apply Int32.toBitVec_inj.1
  show BitVec.ofNat 32 a ^^^ BitVec.ofNat 32 b = BitVec.ofNat 32 (a ^^^ b)
  apply BitVec.eq_of_getLsbD_eq
  intro i hi
  simp [hi]
def bN (b : Bool) : Nat := if b = true then 1 else 0
theorem tb_0 (m : Nat) (b : Bool) : (2 * m + bN b).testBit 0 = b := by
  rw [Nat.testBit_zero]
  cases b <;> simp [bN] <;> omega
theorem tb_s (m : Nat) (b : Bool) (i : Nat) : (2 * m + bN b).testBit (i + 1) = m.testBit i := by
  rw [Nat.testBit_succ, show (2 * m + bN b) / 2 = m by cases b <;> simp [bN] <;> omega]
theorem or_b (m : Nat) (x b : Bool) : (2 * m + bN x) ||| bN b = 2 * m + bN (x || b) := by
  apply Nat.eq_of_testBit_eq
  intro i
  rw [Nat.testBit_or]
  have e : bN b = 2 * 0 + bN b := by omega
  rw [e]
  cases i with
  | zero => rw [tb_0, tb_0, tb_0]
  | succ i => rw [tb_s, tb_s, tb_s]; simp
theorem xor_b (m : Nat) (x : Bool) : (2 * m + bN x) ^^^ 1 = 2 * m + bN (!x) := by
  apply Nat.eq_of_testBit_eq
  intro i
  rw [Nat.testBit_xor]
  have e : 1 = 2 * 0 + bN true := rfl
  rw [e]
  cases i with
  | zero => rw [tb_0, tb_0, tb_0]; cases x <;> rfl
  | succ i => rw [tb_s, tb_s, tb_s]; simp
def enc : List Bool → Nat
  | [] => 0
  | b :: r => 2 * enc r + bN b
theorem bN_le (b : Bool) : bN b ≤ 1 := by cases b <;> decide
theorem enc_lt : ∀ st, enc st < 2 ^ st.length
  | [] => by decide
  | b :: r => by
    have h1 := enc_lt r
    have h2 := bN_le b
    show 2 * enc r + bN b < 2 ^ (r.length + 1)
    rw [Nat.pow_succ]; omega
theorem enc31 {st : List Bool} (h : st.length ≤ 30) : enc st < 2 ^ 30 := Nat.lt_of_lt_of_le (enc_lt st) (Nat.pow_le_pow_right (by decide) h)
theorem pt_top {b : Bool} {r : List Bool} (h : r.length ≤ 29) : nI (enc (b :: r)) &&& nI 1 = nI (bN b) := by
  have h1 := enc31 (st := b :: r) (show r.length + 1 ≤ 30 by omega)
  rw [i_and1 (by omega)]
  show nI ((2 * enc r + bN b) % 2) = _
  congr 1
  have := bN_le b
  omega
theorem pt_shr {b : Bool} {r : List Bool} (h : r.length ≤ 29) : nI (enc (b :: r)) >>> (nI 1 &&& 31) = nI (enc r) := by
  have h1 := enc31 (st := b :: r) (show r.length + 1 ≤ 30 by omega)
  rw [i_shr (by omega) (by decide)]
  show nI ((2 * enc r + bN b) / 2 ^ 1) = _
  congr 1
  have := bN_le b
  omega
theorem pt_not {b : Bool} {r : List Bool} : nI (enc (b :: r)) ^^^ nI 1 = nI (enc ((!b) :: r)) := by
  rw [i_xor]
  show nI ((2 * enc r + bN b) ^^^ 1) = _
  rw [xor_b]
  rfl
theorem pt_or {b x : Bool} {r : List Bool} : nI (enc (x :: r)) ||| nI (bN b) = nI (enc ((x || b) :: r)) := by
  rw [i_or]
  show nI ((2 * enc r + bN x) ||| bN b) = _
  rw [or_b]
  rfl
theorem tb32 : ∀ i, i < 32 → (4294967294 : Nat).testBit i = decide (i ≠ 0) := by decide +kernel
theorem m2or : ∀ b : Bool, -nI 2 ||| nI (bN b) = if b = true then -nI 1 else -nI 2 := by decide +kernel
theorem and_m1 (x : Int32) : x &&& -nI 1 = x := by
  apply Int32.toBitVec_inj.1
  show x.toBitVec &&& BitVec.allOnes 32 = x.toBitVec
  rw [BitVec.and_allOnes]
theorem and_m2 (m : Nat) (x : Bool) : nI (2 * m + bN x) &&& -nI 2 = nI (2 * m + bN false) := by
  rw [show -nI 2 = nI 4294967294 by decide +kernel]
  apply Int32.toBitVec_inj.1
  show BitVec.ofNat 32 (2 * m + bN x) &&& BitVec.ofNat 32 4294967294 = BitVec.ofNat 32 (2 * m + bN false)
  apply BitVec.eq_of_getLsbD_eq
  intro i hi
  rw [BitVec.getLsbD_and, BitVec.getLsbD_ofNat, BitVec.getLsbD_ofNat, BitVec.getLsbD_ofNat, tb32 i hi]
  cases i with
  | zero => rw [tb_0, tb_0]; cases x <;> rfl
  | succ i => rw [tb_s, tb_s]; simp [hi]
theorem pt_and {b x : Bool} {r : List Bool} : nI (enc (x :: r)) &&& (-nI 2 ||| nI (bN b)) = nI (enc ((x && b) :: r)) := by
  rw [m2or]
  cases b with
  | true => rw [if_pos rfl, and_m1, Bool.and_true]
  | false =>
    rw [if_neg (by decide), Bool.and_false]
    exact and_m2 _ _
theorem pt_push {st : List Bool} (b : Bool) (h : st.length ≤ 29) : nI (enc st) <<< (nI 1 &&& 31) ||| nI (bN b) = nI (enc (b :: st)) := by
  have h1 := enc31 (st := st) (by omega)
  rw [i_shl (by decide) (by omega), i_or]
  have := or_b (enc st) false b
  rw [show enc st * 2 ^ 1 = 2 * enc st + bN false by simp [bN]; omega, this]
  rfl
