/-! ===== the best: first of the greatest, two ways ===== -/
/-- an Int32 in small bounds -/
def bd (B : Int) (x : Int32) : Prop := -B ≤ x.toInt ∧ x.toInt ≤ B
theorem bd_add {A B : Int} {x y : Int32} (hx : bd A x) (hy : bd B y) (h : A + B ≤ 1000000) : (x + y).toInt = x.toInt + y.toInt ∧ bd (A + B) (x + y) := by
  obtain ⟨h1, h2⟩ := hx
  obtain ⟨h3, h4⟩ := hy
  have e : (x + y).toInt = x.toInt + y.toInt := by
    rw [Int32.toInt_add]
    exact Int.bmod_eq_of_le (by omega) (by omega)
  exact ⟨e, by unfold bd; rw [e]; omega⟩
theorem bd_nI {n : Nat} (h : n ≤ 1000000) : bd n (nI n) := by
  unfold bd
  rw [nI_toInt (by omega)]
  omega
theorem bd_neg {n : Nat} (h : n ≤ 1000000) : bd n (-nI n) := by
  unfold bd
  have e : (-nI n).toInt = -(n : Int) := by
    rw [Int32.toInt_neg, nI_toInt (by omega)]
    exact Int.bmod_eq_of_le (by omega) (by omega)
  rw [e]
  omega
theorem bd_mono {A B : Int} {x : Int32} (h : bd A x) (hab : A ≤ B) : bd B x := ⟨by have := h.1; omega, by have := h.2; omega⟩
theorem bd_0 {A : Int} (h : 0 ≤ A) : bd A 0 := by
  unfold bd
  rw [show (0 : Int32).toInt = 0 by decide]
  omega
theorem cl_bd (g : Gv) {w : Wk} (hw : wok w) (p c : Nat) : ∀ j, j ≤ w.length → bd (99 * (j : Int)) (clN g w p c j)
  | 0, _ => bd_0 (by omega)
  | j + 1, h => by
    have hm := (hw.2 _ (wkd_mem (w := w) (c := j) (by omega))).2.1
    have hl := hw.1
    have ih := cl_bd g hw p c j (by omega)
    rw [clN_s]
    have hs : bd 99 (if (wkd w j).1 < 2 ∧ evE g p c (wkd w j).2.2 = true then (if (wkd w j).1 = 0 then nI (wkd w j).2.1 else -nI (wkd w j).2.1) else 0) := by
      split
      · split
        · exact bd_mono (bd_nI (by omega)) (by omega)
        · exact bd_mono (bd_neg (by omega)) (by omega)
      · exact bd_0 (by decide)
    exact bd_mono (bd_add ih hs (by omega)).2 (by omega)
theorem mo_bd (g : Gv) {w : Wk} (hw : wok w) (p c : Nat) : bd 1010 (moS g w p c) := by
  have hl := hw.1
  have h1 := cl_bd g hw p c w.length (Nat.le_refl _)
  have hp := pcN_le (gh g c) 10
  unfold moS
  have h2 : bd 20 (nI 10 - nI (pcN (gh g c) 10)) := by
    rw [Int32.sub_eq_add_neg]
    exact bd_mono (bd_add (bd_nI (n := 10) (by decide)) (bd_neg (n := pcN (gh g c) 10) (by omega)) (by omega)).2 (by omega)
  exact bd_mono (bd_add h2 h1 (by omega)).2 (by omega)
theorem bd_half {A : Int} {x : Int32} (h : bd A x) (hA : A ≤ 1000000) : bd A (x / nI 2) := by
  obtain ⟨h1, h2⟩ := h
  unfold bd
  have e : (x / nI 2).toInt = x.toInt.tdiv 2 := by
    rw [Int32.toInt_div, nI_toInt (by decide)]
    show (x.toInt.tdiv 2).bmod (2 ^ 32) = _
    have h5 : (x.toInt.tdiv 2).natAbs = x.toInt.natAbs / 2 := Int.natAbs_tdiv x.toInt 2
    exact Int.bmod_eq_of_le (by omega) (by omega)
  have h5 : (x.toInt.tdiv 2).natAbs = x.toInt.natAbs / 2 := Int.natAbs_tdiv x.toInt 2
  rw [e]
  omega
theorem tm_bd {g : Gv} (hg : gwf g) {w : Wk} (hw : wok w) {p : Nat} (hp : p < gn g) (c : Nat) : bd 2000 (tmS g w p c) := by
  have hm := mo_bd g hw p c
  have hv := (hg.2.1 p hp).2.1
  unfold tmS
  split
  · split
    · exact bd_mono hm (by decide)
    · exact bd_mono (bd_add hm (bd_nI (n := gv g p) (by omega)) (by omega)).2 (by omega)
  · split
    · exact bd_mono (bd_half hm (by decide)) (by decide)
    · exact bd_mono hm (by decide)
/-! first of the greatest among the free -/
def fbL (v : Nat → Int) (u : Nat) : Nat → Option Nat
  | 0 => none
  | j + 1 => match fbL v u j with
    | none => if u.testBit j = true then none else some j
    | some f => if u.testBit j = true then some f else if v f < v j then some j else some f
theorem fbL_ok (v : Nat → Int) (u : Nat) : ∀ j, (∀ f, fbL v u j = some f → f < j ∧ ¬ u.testBit f = true ∧ (∀ c, c < j → ¬ u.testBit c = true → v c ≤ v f) ∧ (∀ c, c < f → ¬ u.testBit c = true → v c < v f)) ∧ (fbL v u j = none → ∀ c, c < j → u.testBit c = true)
  | 0 => ⟨fun f h => (by cases h), fun _ c hc => absurd hc (Nat.not_lt_zero _)⟩
  | j + 1 => by
    obtain ⟨i1, i2⟩ := fbL_ok v u j
    unfold fbL
    cases hj : fbL v u j with
    | none =>
      have i3 := i2 hj
      show (∀ f, (if u.testBit j = true then none else some j) = some f → _) ∧ ((if u.testBit j = true then none else some j) = none → _)
      by_cases hb : u.testBit j = true
      · rw [if_pos hb]
        refine ⟨fun f h => (by cases h), fun _ c hc => ?_⟩
        by_cases e : c = j
        · rw [e]; exact hb
        · exact i3 c (by omega)
      · rw [if_neg hb]
        refine ⟨fun f h => ?_, fun h => by cases h⟩
        obtain rfl : j = f := Option.some.inj h
        refine ⟨Nat.lt_succ_self _, hb, fun c hc hcb => ?_, fun c hc hcb => absurd (i3 c hc) hcb⟩
        by_cases e : c = j
        · rw [e]; exact Int.le_refl _
        · exact absurd (i3 c (by omega)) hcb
    | some f0 =>
      obtain ⟨k1, k2, k3, k4⟩ := i1 f0 hj
      show (∀ f, (if u.testBit j = true then some f0 else if v f0 < v j then some j else some f0) = some f → _) ∧ ((if u.testBit j = true then some f0 else if v f0 < v j then some j else some f0) = none → _)
      by_cases hb : u.testBit j = true
      · rw [if_pos hb]
        refine ⟨fun f h => ?_, fun h => by cases h⟩
        obtain rfl : f0 = f := Option.some.inj h
        refine ⟨by omega, k2, fun c hc hcb => ?_, k4⟩
        by_cases e : c = j
        · rw [e] at hcb; exact absurd hb hcb
        · exact k3 c (by omega) hcb
      · rw [if_neg hb]
        by_cases hv : v f0 < v j
        · rw [if_pos hv]
          refine ⟨fun f h => ?_, fun h => by cases h⟩
          obtain rfl : j = f := Option.some.inj h
          refine ⟨Nat.lt_succ_self _, hb, fun c hc hcb => ?_, fun c hc hcb => ?_⟩
          · by_cases e : c = j
            · rw [e]; exact Int.le_refl _
            · have := k3 c (by omega) hcb; omega
          · have := k3 c hc hcb; omega
        · rw [if_neg hv]
          refine ⟨fun f h => ?_, fun h => by cases h⟩
          obtain rfl : f0 = f := Option.some.inj h
          refine ⟨by omega, k2, fun c hc hcb => ?_, k4⟩
          by_cases e : c = j
          · rw [e]; omega
          · exact k3 c (by omega) hcb
def fbN (v : Nat → Int) (u n : Nat) : Nat := (fbL v u n).getD 0
theorem fbN_ok {v : Nat → Int} {u n c : Nat} (hc : c < n) (hb : ¬ u.testBit c = true) : fbN v u n < n ∧ ¬ u.testBit (fbN v u n) = true ∧ (∀ c, c < n → ¬ u.testBit c = true → v c ≤ v (fbN v u n)) ∧ (∀ c, c < fbN v u n → ¬ u.testBit c = true → v c < v (fbN v u n)) := by
  unfold fbN
  cases h : fbL v u n with
  | none => exact absurd ((fbL_ok v u n).2 h c hc) hb
  | some f => exact (fbL_ok v u n).1 f h
/-- the greatest sum of the last k workers, when u is given -/
def gz (T : Nat → Nat → Int) (n : Nat) : Nat → Nat → Int
  | 0, _ => 0
  | k + 1, u => T (n - (k + 1)) (fbN (fun c => T (n - (k + 1)) c + gz T n k (u ||| 2 ^ c)) u n) + gz T n k (u ||| 2 ^ (fbN (fun c => T (n - (k + 1)) c + gz T n k (u ||| 2 ^ c)) u n))
def vz (T : Nat → Nat → Int) (n k u c : Nat) : Int := T (n - (k + 1)) c + gz T n k (u ||| 2 ^ c)
theorem gz_s (T : Nat → Nat → Int) (n k u : Nat) : gz T n (k + 1) u = vz T n k u (fbN (vz T n k u) u n) := rfl
theorem gz_bd {T : Nat → Nat → Int} {n : Nat} (hT : ∀ p c, p < n → c < n → -2000 ≤ T p c ∧ T p c ≤ 2000) (h0 : 0 < n) : ∀ k, k ≤ n → ∀ u, -(2000 * (k : Int)) ≤ gz T n k u ∧ gz T n k u ≤ 2000 * (k : Int)
  | 0, _, _ => ⟨by show -(2000 * (0 : Int)) ≤ 0; omega, by show (0 : Int) ≤ 2000 * 0; omega⟩
  | k + 1, h, u => by
    rw [gz_s]
    have hf : fbN (vz T n k u) u n < n := by
      unfold fbN
      cases h : fbL (vz T n k u) u n with
      | none => exact h0
      | some f => exact ((fbL_ok _ u n).1 f h).1
    have h1 := hT (n - (k + 1)) _ (by omega) hf
    have h2 := gz_bd hT h0 k (by omega) (u ||| 2 ^ (fbN (vz T n k u) u n))
    unfold vz at h1 h2 ⊢
    omega
/-! the tuples by numbers -/
def suf (T : Nat → Nat → Int) (n x : Nat) : Nat → Int
  | 0 => 0
  | r + 1 => T (n - (r + 1)) (dgt n x (n - (r + 1))) + suf T n x r
def vld (n x : Nat) : Prop := (∀ p, p < n → dgt n x p < n) ∧ (∀ p q, p < q → q < n → dgt n x p ≠ dgt n x q)
theorem tb_or {u c d : Nat} : (u ||| 2 ^ c).testBit d = true ↔ u.testBit d = true ∨ c = d := by
  rw [Nat.testBit_or, Nat.testBit_two_pow, Bool.or_eq_true, decide_eq_true_eq]
theorem suf_le {T : Nat → Nat → Int} {n x : Nat} (hv : vld n x) : ∀ r, r ≤ n → ∀ u, (∀ q, n - r ≤ q → q < n → ¬ u.testBit (dgt n x q) = true) → suf T n x r ≤ gz T n r u
  | 0, _, _, _ => Int.le_refl _
  | r + 1, h, u, hu => by
    have hc := hv.1 (n - (r + 1)) (by omega)
    have hb := hu (n - (r + 1)) (by omega) (by omega)
    have ih := suf_le (T := T) hv r (by omega) (u ||| 2 ^ (dgt n x (n - (r + 1)))) (fun q h1 h2 z => by
      rcases tb_or.mp z with z | z
      · exact hu q (by omega) h2 z
      · exact hv.2 (n - (r + 1)) q (by omega) h2 z)
    have hm := (fbN_ok (v := vz T n r u) hc hb).2.2.1 _ hc hb
    rw [gz_s]
    show T _ _ + suf T n x r ≤ _
    have e : vz T n r u (dgt n x (n - (r + 1))) = T (n - (r + 1)) (dgt n x (n - (r + 1))) + gz T n r (u ||| 2 ^ (dgt n x (n - (r + 1)))) := rfl
    omega
/-- the class's choice -/
def gu (T : Nat → Nat → Int) (n : Nat) : Nat → Nat
  | 0 => 0
  | p + 1 => gu T n p ||| 2 ^ (fbN (vz T n (n - (p + 1)) (gu T n p)) (gu T n p) n)
def ccS (T : Nat → Nat → Int) (n p : Nat) : Nat := fbN (vz T n (n - (p + 1)) (gu T n p)) (gu T n p) n
theorem gu_s (T : Nat → Nat → Int) (n p : Nat) : gu T n (p + 1) = gu T n p ||| 2 ^ ccS T n p := rfl
theorem gu_tb (T : Nat → Nat → Int) (n : Nat) : ∀ p c, (gu T n p).testBit c = true ↔ ∃ q, q < p ∧ ccS T n q = c
  | 0, c => by
    show (0 : Nat).testBit c = true ↔ _
    rw [Nat.zero_testBit]
    exact ⟨fun z => (by cases z), fun ⟨q, h, _⟩ => absurd h (Nat.not_lt_zero _)⟩
  | p + 1, c => by
    rw [gu_s, tb_or, gu_tb T n p c]
    constructor
    · rintro (⟨q, h1, h2⟩ | h)
      · exact ⟨q, by omega, h2⟩
      · exact ⟨p, Nat.lt_succ_self _, h⟩
    · rintro ⟨q, h1, h2⟩
      by_cases e : q = p
      · subst e; exact Or.inr h2
      · exact Or.inl ⟨q, by omega, h2⟩
/-- a free card is there while not all workers have one -/
theorem free_ex : ∀ n, n ≤ 6 → ∀ u, u < 64 → pcN u 10 < n → ∃ c, c < n ∧ ¬ u.testBit c = true := by decide +kernel
theorem pc_or : ∀ u, u < 64 → ∀ c, c < 6 → ¬ u.testBit c = true → pcN (u ||| 2 ^ c) 10 = pcN u 10 + 1 ∧ u < u ||| 2 ^ c ∧ u ||| 2 ^ c < 64 := by decide +kernel
theorem orb_lt : ∀ n, n ≤ 6 → ∀ u, u < 2 ^ n → ∀ c, c < n → u ||| 2 ^ c < 2 ^ n := by decide +kernel
theorem pc_lt : ∀ n, n ≤ 6 → ∀ u, u < 2 ^ n → (pcN u 10 ≤ n ∧ (u + 1 < 2 ^ n → pcN u 10 < n) ∧ (u + 1 = 2 ^ n → pcN u 10 = n)) := by decide +kernel
theorem gu_ok {T : Nat → Nat → Int} {n : Nat} (h6 : n ≤ 6) : ∀ p, p ≤ n → gu T n p < 2 ^ n ∧ pcN (gu T n p) 10 = p
  | 0, _ => ⟨Nat.two_pow_pos n, by show pcN 0 10 = 0; decide⟩
  | p + 1, h => by
    obtain ⟨h1, h2⟩ := gu_ok (T := T) h6 p (by omega)
    have h64 : gu T n p < 64 := Nat.lt_of_lt_of_le h1 (Nat.pow_le_pow_right (n := 2) (by decide) h6)
    obtain ⟨c, hc, hb⟩ := free_ex n h6 _ h64 (by omega)
    obtain ⟨f1, f2, f3, f4⟩ := fbN_ok (v := vz T n (n - (p + 1)) (gu T n p)) hc hb
    rw [gu_s]
    exact ⟨orb_lt n h6 _ h1 _ f1, by rw [(pc_or _ h64 (ccS T n p) (Nat.lt_of_lt_of_le f1 h6) f2).1, h2]⟩
theorem cc_ok {T : Nat → Nat → Int} {n : Nat} (h6 : n ≤ 6) {p : Nat} (hp : p < n) : ccS T n p < n ∧ ¬ (gu T n p).testBit (ccS T n p) = true ∧ (∀ c, c < n → ¬ (gu T n p).testBit c = true → vz T n (n - (p + 1)) (gu T n p) c ≤ vz T n (n - (p + 1)) (gu T n p) (ccS T n p)) ∧ (∀ c, c < ccS T n p → ¬ (gu T n p).testBit c = true → vz T n (n - (p + 1)) (gu T n p) c < vz T n (n - (p + 1)) (gu T n p) (ccS T n p)) := by
  obtain ⟨h1, h2⟩ := gu_ok (T := T) h6 p (by omega)
  have h64 : gu T n p < 64 := Nat.lt_of_lt_of_le h1 (Nat.pow_le_pow_right (n := 2) (by decide) h6)
  obtain ⟨c, hc, hb⟩ := free_ex n h6 _ h64 (by omega)
  exact fbN_ok hc hb
def bst (T : Nat → Nat → Int) (n : Nat) : Nat → Nat
  | 0 => 0
  | p + 1 => 6 * bst T n p + ccS T n p
theorem bst_div {T : Nat → Nat → Int} {n : Nat} (h6 : n ≤ 6) : ∀ r p, p + r ≤ n → bst T n (p + r) / 6 ^ r = bst T n p
  | 0, p, _ => by rw [Nat.pow_zero, Nat.div_one]; rfl
  | r + 1, p, h => by
    have hc := (cc_ok (T := T) h6 (p := p + r) (by omega)).1
    show (6 * bst T n (p + r) + ccS T n (p + r)) / 6 ^ (r + 1) = _
    rw [Nat.pow_succ', ← Nat.div_div_eq_div_mul, show (6 * bst T n (p + r) + ccS T n (p + r)) / 6 = bst T n (p + r) by omega]
    exact bst_div h6 r p (by omega)
theorem bst_dgt {T : Nat → Nat → Int} {n : Nat} (h6 : n ≤ 6) {p : Nat} (hp : p < n) : dgt n (bst T n n) p = ccS T n p := by
  have hc := (cc_ok (T := T) h6 hp).1
  unfold dgt
  have := bst_div (T := T) h6 (n - 1 - p) (p + 1) (by omega)
  rw [show p + 1 + (n - 1 - p) = n by omega] at this
  rw [this]
  show (6 * bst T n p + ccS T n p) % 6 = _
  omega
theorem bst_vld {T : Nat → Nat → Int} {n : Nat} (h6 : n ≤ 6) : vld n (bst T n n) := by
  refine ⟨fun p hp => by rw [bst_dgt h6 hp]; exact (cc_ok h6 hp).1, fun p q h1 h2 => ?_⟩
  rw [bst_dgt h6 (by omega), bst_dgt h6 h2]
  intro e
  exact (cc_ok (T := T) h6 h2).2.1 ((gu_tb T n q _).mpr ⟨p, h1, e⟩)
theorem bst_lt {T : Nat → Nat → Int} {n : Nat} (h6 : n ≤ 6) : ∀ p, p ≤ n → bst T n p < 6 ^ p
  | 0, _ => by show 0 < 6 ^ 0; decide
  | p + 1, h => by
    have hc := (cc_ok (T := T) h6 (p := p) (by omega)).1
    have ih := bst_lt (T := T) h6 p (by omega)
    show 6 * bst T n p + ccS T n p < 6 ^ (p + 1)
    rw [Nat.pow_succ']
    omega
theorem dgt_div {n x p : Nat} (hp : p < n) : x / 6 ^ (n - (p + 1)) = 6 * (x / 6 ^ (n - p)) + dgt n x p := by
  unfold dgt
  rw [show n - 1 - p = n - (p + 1) by omega, show n - p = n - (p + 1) + 1 by omega, Nat.pow_succ, ← Nat.div_div_eq_div_mul]
  omega
theorem dgt_pre {n : Nat} {x y : Nat} : ∀ d p, p + d ≤ n → x / 6 ^ (n - (p + d)) = y / 6 ^ (n - (p + d)) → x / 6 ^ (n - p) = y / 6 ^ (n - p)
  | 0, p, _, h => h
  | d + 1, p, hp, h => by
    refine dgt_pre d p (by omega) ?_
    have e1 := dgt_div (n := n) (x := x) (p := p + d) (by omega)
    have e2 := dgt_div (n := n) (x := y) (p := p + d) (by omega)
    have h' : x / 6 ^ (n - (p + d + 1)) = y / 6 ^ (n - (p + d + 1)) := h
    have l1 : dgt n x (p + d) < 6 := Nat.mod_lt _ (by decide)
    have l2 : dgt n y (p + d) < 6 := Nat.mod_lt _ (by decide)
    omega
theorem dgt_eq {n x y p q : Nat} (hp : p ≤ n) (h : x / 6 ^ (n - p) = y / 6 ^ (n - p)) (hq : q < p) : dgt n x q = dgt n y q := by
  have h1 := dgt_pre (n := n) (x := x) (y := y) (p - (q + 1)) (q + 1) (by omega) (by rw [show q + 1 + (p - (q + 1)) = p by omega]; exact h)
  have e1 := dgt_div (n := n) (x := x) (p := q) (by omega)
  have e2 := dgt_div (n := n) (x := y) (p := q) (by omega)
  have l1 : dgt n x q < 6 := Nat.mod_lt _ (by decide)
  have l2 : dgt n y q < 6 := Nat.mod_lt _ (by decide)
  omega
theorem best_main {T : Nat → Nat → Int} {n : Nat} (h6 : n ≤ 6) {x : Nat} (hv : vld n x) : ∀ r, r ≤ n → x / 6 ^ r = bst T n (n - r) → suf T n x r ≤ gz T n r (gu T n (n - r)) ∧ (x < bst T n n → suf T n x r < gz T n r (gu T n (n - r)))
  | 0, _, h => by
    rw [Nat.pow_zero, Nat.div_one] at h
    exact ⟨Int.le_refl _, fun z => absurd z (by rw [h]; exact Nat.lt_irrefl _)⟩
  | r + 1, hr, h => by
    obtain ⟨p, hp⟩ : ∃ p, p = n - (r + 1) := ⟨_, rfl⟩
    have er : r = n - (p + 1) := by omega
    have er1 : r + 1 = n - p := by omega
    rw [← hp] at h ⊢
    have hpn : p < n := by omega
    obtain ⟨c1, c2, c3, c4⟩ := cc_ok (T := T) h6 hpn
    have ex := dgt_div (n := n) (x := x) hpn
    have eb := dgt_div (n := n) (x := bst T n n) hpn
    rw [← er, ← er1] at ex eb
    have hbd : bst T n n / 6 ^ (r + 1) = bst T n p := by
      have := bst_div (T := T) h6 (r + 1) p (by omega)
      rw [show p + (r + 1) = n by omega] at this
      exact this
    rw [h] at ex
    rw [hbd, bst_dgt h6 hpn] at eb
    have hxd := hv.1 p hpn
    have hsuf : suf T n x (r + 1) = T p (dgt n x p) + suf T n x r := by rw [suf, ← hp]
    have hgz : gz T n (r + 1) (gu T n p) = vz T n r (gu T n p) (ccS T n p) := by
      rw [gz_s]
      unfold ccS
      rw [← er]
    have hvz : ∀ c, vz T n r (gu T n p) c = T p c + gz T n r (gu T n p ||| 2 ^ c) := fun c => by unfold vz; rw [← hp]
    rw [← er] at c3 c4
    rw [hsuf, hgz]
    have hdig : ∀ q, q < p → dgt n x q = ccS T n q := fun q hq => by
      rw [dgt_eq (y := bst T n n) (p := p) (by omega) (by rw [← er1, h, hbd]) hq, bst_dgt h6 (by omega)]
    by_cases hc : dgt n x p = ccS T n p
    · have ih := best_main (T := T) h6 hv r (by omega) (by rw [ex, hc, show n - r = p + 1 by omega]; rfl)
      rw [show n - r = p + 1 by omega, gu_s] at ih
      rw [hvz, hc]
      exact ⟨by have := ih.1; omega, fun z => by have := ih.2 z; omega⟩
    · have hfree : ¬ (gu T n p).testBit (dgt n x p) = true := fun z => by
        obtain ⟨q, q1, q2⟩ := (gu_tb T n p _).mp z
        exact hv.2 q p q1 hpn (by rw [hdig q q1]; exact q2)
      have hU := suf_le (T := T) hv r (by omega) (gu T n p ||| 2 ^ dgt n x p) (fun q h1 h2 z => by
        rcases tb_or.mp z with z | z
        · obtain ⟨q', q1, q2⟩ := (gu_tb T n p _).mp z
          exact hv.2 q' q (by omega) h2 (by rw [hdig q' q1]; exact q2)
        · exact hv.2 p q (by omega) h2 z)
      have hle := c3 _ hxd hfree
      rw [hvz (dgt n x p)] at hle
      refine ⟨by omega, fun z => ?_⟩
      have hlt : dgt n x p < ccS T n p := by
        have : x / 6 ^ r ≤ bst T n n / 6 ^ r := Nat.div_le_div_right (Nat.le_of_lt z)
        omega
      have := c4 _ hlt hfree
      rw [hvz (dgt n x p)] at this
      omega
theorem best_sum {T : Nat → Nat → Int} {n : Nat} (h6 : n ≤ 6) : ∀ r, r ≤ n → suf T n (bst T n n) r = gz T n r (gu T n (n - r))
  | 0, _ => rfl
  | r + 1, hr => by
    have ih := best_sum (T := T) h6 r (by omega)
    rw [suf, bst_dgt h6 (by omega), gz_s, ih, show n - r = n - (r + 1) + 1 by omega, gu_s]
    have e : fbN (vz T n r (gu T n (n - (r + 1)))) (gu T n (n - (r + 1))) n = ccS T n (n - (r + 1)) := by
      unfold ccS
      rw [show n - (n - (r + 1) + 1) = r by omega]
    rw [e]
    rfl
