/-! ===== the best: the two searches agree ===== -/
theorem layB_iff (n : Nat) : ∀ q r u, layB n q r u = true ↔ (∀ j, j < q → r / 6 ^ j % 6 < n ∧ ¬ u.testBit (r / 6 ^ j % 6) = true) ∧ (∀ i j, i < j → j < q → r / 6 ^ i % 6 ≠ r / 6 ^ j % 6)
  | 0, _, _ => ⟨fun _ => ⟨fun _ h => absurd h (Nat.not_lt_zero _), fun _ _ _ h => absurd h (Nat.not_lt_zero _)⟩, fun _ => rfl⟩
  | q + 1, r, u => by
    have es : ∀ j, r / 6 / 6 ^ j = r / 6 ^ (j + 1) := fun j => by rw [Nat.div_div_eq_div_mul, ← Nat.pow_succ']
    have e0 : r / 6 ^ 0 = r := by rw [Nat.pow_zero, Nat.div_one]
    rw [layB_s]
    constructor
    · intro h
      split at h
      · rename_i hc
        obtain ⟨i1, i2⟩ := (layB_iff n q (r / 6) _).mp h
        refine ⟨fun j hj => ?_, fun i j hij hj => ?_⟩
        · cases j with
          | zero => rw [e0]; exact hc
          | succ j =>
            have := i1 j (by omega)
            rw [es, tb_or] at this
            exact ⟨this.1, fun z => this.2 (Or.inl z)⟩
        · cases j with
          | zero => omega
          | succ j =>
            cases i with
            | zero =>
              have := (i1 j (by omega)).2
              rw [es, tb_or] at this
              rw [e0]
              exact fun z => this (Or.inr z)
            | succ i =>
              have := i2 i j (by omega) (by omega)
              rw [es, es] at this
              exact this
      · cases h
    · rintro ⟨h1, h2⟩
      have h0 := h1 0 (by omega)
      rw [e0] at h0
      rw [if_pos h0]
      refine (layB_iff n q (r / 6) _).mpr ⟨fun j hj => ?_, fun i j hij hj => ?_⟩
      · have := h1 (j + 1) (by omega)
        rw [es, tb_or]
        refine ⟨this.1, fun z => z.elim this.2 (fun z => ?_)⟩
        have := h2 0 (j + 1) (by omega) (by omega)
        rw [e0] at this
        exact this z
      · rw [es, es]
        exact h2 (i + 1) (j + 1) (by omega) (by omega)
theorem lay_vld {n k : Nat} : layB n n k 0 = true ↔ vld n k := by
  rw [layB_iff]
  unfold vld dgt
  constructor
  · rintro ⟨h1, h2⟩
    exact ⟨fun p hp => (h1 (n - 1 - p) (by omega)).1, fun p q h3 h4 => (h2 (n - 1 - q) (n - 1 - p) (by omega) (by omega)).symm⟩
  · rintro ⟨h1, h2⟩
    refine ⟨fun j hj => ⟨?_, by rw [Nat.zero_testBit]; exact Bool.false_ne_true⟩, fun i j h3 h4 => ?_⟩
    · have := h1 (n - 1 - j) (by omega)
      rw [show n - 1 - (n - 1 - j) = j by omega] at this
      exact this
    · have := h2 (n - 1 - j) (n - 1 - i) (by omega) (by omega)
      rw [show n - 1 - (n - 1 - j) = j by omega, show n - 1 - (n - 1 - i) = i by omega] at this
      exact this.symm
def tZ (τ : Nat → Nat → Int32) (p c : Nat) : Int := (τ p c).toInt
theorem smL_ok {τ : Nat → Nat → Int32} {n : Nat} (h6 : n ≤ 6) (hT : ∀ p c, p < n → bd 2000 (τ p c)) (k : Nat) : ∀ j, j ≤ n → (smL τ n k j).toInt + suf (tZ τ) n k (n - j) = suf (tZ τ) n k n ∧ bd (2000 * (j : Int)) (smL τ n k j)
  | 0, _ => by
    refine ⟨?_, ?_⟩
    · show (nI 0).toInt + _ = _
      rw [show (nI 0).toInt = 0 by decide, Int.zero_add]
      rfl
    · exact bd_0 (by omega)
  | j + 1, h => by
    obtain ⟨i1, i2⟩ := smL_ok h6 hT k j (by omega)
    have ht := hT j (dgt n k j) (by omega)
    obtain ⟨b1, b2⟩ := bd_add i2 ht (by omega)
    refine ⟨?_, bd_mono b2 (by omega)⟩
    show (smL τ n k j + τ j (dgt n k j)).toInt + _ = _
    rw [b1, ← i1]
    have e : n - j = (n - (j + 1)) + 1 := by omega
    rw [e, suf, show n - (n - (j + 1) + 1) = j by omega]
    show _ + (τ j (dgt n k j)).toInt + _ = _ + ((τ j (dgt n k j)).toInt + _)
    omega
theorem smL_suf {τ : Nat → Nat → Int32} {n : Nat} (h6 : n ≤ 6) (hT : ∀ p c, p < n → bd 2000 (τ p c)) (k : Nat) : (smL τ n k n).toInt = suf (tZ τ) n k n := by
  have := (smL_ok h6 hT k n (Nat.le_refl _)).1
  rw [Nat.sub_self] at this
  have e : suf (tZ τ) n k 0 = 0 := rfl
  omega
theorem bfL_ok (τ : Nat → Nat → Int32) (n : Nat) : ∀ A, (bfL τ n A = none → ∀ k, k < A → ¬ layB n n k 0 = true) ∧ (∀ m b, bfL τ n A = some (m, b) → b < A ∧ layB n n b 0 = true ∧ m = smL τ n b n ∧ (∀ k, k < A → layB n n k 0 = true → (smL τ n k n).toInt ≤ m.toInt) ∧ (∀ k, k < b → layB n n k 0 = true → (smL τ n k n).toInt < m.toInt))
  | 0 => ⟨fun _ k hk => absurd hk (Nat.not_lt_zero _), fun m b h => (by cases h)⟩
  | A + 1 => by
    obtain ⟨i1, i2⟩ := bfL_ok τ n A
    rw [bfL_s]
    by_cases hv : layB n n A 0 = true
    · rw [if_pos hv]
      cases hb : bfL τ n A with
      | none =>
        have i3 := i1 hb
        refine ⟨fun h => (by cases h), fun m b h => ?_⟩
        obtain ⟨rfl, rfl⟩ := Prod.mk.inj (Option.some.inj (show some (smL τ n A n, A) = some (m, b) from h))
        refine ⟨Nat.lt_succ_self _, hv, rfl, fun k hk hk2 => ?_, fun k hk hk2 => absurd hk2 (i3 k hk)⟩
        by_cases e : k = A
        · rw [e]; exact Int.le_refl _
        · exact absurd hk2 (i3 k (by omega))
      | some z =>
        obtain ⟨m0, b0⟩ := z
        obtain ⟨k1, k2, k3, k4, k5⟩ := i2 m0 b0 hb
        show ((if m0 < smL τ n A n then some (smL τ n A n, A) else some (m0, b0)) = none → _) ∧ ∀ m b, (if m0 < smL τ n A n then some (smL τ n A n, A) else some (m0, b0)) = some (m, b) → _
        by_cases hlt : m0 < smL τ n A n
        · rw [if_pos hlt]
          rw [Int32.lt_iff_toInt_lt] at hlt
          refine ⟨fun h => (by cases h), fun m b h => ?_⟩
          obtain ⟨rfl, rfl⟩ := Prod.mk.inj (Option.some.inj h)
          refine ⟨Nat.lt_succ_self _, hv, rfl, fun k hk hk2 => ?_, fun k hk hk2 => ?_⟩
          · by_cases e : k = A
            · rw [e]; exact Int.le_refl _
            · have := k4 k (by omega) hk2; omega
          · have := k4 k hk hk2; omega
        · rw [if_neg hlt]
          rw [Int32.lt_iff_toInt_lt] at hlt
          refine ⟨fun h => (by cases h), fun m b h => ?_⟩
          obtain ⟨rfl, rfl⟩ := Prod.mk.inj (Option.some.inj h)
          refine ⟨by omega, k2, k3, fun k hk hk2 => ?_, k5⟩
          by_cases e : k = A
          · rw [e]; omega
          · exact k4 k (by omega) hk2
    · rw [if_neg hv]
      refine ⟨fun h k hk => ?_, fun m b h => ?_⟩
      · by_cases e : k = A
        · rw [e]; exact hv
        · exact i1 h k (by omega)
      · obtain ⟨k1, k2, k3, k4, k5⟩ := i2 m b h
        refine ⟨by omega, k2, k3, fun k hk hk2 => ?_, k5⟩
        by_cases e : k = A
        · rw [e] at hk2; exact absurd hk2 hv
        · exact k4 k (by omega) hk2
theorem best_eq {τ : Nat → Nat → Int32} {n : Nat} (h6 : n ≤ 6) (hT : ∀ p c, p < n → bd 2000 (τ p c)) : ∃ m, bfL τ n (6 ^ n) = some (m, bst (tZ τ) n n) ∧ m.toInt = gz (tZ τ) n n 0 := by
  have hbv : layB n n (bst (tZ τ) n n) 0 = true := lay_vld.mpr (bst_vld h6)
  have hbl := bst_lt (T := tZ τ) h6 n (Nat.le_refl _)
  have hbs : (smL τ n (bst (tZ τ) n n) n).toInt = gz (tZ τ) n n 0 := by
    rw [smL_suf h6 hT, best_sum h6 n (Nat.le_refl _), Nat.sub_self]
    rfl
  obtain ⟨i1, i2⟩ := bfL_ok τ n (6 ^ n)
  cases hb : bfL τ n (6 ^ n) with
  | none => exact absurd hbv (i1 hb _ hbl)
  | some z =>
    obtain ⟨m, b⟩ := z
    obtain ⟨k1, k2, k3, k4, k5⟩ := i2 m b hb
    have hmn := fun k (hk : k < 6 ^ n) (hv : layB n n k 0 = true) => best_main (T := tZ τ) h6 (lay_vld.mp hv) n (Nat.le_refl _) (by rw [Nat.sub_self, Nat.div_eq_of_lt hk]; rfl)
    rw [Nat.sub_self] at hmn
    have eb : b = bst (tZ τ) n n := by
      rcases Nat.lt_trichotomy b (bst (tZ τ) n n) with h | h | h
      · have h1 := (hmn b k1 k2).2 h
        have h2 := k4 _ hbl hbv
        rw [hbs, k3, smL_suf h6 hT] at h2
        have h3 : suf (tZ τ) n b n < gz (tZ τ) n n 0 := h1
        omega
      · exact h
      · have h1 := (hmn b k1 k2).1
        have h2 := k5 _ h hbv
        rw [hbs, k3, smL_suf h6 hT] at h2
        have h3 : suf (tZ τ) n b n ≤ gz (tZ τ) n n 0 := h1
        omega
    subst eb
    exact ⟨m, rfl, by rw [k3]; exact hbs⟩
/-! the class's search -/
theorem bit_z : ∀ u, u < 64 → ∀ c, c < 6 → (nI u >>> (nI c &&& 31) &&& nI 1 = 0 ↔ ¬ u.testBit c = true) := by decide +kernel
def fI : Option Nat → Int32
  | none => -nI 1
  | some f => nI f
theorem fbL_s (v : Nat → Int) (u j : Nat) : fbL v u (j + 1) = match fbL v u j with
    | none => if u.testBit j = true then none else some j
    | some f => if u.testBit j = true then some f else if v f < v j then some j else some f := rfl
theorem fb_n1 {v : Nat → Int} {u c : Nat} (h : fbL v u c = none) (hb : u.testBit c = true) : -nI 1 = fI (fbL v u (c + 1)) := by
  rw [fbL_s, h]
  show _ = fI (if u.testBit c = true then none else some c)
  rw [if_pos hb]
  rfl
theorem fb_n2 {v : Nat → Int} {u c : Nat} (h : fbL v u c = none) (hb : ¬ u.testBit c = true) : nI c = fI (fbL v u (c + 1)) := by
  rw [fbL_s, h]
  show _ = fI (if u.testBit c = true then none else some c)
  rw [if_neg hb]
  rfl
theorem fb_s1 {v : Nat → Int} {u c f : Nat} (h : fbL v u c = some f) (hb : u.testBit c = true) : nI f = fI (fbL v u (c + 1)) := by
  rw [fbL_s, h]
  show _ = fI (if u.testBit c = true then some f else if v f < v c then some c else some f)
  rw [if_pos hb]
  rfl
theorem fb_s2 {v : Nat → Int} {u c f : Nat} (h : fbL v u c = some f) (hb : ¬ u.testBit c = true) (hv : v f < v c) : nI c = fI (fbL v u (c + 1)) := by
  rw [fbL_s, h]
  show _ = fI (if u.testBit c = true then some f else if v f < v c then some c else some f)
  rw [if_neg hb, if_pos hv]
  rfl
theorem fb_s3 {v : Nat → Int} {u c f : Nat} (h : fbL v u c = some f) (hb : ¬ u.testBit c = true) (hv : ¬ v f < v c) : nI f = fI (fbL v u (c + 1)) := by
  rw [fbL_s, h]
  show _ = fI (if u.testBit c = true then some f else if v f < v c then some c else some f)
  rw [if_neg hb, if_neg hv]
  rfl
/-- what lies in the class's tables, for all above u -/
def tbl (τ : Nat → Nat → Int32) (n u : Nat) (I : Nat → Nat → Int32) : Prop := (∀ p c, p < n → c < n → I 209 (6 * p + c) = τ p c) ∧ ∀ v, u < v → v < 2 ^ n → (I 210 v).toInt = gz (tZ τ) n (n - pcN v 10) v
theorem tZ_bd {τ : Nat → Nat → Int32} {n : Nat} (hT : ∀ p c, p < n → bd 2000 (τ p c)) : ∀ p c, p < n → c < n → -2000 ≤ tZ τ p c ∧ tZ τ p c ≤ 2000 := fun p c hp _ => hT p c hp
theorem c_X_with (E : zE) (K N : Nat → Nat) (Rf : Nat → Nat → Option Nat) (I : Nat → Nat → Int32) (L : Nat → Nat → Int64) {τ : Nat → Nat → Int32} {n : Nat} (h6 : n ≤ 6) (hT : ∀ p c, p < n → bd 2000 (τ p c)) {u : Nat} (hu : u + 1 < 2 ^ n) (ht : tbl τ n u I) {c : Nat} (hc : c < n) (hb : ¬ u.testBit c = true) : zCt E mX11_with 1 0 0 (sg K N Rf I L) [.ref 200, .int (nI u), .int (nI c)] (fun r σ' => σ' = (sg K N Rf I L) ∧ ∃ x : Int32, r = some (.int x) ∧ x.toInt = vz (tZ τ) n (n - (pcN u 10 + 1)) u c) := by
  have h64 : 2 ^ n ≤ 64 := Nat.pow_le_pow_right (n := 2) (by decide) h6
  have hpl := (pc_lt n h6 u (by omega)).2.1 hu
  have hor := pc_or u (by omega) c (by omega) hb
  have hol := orb_lt n h6 u (by omega) c hc
  refine z_intro (by decide) (Nat.le_of_ble_eq_true rfl) (fun X hX => ?_)
  refine bk hX lkX11_ok (pc' := 1) [.iload_n 1] (by decide +kernel) (And.intro trivial ?_)
  refine z_callS hX kw_X11_188 (c_J_bitCount E _ (h := u) (by omega)) rfl rfl (by decide +kernel) (by decide) (by decide) (by decide) (by decide) (Nat.le_of_ble_eq_true rfl) ?_
  rintro _ _ ⟨rfl, rfl⟩
  refine bk hX lkX11_ok (pc' := 27) [.istore_n 3, .aload_n 0, .getfield 35, .bipush 6, .iload_n 3, .imul, .iload_n 2, .iadd, .iaload, .aload_n 0, .getfield 39, .iload_n 1, .iconst 1, .iload_n 2, .ishl, .ior, .iaload, .iadd] (by decide +kernel) (And.intro (by rw [show nI 6 * nI (pcN u 10) = nI (6 * pcN u 10) from pk_mul _ _, nI_add]; exact vin 36 (by omega)) (And.intro (by rw [i_1shl (by omega), i_or]; exact vin 64 hor.2.2) (And.intro trivial ?_)))
  exact z_iret hX (by decide +kernel) rfl (rfl) (by decide) (by decide) (by
  refine ⟨rfl, _, rfl, ?_⟩
  rw [show nI 6 * nI (pcN u 10) = nI (6 * pcN u 10) from pk_mul _ _, nI_add, i_1shl (by omega), i_or, cl (by omega), cl (by omega)]
  show (I 209 (6 * pcN u 10 + c) + I 210 (u ||| 2 ^ c)).toInt = _
  have e1 := ht.1 (pcN u 10) c (by omega) hc
  have e2 := ht.2 (u ||| 2 ^ c) hor.2.1 hol
  rw [hor.1] at e2
  have b1 := hT (pcN u 10) c (by omega)
  have b2 := gz_bd (tZ_bd hT) (by omega) (n - (pcN u 10 + 1)) (by omega) (u ||| 2 ^ c)
  rw [e1]
  have b3 : bd (2000 * ((n - (pcN u 10 + 1) : Nat) : Int)) (I 210 (u ||| 2 ^ c)) := by
    unfold bd
    rw [e2]
    exact b2
  rw [(bd_add b1 b3 (by omega)).1, e2]
  unfold vz
  rw [show n - (n - (pcN u 10 + 1) + 1) = pcN u 10 by omega]
  rfl)
theorem fmx (o : Option Nat) (h : ∀ f, o = some f → f < 2 ^ 31) : (if fI o < nI 0 then nI 0 else fI o) = nI (o.getD 0) := by
  cases o with
  | none => decide
  | some f =>
    show (if nI f < nI 0 then nI 0 else nI f) = nI f
    exact if_neg (nI_nn (h f rfl))
theorem c_X_firstBest (E : zE) (K N : Nat → Nat) (Rf : Nat → Nat → Option Nat) (I : Nat → Nat → Int32) (L : Nat → Nat → Int64) {τ : Nat → Nat → Int32} {n : Nat} (h6 : n ≤ 6) (hT : ∀ p c, p < n → bd 2000 (τ p c)) {u : Nat} (hu : u + 1 < 2 ^ n) (ht : tbl τ n u I) (hn : I 300 4 = nI n) : zCt E mX11_firstBest 2 0 0 (sg K N Rf I L) [.ref 200, .int (nI u)] (fun r σ' => σ' = (sg K N Rf I L) ∧ r = some (.int (nI (fbN (vz (tZ τ) n (n - (pcN u 10 + 1)) u) u n)))) := by
  have h64 : 2 ^ n ≤ 64 := Nat.pow_le_pow_right (n := 2) (by decide) h6
  refine z_intro (by decide) (Nat.le_of_ble_eq_true rfl) (fun X hX => ?_)
  have hl : ∀ m c (F : Int32), c + m = n → F = fI (fbL (vz (tZ τ) n (n - (pcN u 10 + 1)) u) u c) → zS X (sg K N Rf I L) 0 0 4 [(0, .ref 200), (1, .int (nI u)), (2, .int F), (3, .int (nI c))] [] := by
    intro m
    induction m with
    | zero =>
      intro c F hc hF
      obtain rfl : c = n := by omega
      refine bk hX lkX11_ok (pc' := 12) [.iload_n 3, .aload_n 0, .getfield 12, .getfield 65] (by decide +kernel) (And.intro trivial ?_)
      rw [show I 300 4 = nI c from hn]
      refine ic_ge hX (50) 62 (by decide +kernel) (by decide) (fun c_12 => ?_) (fun c => absurd (Int32.le_refl _) c)
      refine bk hX lkX11_ok (pc' := 64) [.iload_n 2, .iconst 0] (by decide +kernel) (And.intro trivial ?_)
      refine z_mmax hX km_X11_319 (by decide) (Nat.le_of_ble_eq_true rfl) (by decide) (by decide) (by decide +kernel) ?_
      rw [hF, fmx _ (fun f hf => by have := ((fbL_ok _ u c).1 f hf).1; omega)]
      exact z_iret hX (by decide +kernel) rfl (rfl) (by decide) (by decide) (⟨rfl, rfl⟩)
    | succ m ih =>
      intro c F hc hF
      cases hf : fbL (vz (tZ τ) n (n - (pcN u 10 + 1)) u) u c with
      | none =>
        rw [hf] at hF
        obtain rfl : F = -nI 1 := hF
        refine bk hX lkX11_ok (pc' := 12) [.iload_n 3, .aload_n 0, .getfield 12, .getfield 65] (by decide +kernel) (And.intro trivial ?_)
        rw [show I 300 4 = nI n from hn]
        refine ic_ge hX (50) 62 (by decide +kernel) (by decide) (fun c => absurd c (nI_ge (by omega) (by omega))) (fun c_12 => ?_)
        refine bk hX lkX11_ok (pc' := 20) [.iload_n 1, .iload_n 3, .ishr, .iconst 1, .iand] (by decide +kernel) (And.intro trivial ?_)
        refine if_ne hX (7) 27 (by decide +kernel) (by decide) (fun c20 => ?_) (fun c20 => ?_)
        · have hbit : u.testBit c = true := Decidable.byContradiction (fun z => c20 ((bit_z u (by omega) c (by omega)).mpr z))
          refine bk hX lkX11_ok (pc' := 32) [.iconst 0, .istore 4, .iload 4] (by decide +kernel) (And.intro trivial ?_)
          refine if_eq hX (24) 56 (by decide +kernel) (by decide) (fun c32 => ?_) (fun c32 => ?_)
          · refine bk hX lkX11_ok (pc' := 59) [.iinc 3 1] (by decide +kernel) (And.intro trivial ?_)
            refine gt_ hX (-55) 4 (by decide +kernel) (by decide) ?_
            refine z_lvk (lv' := [(0, _), (1, _), (2, _), (3, _)]) [2, 3, 4, 0] rfl ?_
            rw [nI_add]
            refine ih (c + 1) _ (by omega) ?_
            first
              | exact absurd c32 (by decide)
              | exact fb_n1 hf hbit
              | exact fb_n2 hf hfree0
          · have hfree0 : ¬ u.testBit c = true := by
              first
                | exact hfree
                | exact absurd rfl c32
            refine bk hX lkX11_ok (pc' := 36) [.iload_n 2] (by decide +kernel) (And.intro trivial ?_)
            refine if_lt hX (18) 54 (by decide +kernel) (by decide) (fun c_36 => ?_) (fun c => absurd (show -nI 1 < 0 by decide) c)
            refine bk hX lkX11_ok (pc' := 59) [.iload_n 3, .istore_n 2, .iinc 3 1] (by decide +kernel) (And.intro trivial ?_)
            refine gt_ hX (-55) 4 (by decide +kernel) (by decide) ?_
            refine z_lvk (lv' := [(0, _), (1, _), (2, _), (3, _)]) [3, 4, 1, 0] rfl ?_
            rw [nI_add]
            refine ih (c + 1) _ (by omega) ?_
            first
              | exact absurd c32 (by decide)
              | exact fb_n1 hf hbit
              | exact fb_n2 hf hfree0
        · have hfree : ¬ u.testBit c = true := (bit_z u (by omega) c (by omega)).mp c20
          refine bk hX lkX11_ok (pc' := 24) [.iconst 1] (by decide +kernel) (And.intro trivial ?_)
          refine gt_ hX (4) 28 (by decide +kernel) (by decide) ?_
          refine bk hX lkX11_ok (pc' := 32) [.istore 4, .iload 4] (by decide +kernel) (And.intro trivial ?_)
          refine if_eq hX (24) 56 (by decide +kernel) (by decide) (fun c32 => ?_) (fun c32 => ?_)
          · refine bk hX lkX11_ok (pc' := 59) [.iinc 3 1] (by decide +kernel) (And.intro trivial ?_)
            refine gt_ hX (-55) 4 (by decide +kernel) (by decide) ?_
            refine z_lvk (lv' := [(0, _), (1, _), (2, _), (3, _)]) [2, 3, 4, 0] rfl ?_
            rw [nI_add]
            refine ih (c + 1) _ (by omega) ?_
            first
              | exact absurd c32 (by decide)
              | exact fb_n1 hf hbit
              | exact fb_n2 hf hfree0
          · have hfree0 : ¬ u.testBit c = true := by
              first
                | exact hfree
                | exact absurd rfl c32
            refine bk hX lkX11_ok (pc' := 36) [.iload_n 2] (by decide +kernel) (And.intro trivial ?_)
            refine if_lt hX (18) 54 (by decide +kernel) (by decide) (fun c_36 => ?_) (fun c => absurd (show -nI 1 < 0 by decide) c)
            refine bk hX lkX11_ok (pc' := 59) [.iload_n 3, .istore_n 2, .iinc 3 1] (by decide +kernel) (And.intro trivial ?_)
            refine gt_ hX (-55) 4 (by decide +kernel) (by decide) ?_
            refine z_lvk (lv' := [(0, _), (1, _), (2, _), (3, _)]) [3, 4, 1, 0] rfl ?_
            rw [nI_add]
            refine ih (c + 1) _ (by omega) ?_
            first
              | exact absurd c32 (by decide)
              | exact fb_n1 hf hbit
              | exact fb_n2 hf hfree0
      | some f =>
        rw [hf] at hF
        obtain rfl : F = nI f := hF
        have hff := (fbL_ok _ u c).1 f hf
        refine bk hX lkX11_ok (pc' := 12) [.iload_n 3, .aload_n 0, .getfield 12, .getfield 65] (by decide +kernel) (And.intro trivial ?_)
        rw [show I 300 4 = nI n from hn]
        refine ic_ge hX (50) 62 (by decide +kernel) (by decide) (fun c => absurd c (nI_ge (by omega) (by omega))) (fun c_12 => ?_)
        refine bk hX lkX11_ok (pc' := 20) [.iload_n 1, .iload_n 3, .ishr, .iconst 1, .iand] (by decide +kernel) (And.intro trivial ?_)
        refine if_ne hX (7) 27 (by decide +kernel) (by decide) (fun c20 => ?_) (fun c20 => ?_)
        · have hbit : u.testBit c = true := Decidable.byContradiction (fun z => c20 ((bit_z u (by omega) c (by omega)).mpr z))
          refine bk hX lkX11_ok (pc' := 32) [.iconst 0, .istore 4, .iload 4] (by decide +kernel) (And.intro trivial ?_)
          refine if_eq hX (24) 56 (by decide +kernel) (by decide) (fun c32 => ?_) (fun c32 => ?_)
          · refine bk hX lkX11_ok (pc' := 59) [.iinc 3 1] (by decide +kernel) (And.intro trivial ?_)
            refine gt_ hX (-55) 4 (by decide +kernel) (by decide) ?_
            refine z_lvk (lv' := [(0, _), (1, _), (2, _), (3, _)]) [2, 3, 4, 0] rfl ?_
            rw [nI_add]
            refine ih (c + 1) _ (by omega) ?_
            first
              | exact absurd c32 (by decide)
              | exact fb_s1 hf hbit
              | exact fb_s2 hf hfree0 hlt
              | exact fb_s3 hf hfree0 (by rw [Int32.le_iff_toInt_le] at c51; rw [← hx1, ← hx2]; omega)
              | exact absurd c32 (by decide)
          · have hfree0 : ¬ u.testBit c = true := by
              first
                | exact hfree
                | exact absurd rfl c32
            refine bk hX lkX11_ok (pc' := 36) [.iload_n 2] (by decide +kernel) (And.intro trivial ?_)
            refine if_lt hX (18) 54 (by decide +kernel) (by decide) (fun c => absurd c (nI_nn (by omega))) (fun c_36 => ?_)
            refine bk hX lkX11_ok (pc' := 42) [.aload_n 0, .iload_n 1, .iload_n 3] (by decide +kernel) (And.intro trivial ?_)
            refine z_callV hX kw_X11_316 (c_X_with E K N Rf I L h6 hT hu ht (c := c) (by omega) hfree0) rfl rfl rfl rfl rfl (by decide +kernel) (by decide) (by decide) (by decide) (by decide) (Nat.le_of_ble_eq_true rfl) ?_
            rintro _ _ ⟨rfl, x1, rfl, hx1⟩
            refine bk hX lkX11_ok (pc' := 48) [.aload_n 0, .iload_n 1, .iload_n 2] (by decide +kernel) (And.intro trivial ?_)
            refine z_callV hX kw_X11_316 (c_X_with E K N Rf I L h6 hT hu ht (c := f) (by omega) hff.2.1) rfl rfl rfl rfl rfl (by decide +kernel) (by decide) (by decide) (by decide) (by decide) (Nat.le_of_ble_eq_true rfl) ?_
            rintro _ _ ⟨rfl, x2, rfl, hx2⟩
            refine ic_le hX (5) 56 (by decide +kernel) (by decide) (fun c51 => ?_) (fun c51 => ?_)
            · refine bk hX lkX11_ok (pc' := 59) [.iinc 3 1] (by decide +kernel) (And.intro trivial ?_)
              refine gt_ hX (-55) 4 (by decide +kernel) (by decide) ?_
              refine z_lvk (lv' := [(0, _), (1, _), (2, _), (3, _)]) [2, 3, 4, 0] rfl ?_
              rw [nI_add]
              refine ih (c + 1) _ (by omega) ?_
              first
                | exact absurd c32 (by decide)
                | exact fb_s1 hf hbit
                | exact fb_s2 hf hfree0 hlt
                | exact fb_s3 hf hfree0 (by rw [Int32.le_iff_toInt_le] at c51; rw [← hx1, ← hx2]; omega)
                | exact absurd c32 (by decide)
            · have hlt : vz (tZ τ) n (n - (pcN u 10 + 1)) u f < vz (tZ τ) n (n - (pcN u 10 + 1)) u c := by
                rw [← hx1, ← hx2]
                rw [Int32.le_iff_toInt_le] at c51
                omega
              refine bk hX lkX11_ok (pc' := 59) [.iload_n 3, .istore_n 2, .iinc 3 1] (by decide +kernel) (And.intro trivial ?_)
              refine gt_ hX (-55) 4 (by decide +kernel) (by decide) ?_
              refine z_lvk (lv' := [(0, _), (1, _), (2, _), (3, _)]) [3, 4, 1, 0] rfl ?_
              rw [nI_add]
              refine ih (c + 1) _ (by omega) ?_
              first
                | exact absurd c32 (by decide)
                | exact fb_s1 hf hbit
                | exact fb_s2 hf hfree0 hlt
                | exact fb_s3 hf hfree0 (by rw [Int32.le_iff_toInt_le] at c51; rw [← hx1, ← hx2]; omega)
                | exact absurd c32 (by decide)
        · have hfree : ¬ u.testBit c = true := (bit_z u (by omega) c (by omega)).mp c20
          refine bk hX lkX11_ok (pc' := 24) [.iconst 1] (by decide +kernel) (And.intro trivial ?_)
          refine gt_ hX (4) 28 (by decide +kernel) (by decide) ?_
          refine bk hX lkX11_ok (pc' := 32) [.istore 4, .iload 4] (by decide +kernel) (And.intro trivial ?_)
          refine if_eq hX (24) 56 (by decide +kernel) (by decide) (fun c32 => ?_) (fun c32 => ?_)
          · refine bk hX lkX11_ok (pc' := 59) [.iinc 3 1] (by decide +kernel) (And.intro trivial ?_)
            refine gt_ hX (-55) 4 (by decide +kernel) (by decide) ?_
            refine z_lvk (lv' := [(0, _), (1, _), (2, _), (3, _)]) [2, 3, 4, 0] rfl ?_
            rw [nI_add]
            refine ih (c + 1) _ (by omega) ?_
            first
              | exact absurd c32 (by decide)
              | exact fb_s1 hf hbit
              | exact fb_s2 hf hfree0 hlt
              | exact fb_s3 hf hfree0 (by rw [Int32.le_iff_toInt_le] at c51; rw [← hx1, ← hx2]; omega)
              | exact absurd c32 (by decide)
          · have hfree0 : ¬ u.testBit c = true := by
              first
                | exact hfree
                | exact absurd rfl c32
            refine bk hX lkX11_ok (pc' := 36) [.iload_n 2] (by decide +kernel) (And.intro trivial ?_)
            refine if_lt hX (18) 54 (by decide +kernel) (by decide) (fun c => absurd c (nI_nn (by omega))) (fun c_36 => ?_)
            refine bk hX lkX11_ok (pc' := 42) [.aload_n 0, .iload_n 1, .iload_n 3] (by decide +kernel) (And.intro trivial ?_)
            refine z_callV hX kw_X11_316 (c_X_with E K N Rf I L h6 hT hu ht (c := c) (by omega) hfree0) rfl rfl rfl rfl rfl (by decide +kernel) (by decide) (by decide) (by decide) (by decide) (Nat.le_of_ble_eq_true rfl) ?_
            rintro _ _ ⟨rfl, x1, rfl, hx1⟩
            refine bk hX lkX11_ok (pc' := 48) [.aload_n 0, .iload_n 1, .iload_n 2] (by decide +kernel) (And.intro trivial ?_)
            refine z_callV hX kw_X11_316 (c_X_with E K N Rf I L h6 hT hu ht (c := f) (by omega) hff.2.1) rfl rfl rfl rfl rfl (by decide +kernel) (by decide) (by decide) (by decide) (by decide) (Nat.le_of_ble_eq_true rfl) ?_
            rintro _ _ ⟨rfl, x2, rfl, hx2⟩
            refine ic_le hX (5) 56 (by decide +kernel) (by decide) (fun c51 => ?_) (fun c51 => ?_)
            · refine bk hX lkX11_ok (pc' := 59) [.iinc 3 1] (by decide +kernel) (And.intro trivial ?_)
              refine gt_ hX (-55) 4 (by decide +kernel) (by decide) ?_
              refine z_lvk (lv' := [(0, _), (1, _), (2, _), (3, _)]) [2, 3, 4, 0] rfl ?_
              rw [nI_add]
              refine ih (c + 1) _ (by omega) ?_
              first
                | exact absurd c32 (by decide)
                | exact fb_s1 hf hbit
                | exact fb_s2 hf hfree0 hlt
                | exact fb_s3 hf hfree0 (by rw [Int32.le_iff_toInt_le] at c51; rw [← hx1, ← hx2]; omega)
                | exact absurd c32 (by decide)
            · have hlt : vz (tZ τ) n (n - (pcN u 10 + 1)) u f < vz (tZ τ) n (n - (pcN u 10 + 1)) u c := by
                rw [← hx1, ← hx2]
                rw [Int32.le_iff_toInt_le] at c51
                omega
              refine bk hX lkX11_ok (pc' := 59) [.iload_n 3, .istore_n 2, .iinc 3 1] (by decide +kernel) (And.intro trivial ?_)
              refine gt_ hX (-55) 4 (by decide +kernel) (by decide) ?_
              refine z_lvk (lv' := [(0, _), (1, _), (2, _), (3, _)]) [3, 4, 1, 0] rfl ?_
              rw [nI_add]
              refine ih (c + 1) _ (by omega) ?_
              first
                | exact absurd c32 (by decide)
                | exact fb_s1 hf hbit
                | exact fb_s2 hf hfree0 hlt
                | exact fb_s3 hf hfree0 (by rw [Int32.le_iff_toInt_le] at c51; rw [← hx1, ← hx2]; omega)
                | exact absurd c32 (by decide)
  refine bk hX lkX11_ok (pc' := 4) [.iconst (Int.negSucc 0), .istore_n 2, .iconst 0, .istore_n 3] (by decide +kernel) (And.intro trivial ?_)
  refine z_lvk (lv' := [(0, _), (1, _), (2, _), (3, _)]) [2, 3, 1, 0] rfl ?_
  exact hl n 0 _ (by omega) rfl
