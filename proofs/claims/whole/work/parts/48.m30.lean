/-! cards laid by numbers -/
def layB (n : Nat) : Nat → Nat → Nat → Bool
  | 0, _, _ => true
  | p + 1, r, u => if r % 6 < n ∧ ¬ u.testBit (r % 6) = true then layB n p (r / 6) (u ||| 2 ^ (r % 6)) else false
theorem layB_s (n p r u : Nat) : layB n (p + 1) r u = if r % 6 < n ∧ ¬ u.testBit (r % 6) = true then layB n p (r / 6) (u ||| 2 ^ (r % 6)) else false := rfl
def dgt (n k p : Nat) : Nat := k / 6 ^ (n - 1 - p) % 6
theorem layB_d (n : Nat) : ∀ q r u, layB n q r u = true → ∀ j, j < q → r / 6 ^ j % 6 < n
  | 0, _, _, _, j, hj => absurd hj (Nat.not_lt_zero _)
  | q + 1, r, u, h, j, hj => by
    rw [layB_s] at h
    split at h
    · rename_i hc
      cases j with
      | zero => simpa using hc.1
      | succ j =>
        have := layB_d n q (r / 6) _ h j (by omega)
        rw [Nat.div_div_eq_div_mul, ← Nat.pow_succ'] at this
        exact this
    · cases h
theorem lay_dgt {n k : Nat} (h : layB n n k 0 = true) {p : Nat} (hp : p < n) : dgt n k p < n := layB_d n n k 0 h (n - 1 - p) (by omega)
theorem p6_le {n : Nat} (h : n ≤ 6) : 6 ^ n ≤ 46656 := Nat.le_trans (Nat.pow_le_pow_right (by decide) h) (Nat.le_of_ble_eq_true rfl)
theorem u_lt {u d : Nat} (hu : u < 64) (hd : d < 6) : u ||| 2 ^ d < 64 := Nat.or_lt_two_pow (n := 6) hu (Nat.lt_of_lt_of_le (Nat.pow_lt_pow_right (a := 2) (by decide) hd) (Nat.le_refl 64))
theorem nI_ge0 (q : Nat) (h : q < 2 ^ 31) : ¬ nI q < 0 := fun z => absurd z (i_nlt.mpr (show nI 0 ≤ nI q from nI_le (Nat.zero_le _) h))
set_option maxHeartbeats 2000000 in
theorem c_M_layCards (E : zE) (K N : Nat → Nat) (Rf : Nat → Nat → Option Nat) (I : Nat → Nat → Int32) (L : Nat → Nat → Int64) {n : Nat} (hn : n ≤ 6) (h0 : I 100 0 = nI n) {k : Nat} (hk : k < 46656) : zCt E mX12_layCards 1 0 0 (sg K N Rf I L) [.ref 100, .int (nI k)] (fun r σ' => ∃ I', σ' = sg K N Rf I' L ∧ frX [133] [] I I' ∧ ((layB n n k 0 = true ∧ r = some (.int 1) ∧ ∀ p, p < n → I' 133 p = nI (dgt n k p)) ∨ (¬ layB n n k 0 = true ∧ r = some (.int 0)))) := by
  refine z_intro (by decide) (Nat.le_of_ble_eq_true rfl) (fun X hX => ?_)
  have hl : ∀ q u (I1 : Nat → Nat → Int32), q ≤ n → u < 64 → frX [133] [] I I1 → (∀ p, q ≤ p → p < n → I1 133 p = nI (dgt n k p)) → layB n q (k / 6 ^ (n - q)) u = layB n n k 0 → zS X (sg K N Rf I1 L) 0 0 12 [(0, .ref 100), (1, .int (nI k)), (2, .int (nI (k / 6 ^ (n - q)))), (3, .int (nI u)), (4, .int (nI q - nI 1))] [] := by
    intro q
    induction q with
    | zero =>
      intro u I1 hq hu h1 h2 h3
      refine bk hX lkX12_ok (pc' := 14) [.iload 4] (by decide +kernel) (And.intro trivial ?_)
      refine if_lt hX (68) 82 (by decide +kernel) (by decide) (fun c_14 => ?_) (fun c => absurd (by decide) c)
      refine bk hX lkX12_ok (pc' := 83) [.iconst 1] (by decide +kernel) (And.intro trivial ?_)
      exact z_iret hX (by decide +kernel) rfl (rfl) (by decide) (by decide) (⟨I1, rfl, h1, Or.inl ⟨by rw [← h3]; rfl, rfl, fun p hp => h2 p (Nat.zero_le _) hp⟩⟩)
    | succ q ih =>
      intro u I1 hq hu h1 h2 h3
      have hr : k / 6 ^ (n - (q + 1)) < 46656 := Nat.lt_of_le_of_lt (Nat.div_le_self _ _) hk
      have e6 : k / 6 ^ (n - (q + 1)) / 6 = k / 6 ^ (n - q) := by
        rw [Nat.div_div_eq_div_mul, ← Nat.pow_succ, show (n - (q + 1)).succ = n - q by omega]
      have ed : dgt n k q = k / 6 ^ (n - (q + 1)) % 6 := by unfold dgt; rw [show n - 1 - q = n - (q + 1) by omega]
      have hd6 : dgt n k q < 6 := by rw [ed]; omega
      rw [layB_s, ← ed, e6] at h3
      have q1 : nI (k / 6 ^ (n - (q + 1))) / nI 6 = nI (k / 6 ^ (n - q)) := by rw [i_div (a := k / 6 ^ (n - (q + 1))) (d := 6) (by omega) (by decide) (by decide), e6]
      have q2 : nI (k / 6 ^ (n - (q + 1))) - nI (k / 6 ^ (n - (q + 1))) / nI 6 * nI 6 = nI (dgt n k q) := by rw [i_mod (a := k / 6 ^ (n - (q + 1))) (d := 6) (by omega) (by decide) (by decide), ed]
      have cq : (nI q).toNatClampNeg = q := cl (by omega)
      have e0 : ∀ v : Int32, up2 I1 133 q v 100 0 = nI n := fun v => by rw [up2_ne _ _ _ (by decide), h1.2 _ (by decide)]; exact h0
      have h1' : frX [133] [] I (up2 I1 133 q (nI (dgt n k q))) := frX_tr h1 (frX_at (by decide) (by decide))
      rw [show nI (q + 1) - nI 1 = nI q by rw [i_m1 (n := q + 1) (by omega), Nat.add_sub_cancel]]
      refine bk hX lkX12_ok (pc' := 14) [.iload 4] (by decide +kernel) (And.intro trivial ?_)
      refine if_lt hX (68) 82 (by decide +kernel) (by decide) (fun c => absurd c (nI_ge0 q (by omega))) (fun c_14 => ?_)
      refine bk hX lkX12_ok (pc' := 27) [.aload_n 0, .getfield 108, .iload 4, .iload_n 2, .bipush 6, .irem] (by decide +kernel) (And.intro (by decide) (And.intro trivial ?_))
      rw [q2]
      refine bk hX lkX12_ok (pc' := 28) [.iastore] (by decide +kernel) (And.intro (by exact vin 6 (by omega)) (And.intro trivial ?_))
      rw [cq]
      refine bk hX lkX12_ok (pc' := 32) [.iload_n 2, .bipush 6, .idiv] (by decide +kernel) (And.intro (by decide) (And.intro trivial ?_))
      rw [q1]
      refine bk hX lkX12_ok (pc' := 44) [.istore_n 2, .aload_n 0, .getfield 108, .iload 4, .iaload, .aload_n 0, .getfield 7] (by decide +kernel) (And.intro (by exact vin 6 (by omega)) (And.intro trivial ?_))
      rw [cq, show up2 I1 (101 + 32) q (nI (dgt n k q)) (101 + 32) q = _ from up2_self _ _ _ _, show up2 I1 (101 + 32) q (nI (dgt n k q)) 100 0 = _ from e0 _]
      refine ic_ge hX (18) 62 (by decide +kernel) (by decide) (fun ca => ?_) (fun ca => ?_)
      · refine bk hX lkX12_ok (pc' := 63) [.iconst 0] (by decide +kernel) (And.intro trivial ?_)
        exact z_iret hX (by decide +kernel) rfl (rfl) (by decide) (by decide) (by
  have hno : ¬ (dgt n k q < n ∧ ¬ u.testBit (dgt n k q) = true) := by
    first
      | exact fun z => absurd (nI_lt z.1 (by omega)) (i_nlt.mpr ca)
      | exact fun z => z.2 hb
  rw [if_neg hno] at h3
  exact ⟨_, rfl, h1', Or.inr ⟨by rw [← h3]; decide, rfl⟩⟩)
      · refine bk hX lkX12_ok (pc' := 56) [.aload_n 0, .iload_n 3, .aload_n 0, .getfield 108, .iload 4, .iaload] (by decide +kernel) (And.intro (by exact vin 6 (by omega)) (And.intro trivial ?_))
        rw [cq, show up2 I1 (101 + 32) q (nI (dgt n k q)) (101 + 32) q = _ from up2_self _ _ _ _]
        refine z_callV hX kw_X12_224 (c_M_has E _ _ _ _) rfl rfl rfl rfl rfl (by decide +kernel) (by decide) (by decide) (by decide) (by decide) (Nat.le_of_ble_eq_true rfl) ?_
        rintro _ _ ⟨rfl, hh⟩
        rw [i_bit (by omega) (by omega)] at hh
        rcases hh with ⟨hb, rfl⟩ | ⟨hb, rfl⟩
        · refine if_eq hX (5) 64 (by decide +kernel) (by decide) (fun c => absurd c (by decide)) (fun c_59 => ?_)
          refine bk hX lkX12_ok (pc' := 63) [.iconst 0] (by decide +kernel) (And.intro trivial ?_)
          exact z_iret hX (by decide +kernel) rfl (rfl) (by decide) (by decide) (by
  have hno : ¬ (dgt n k q < n ∧ ¬ u.testBit (dgt n k q) = true) := by
    first
      | exact fun z => absurd (nI_lt z.1 (by omega)) (i_nlt.mpr ca)
      | exact fun z => z.2 hb
  rw [if_neg hno] at h3
  exact ⟨_, rfl, h1', Or.inr ⟨by rw [← h3]; decide, rfl⟩⟩)
        · refine if_eq hX (5) 64 (by decide +kernel) (by decide) (fun c_59 => ?_) (fun c => absurd (by decide) c)
          refine bk hX lkX12_ok (pc' := 79) [.iload_n 3, .iconst 1, .aload_n 0, .getfield 108, .iload 4, .iaload, .ishl, .ior, .istore_n 3, .iinc 4 (Int.negSucc 0)] (by decide +kernel) (And.intro (by exact vin 6 (by omega)) (And.intro trivial ?_))
          refine gt_ hX (-67) 12 (by decide +kernel) (by decide) ?_
          refine z_lvk (lv' := [(0, _), (1, _), (2, _), (3, _), (4, _)]) [3, 4, 2, 1, 0] rfl ?_
          have hlt : dgt n k q < n := (nI_ltI (by omega) (by omega)).mp (i_nle.mp ca)
          rw [if_pos ⟨hlt, hb⟩] at h3
          rw [cq, show up2 I1 (101 + 32) q (nI (dgt n k q)) (101 + 32) q = _ from up2_self _ _ _ _, i_1shl (by omega), i_or, ← Int32.sub_eq_add_neg]
          refine ih _ _ (by omega) (u_lt hu hd6) h1' (fun p hp1 hp2 => ?_) h3
          by_cases e : p = q
          · subst e; rw [up2_self]
          · rw [up2_at, if_neg e]; exact h2 p (by omega) hp2
  refine bk hX lkX12_ok (pc' := 8) [.iload_n 1, .istore_n 2, .iconst 0, .istore_n 3, .aload_n 0, .getfield 7] (by decide +kernel) (And.intro trivial ?_)
  rw [h0]
  refine bk hX lkX12_ok (pc' := 12) [.iconst 1, .isub, .istore 4] (by decide +kernel) (And.intro trivial ?_)
  refine z_lvk (lv' := [(0, _), (1, _), (2, _), (3, _), (4, _)]) [3, 4, 2, 1, 0] rfl ?_
  have := hl n 0 I (Nat.le_refl _) (by decide) (frX_rf _ _ _) (fun p h1 h2 => absurd h1 (by omega)) (by rw [Nat.sub_self, Nat.pow_zero, Nat.div_one])
  rw [Nat.sub_self, Nat.pow_zero, Nat.div_one] at this
  exact this
def smL (τ : Nat → Nat → Int32) (n k : Nat) : Nat → Int32
  | 0 => nI 0
  | j + 1 => smL τ n k j + τ j (dgt n k j)
def bfL (τ : Nat → Nat → Int32) (n : Nat) : Nat → Option (Int32 × Nat)
  | 0 => none
  | k + 1 => if layB n n k 0 = true then (match bfL τ n k with
    | none => some (smL τ n k n, k)
    | some (m, b) => if m < smL τ n k n then some (smL τ n k n, k) else some (m, b)) else bfL τ n k
theorem bfL_s (τ : Nat → Nat → Int32) (n k : Nat) : bfL τ n (k + 1) = if layB n n k 0 = true then (match bfL τ n k with
    | none => some (smL τ n k n, k)
    | some (m, b) => if m < smL τ n k n then some (smL τ n k n, k) else some (m, b)) else bfL τ n k := rfl
/-- where the search for the best stands -/
def bfI (n : Nat) (o : Option (Int32 × Nat)) (any most : Int32) (I : Nat → Nat → Int32) : Prop := match o with
  | none => any = nI 0
  | some (m, b) => any = nI 1 ∧ most = m ∧ ∀ p, p < n → I 134 p = nI (dgt n b p)
theorem bfI_fr {n : Nat} {o : Option (Int32 × Nat)} {any most : Int32} {I1 I2 : Nat → Nat → Int32} (h : bfI n o any most I1) (f : frX [133] [] I1 I2) : bfI n o any most I2 := by
  cases o with
  | none => exact h
  | some z =>
    obtain ⟨m1, b1⟩ := z
    exact ⟨h.1, h.2.1, fun p hp => by rw [f.1 _ (by decide) (by decide)]; exact h.2.2 p hp⟩
def bestS (n : Nat) (m : Int32) (b : Nat) (x : Int32) : Int32 := if x = 0 then m else if isIn (x - nI 10) n = true then nI (dgt n b (jx (x - nI 10))) else -nI 1001
theorem sE_X {Ps Fs : List Nat} {I I1 : Nat → Nat → Int32} (h : frX Ps Fs I I1) (h1 : ∀ x ∈ Ps, x ∈ scP) (h2 : ∀ x ∈ Fs, x ∈ scF) : sE I I1 := ⟨fun q a b => h.1 q (fun z => a (h1 q z)) b, fun k a => h.2 k (fun z => a (h2 k z))⟩
theorem up_sE {I : Nat → Nat → Int32} {p k : Nat} {v : Int32} (h : p ∈ scP) : sE I (up2 I p k v) := ⟨fun q a b => up2_ne _ _ _ (fun z => a (by rw [z]; exact h)), fun j a => by rw [up2_ne _ _ _ (fun z => by rw [← z] at h; exact absurd h (by decide))]⟩
set_option maxHeartbeats 8000000 in
set_option maxRecDepth 4000 in
theorem c_M_best (E : zE) (K N : Nat → Nat) (Rf : Nat → Nat → Option Nat) (I : Nat → Nat → Int32) (L : Nat → Nat → Int64) {g : Gv} (hg : gwf g) (hG : mG g I) {w : Wk} {b : Nat} (hB : mHB w b I) (hd : gd g ≤ 90000) (x : Int32) {A : Nat} (hA : A = 6 ^ gn g) {m : Int32} {bn : Nat} (hex : bfL (tmS g w) (gn g) A = some (m, bn)) : zCt E mX12_best 6 0 0 (sg K N Rf I L) [.ref 100, .int x] (fun r σ' => ∃ I', σ' = sg K N Rf I' L ∧ r = some (.int (bestS (gn g) m bn x)) ∧ sE I I') := by
  have h6 := hg.1
  have hA6 : A ≤ 46656 := by rw [hA]; exact p6_le h6
  refine z_intro (by decide) (Nat.le_of_ble_eq_true rfl) (fun X hX => ?_)
  have hw : ∀ I1, sE I I1 → I1 100 0 = nI (gn g) := fun I1 h => by rw [h.2 _ (by decide)]; exact hG.1
  have hmain : (x = 0 ∨ isIn (x - nI 10) (gn g) = true) → ∀ q k any most (I1 : Nat → Nat → Int32), k + q = A → sE I I1 → (∀ p c, p < gn g → c < gn g → I1 132 (6 * p + c) = tmS g w p c) → bfI (gn g) (bfL (tmS g w) (gn g) k) any most I1 → zS X (sg K N Rf I1 L) 0 0 105 [(0, .ref 100), (1, .int x), (2, .int (nI A)), (3, .int any), (4, .int most), (5, .int (nI k))] [] := by
    intro hx q
    induction q with
    | zero =>
      intro k any most I1 hk h1 h2 h3
      obtain rfl : k = A := by omega
      rw [hex] at h3
      obtain ⟨g1, g2, g3⟩ := h3
      refine bk hX lkX12_ok (pc' := 108) [.iload 5, .iload_n 2] (by decide +kernel) (And.intro trivial ?_)
      refine ic_ge hX (115) 223 (by decide +kernel) (by decide) (fun c_108 => ?_) (fun c => absurd (nI_le (by omega) (by omega)) c)
      refine bk hX lkX12_ok (pc' := 224) [.iload_n 1] (by decide +kernel) (And.intro trivial ?_)
      refine if_ne hX (8) 232 (by decide +kernel) (by decide) (fun cx => ?_) (fun cx => ?_)
      · refine bk hX lkX12_ok (pc' := 240) [.aload_n 0, .getfield 111, .iload_n 1, .bipush 10, .isub] (by decide +kernel) (And.intro trivial ?_)
        have hx2 := hx.resolve_left cx
        obtain ⟨p, hp, ep⟩ := (isIn_iff (by omega)).mp hx2
        rw [ep]
        refine bk hX lkX12_ok (pc' := 241) [.iaload] (by decide +kernel) (And.intro (by exact vin 6 (by omega)) (And.intro trivial ?_))
        exact z_iret hX (by decide +kernel) rfl (rfl) (by decide) (by decide) (by first
  | exact ⟨I1, rfl, by unfold bestS; rw [if_pos cx, g2], h1⟩
  | exact ⟨I1, rfl, by unfold bestS; rw [if_neg cx, if_pos hx2, ep, jx_nI (by omega), cl (by omega), show I1 (101 + 33) p = _ from g3 p hp], h1⟩)
      · refine bk hX lkX12_ok (pc' := 229) [.iload 4] (by decide +kernel) (And.intro trivial ?_)
        refine gt_ hX (12) 241 (by decide +kernel) (by decide) ?_
        exact z_iret hX (by decide +kernel) rfl (rfl) (by decide) (by decide) (by first
  | exact ⟨I1, rfl, by unfold bestS; rw [if_pos cx, g2], h1⟩
  | exact ⟨I1, rfl, by unfold bestS; rw [if_neg cx, if_pos hx2, ep, jx_nI (by omega), cl (by omega), show I1 (101 + 33) p = _ from g3 p hp], h1⟩)
    | succ q ih =>
      intro k any most I1 hk h1 h2 h3
      have hstep := bfL_s (tmS g w) (gn g) k
      have hcopy : ∀ s, bfL (tmS g w) (gn g) (k + 1) = some (s, k) → ∀ u j (I2 : Nat → Nat → Int32), j + u = 6 → sE I I2 → (∀ p c, p < gn g → c < gn g → I2 132 (6 * p + c) = tmS g w p c) → (∀ p, p < gn g → I2 133 p = nI (dgt (gn g) k p)) → (∀ p, p < j → I2 134 p = I2 133 p) → zS X (sg K N Rf I2 L) 0 0 190 [(0, .ref 100), (1, .int x), (2, .int (nI A)), (3, .int (nI 1)), (4, .int s), (5, .int (nI k)), (7, .int (nI j))] [] := by
        intro s hs u
        induction u with
        | zero =>
          intro j I2 hj d1 d2 d3 d4
          obtain rfl : j = 6 := by omega
          refine bk hX lkX12_ok (pc' := 194) [.iload 7, .bipush 6] (by decide +kernel) (And.intro trivial ?_)
          refine ic_ge hX (23) 217 (by decide +kernel) (by decide) (fun c_194 => ?_) (fun c => absurd (by decide) c)
          refine bk hX lkX12_ok (pc' := 220) [.iinc 5 1] (by decide +kernel) (And.intro trivial ?_)
          refine gt_ hX (-115) 105 (by decide +kernel) (by decide) ?_
          refine z_lvk (lv' := [(0, _), (1, _), (2, _), (3, _), (4, _), (5, _)]) [1, 2, 3, 4, 5, 0] rfl ?_
          rw [nI_add]
          exact ih (k + 1) _ _ I2 (by omega) d1 d2 (by rw [hs]; exact ⟨rfl, rfl, fun p hp => by rw [d4 p (by omega)]; exact d3 p hp⟩)
        | succ u ih2 =>
          intro j I2 hj d1 d2 d3 d4
          have cj : (nI j).toNatClampNeg = j := cl (by omega)
          refine bk hX lkX12_ok (pc' := 194) [.iload 7, .bipush 6] (by decide +kernel) (And.intro trivial ?_)
          refine ic_ge hX (23) 217 (by decide +kernel) (by decide) (fun c => absurd c (nI_ge (a := j) (b := 6) (by omega) (by decide))) (fun c_194 => ?_)
          refine bk hX lkX12_ok (pc' := 214) [.aload_n 0, .getfield 111, .iload 7, .aload_n 0, .getfield 108, .iload 7, .iaload, .iastore, .iinc 7 1] (by decide +kernel) (And.intro (by exact vin 6 (by omega)) (And.intro (by exact vin 6 (by omega)) (And.intro trivial ?_)))
          refine gt_ hX (-24) 190 (by decide +kernel) (by decide) ?_
          refine z_lvk (lv' := [(0, _), (1, _), (2, _), (3, _), (4, _), (5, _), (7, _)]) [1, 2, 3, 4, 5, 6, 0] rfl ?_
          rw [cj, nI_add]
          refine ih2 (j + 1) _ (by omega) (sE_tr d1 (up_sE (by decide))) (fun p c hp hc => by rw [up2_ne _ _ _ (by decide)]; exact d2 p c hp hc) (fun p hp => by rw [up2_ne _ _ _ (by decide)]; exact d3 p hp) (fun p hp => ?_)
          rw [up2_ne _ _ _ (show (133 : Nat) ≠ 134 by decide), up2_at]
          split
          · rename_i e; rw [e]
          · exact d4 p (by omega)
      have hsum : layB (gn g) (gn g) k 0 = true → ∀ u j (I2 : Nat → Nat → Int32), j + u = gn g → sE I I2 → (∀ p c, p < gn g → c < gn g → I2 132 (6 * p + c) = tmS g w p c) → (∀ p, p < gn g → I2 133 p = nI (dgt (gn g) k p)) → bfI (gn g) (bfL (tmS g w) (gn g) k) any most I2 → zS X (sg K N Rf I2 L) 0 0 129 [(0, .ref 100), (1, .int x), (2, .int (nI A)), (3, .int any), (4, .int most), (5, .int (nI k)), (6, .int (smL (tmS g w) (gn g) k j)), (7, .int (nI j))] [] := by
        intro hv u
        induction u with
        | zero =>
          intro j I2 hj d1 d2 d3 d4
          obtain rfl : j = gn g := by omega
          rw [if_pos hv] at hstep
          refine bk hX lkX12_ok (pc' := 135) [.iload 7, .aload_n 0, .getfield 7] (by decide +kernel) (And.intro trivial ?_)
          rw [hw I2 d1]
          refine ic_ge hX (32) 167 (by decide +kernel) (by decide) (fun c_135 => ?_) (fun c => absurd (nI_le (by omega) (by omega)) c)
          refine bk hX lkX12_ok (pc' := 168) [.iload_n 3] (by decide +kernel) (And.intro trivial ?_)
          refine if_eq hX (13) 181 (by decide +kernel) (by decide) (fun c0 => ?_) (fun c0 => ?_)
          · refine bk hX lkX12_ok (pc' := 190) [.iconst 1, .istore_n 3, .iload 6, .istore 4, .iconst 0, .istore 7] (by decide +kernel) (And.intro trivial ?_)
            refine z_lvk (lv' := [(0, _), (1, _), (2, _), (3, _), (4, _), (5, _), (7, _)]) [3, 4, 5, 2, 1, 6, 0] rfl ?_
            refine hcopy _ ?_ 6 0 I2 (by omega) d1 d2 d3 (fun p hp => absurd hp (Nat.not_lt_zero _))
            cases hb : bfL (tmS g w) (gn g) k with
            | none => rw [hb] at hstep; exact hstep
            | some z =>
              obtain ⟨m1, b1⟩ := z
              rw [hb] at d4 hstep
              obtain ⟨g1, g2, g3⟩ := d4
              have hstep2 : bfL (tmS g w) (gn g) (k + 1) = if m1 < smL (tmS g w) (gn g) k (gn g) then some (smL (tmS g w) (gn g) k (gn g), k) else some (m1, b1) := hstep
              first
                | exact absurd (g1.symm.trans c0) (by decide)
                | (rw [hstep2, if_pos (by rw [← g2]; exact cm)])
          · refine bk hX lkX12_ok (pc' := 175) [.iload 6, .iload 4] (by decide +kernel) (And.intro trivial ?_)
            refine ic_gt hX (6) 181 (by decide +kernel) (by decide) (fun cm => ?_) (fun cm => ?_)
            · refine bk hX lkX12_ok (pc' := 190) [.iconst 1, .istore_n 3, .iload 6, .istore 4, .iconst 0, .istore 7] (by decide +kernel) (And.intro trivial ?_)
              refine z_lvk (lv' := [(0, _), (1, _), (2, _), (3, _), (4, _), (5, _), (7, _)]) [3, 4, 5, 2, 1, 6, 0] rfl ?_
              refine hcopy _ ?_ 6 0 I2 (by omega) d1 d2 d3 (fun p hp => absurd hp (Nat.not_lt_zero _))
              cases hb : bfL (tmS g w) (gn g) k with
              | none => rw [hb] at hstep; exact hstep
              | some z =>
                obtain ⟨m1, b1⟩ := z
                rw [hb] at d4 hstep
                obtain ⟨g1, g2, g3⟩ := d4
                have hstep2 : bfL (tmS g w) (gn g) (k + 1) = if m1 < smL (tmS g w) (gn g) k (gn g) then some (smL (tmS g w) (gn g) k (gn g), k) else some (m1, b1) := hstep
                first
                  | exact absurd (g1.symm.trans c0) (by decide)
                  | (rw [hstep2, if_pos (by rw [← g2]; exact cm)])
            · refine gt_ hX (39) 217 (by decide +kernel) (by decide) ?_
              refine bk hX lkX12_ok (pc' := 220) [.iinc 5 1] (by decide +kernel) (And.intro trivial ?_)
              refine gt_ hX (-115) 105 (by decide +kernel) (by decide) ?_
              refine z_lvk (lv' := [(0, _), (1, _), (2, _), (3, _), (4, _), (5, _)]) [1, 2, 3, 4, 5, 0] rfl ?_
              rw [nI_add]
              refine ih (k + 1) _ _ I2 (by omega) d1 d2 ?_
              cases hb : bfL (tmS g w) (gn g) k with
              | none => rw [hb] at d4; exact absurd d4 c0
              | some z =>
                obtain ⟨m1, b1⟩ := z
                rw [hb] at d4 hstep
                obtain ⟨g1, g2, g3⟩ := d4
                have hstep2 : bfL (tmS g w) (gn g) (k + 1) = if m1 < smL (tmS g w) (gn g) k (gn g) then some (smL (tmS g w) (gn g) k (gn g), k) else some (m1, b1) := hstep
                rw [hstep2, if_neg (fun z => cm (by rw [g2]; exact z))]
                exact ⟨g1, g2, g3⟩
        | succ u ih2 =>
          intro j I2 hj d1 d2 d3 d4
          have cj : (nI j).toNatClampNeg = j := cl (by omega)
          have hdl := lay_dgt hv (p := j) (by omega)
          have cx2 : (nI (6 * j + dgt (gn g) k j)).toNatClampNeg = 6 * j + dgt (gn g) k j := cl (by omega)
          refine bk hX lkX12_ok (pc' := 135) [.iload 7, .aload_n 0, .getfield 7] (by decide +kernel) (And.intro trivial ?_)
          rw [hw I2 d1]
          refine ic_ge hX (32) 167 (by decide +kernel) (by decide) (fun c => absurd c (nI_ge (by omega) (by omega))) (fun c_135 => ?_)
          refine bk hX lkX12_ok (pc' := 156) [.iload 6, .aload_n 0, .getfield 105, .bipush 6, .iload 7, .imul, .aload_n 0, .getfield 108, .iload 7, .iaload] (by decide +kernel) (And.intro (by exact vin 6 (by omega)) (And.intro trivial ?_))
          rw [cj, show I2 (101 + 32) j = _ from d3 j (by omega), show nI 6 * nI j = nI (6 * j) from pk_mul _ _]
          refine bk hX lkX12_ok (pc' := 157) [.iadd] (by decide +kernel) (And.intro trivial ?_)
          rw [nI_add]
          refine bk hX lkX12_ok (pc' := 158) [.iaload] (by decide +kernel) (And.intro (by exact vin 36 (by omega)) (And.intro trivial ?_))
          rw [cx2, show I2 (101 + 31) _ = _ from d2 j _ (by omega) hdl]
          refine bk hX lkX12_ok (pc' := 164) [.iadd, .istore 6, .iinc 7 1] (by decide +kernel) (And.intro trivial ?_)
          refine gt_ hX (-35) 129 (by decide +kernel) (by decide) ?_
          refine z_lvk (lv' := [(0, _), (1, _), (2, _), (3, _), (4, _), (5, _), (6, _), (7, _)]) [2, 3, 4, 5, 6, 7, 1, 0] rfl ?_
          rw [nI_add]
          exact ih2 (j + 1) I2 (by omega) d1 d2 d3 d4
      refine bk hX lkX12_ok (pc' := 108) [.iload 5, .iload_n 2] (by decide +kernel) (And.intro trivial ?_)
      refine ic_ge hX (115) 223 (by decide +kernel) (by decide) (fun c => absurd c (nI_ge (by omega) (by omega))) (fun c_108 => ?_)
      refine bk hX lkX12_ok (pc' := 114) [.aload_n 0, .iload 5] (by decide +kernel) (And.intro trivial ?_)
      refine z_callV hX kw_X12_364 (c_M_layCards E K N Rf I1 L h6 (hw I1 h1) (k := k) (by omega)) rfl rfl rfl rfl rfl (by decide +kernel) (by decide) (by decide) (by decide) (by decide) (Nat.le_of_ble_eq_true rfl) ?_
      rintro _ _ ⟨I2, rfl, f1, (⟨v1, rfl, v2⟩ | ⟨v1, rfl⟩)⟩
      all_goals have f2 : sE I I2 := sE_tr h1 (sE_X f1 (by decide) (by decide))
      all_goals have f3 : ∀ p c, p < gn g → c < gn g → I2 132 (6 * p + c) = tmS g w p c := fun p c hp hc => by rw [f1.1 _ (by decide) (by decide)]; exact h2 p c hp hc
      all_goals have f4 : bfI (gn g) (bfL (tmS g w) (gn g) k) any most I2 := bfI_fr h3 f1
      · refine if_ne hX (6) 123 (by decide +kernel) (by decide) (fun c_117 => ?_) (fun c => absurd c (by decide))
        refine bk hX lkX12_ok (pc' := 129) [.iconst 0, .istore 6, .iconst 0, .istore 7] (by decide +kernel) (And.intro trivial ?_)
        refine z_lvk (lv' := [(0, _), (1, _), (2, _), (3, _), (4, _), (5, _), (6, _), (7, _)]) [2, 3, 4, 5, 6, 7, 1, 0] rfl ?_
        exact hsum v1 (gn g) 0 I2 (by omega) f2 f3 v2 f4
      · refine if_ne hX (6) 123 (by decide +kernel) (by decide) (fun c => absurd (by decide) c) (fun c_117 => ?_)
        refine gt_ hX (97) 217 (by decide +kernel) (by decide) ?_
        refine bk hX lkX12_ok (pc' := 220) [.iinc 5 1] (by decide +kernel) (And.intro trivial ?_)
        refine gt_ hX (-115) 105 (by decide +kernel) (by decide) ?_
        refine z_lvk (lv' := [(0, _), (1, _), (2, _), (3, _), (4, _), (5, _)]) [1, 2, 3, 4, 5, 0] rfl ?_
        rw [nI_add]
        refine ih (k + 1) _ _ I2 (by omega) f2 f3 ?_
        rw [hstep, if_neg v1]
        exact f4
  have hall : (x = 0 ∨ isIn (x - nI 10) (gn g) = true) → ∀ u j (I1 : Nat → Nat → Int32), j + u = gn g → sE I I1 → (∀ p c, p < gn g → c < gn g → I1 132 (6 * p + c) = tmS g w p c) → zS X (sg K N Rf I1 L) 0 0 78 [(0, .ref 100), (1, .int x), (2, .int (nI (6 ^ j))), (3, .int (nI j))] [] := by
    intro hx u
    induction u with
    | zero =>
      intro j I1 hj d1 d2
      obtain rfl : j = gn g := by omega
      rw [← hA]
      refine bk hX lkX12_ok (pc' := 83) [.iload_n 3, .aload_n 0, .getfield 7] (by decide +kernel) (And.intro trivial ?_)
      rw [hw I1 d1]
      refine ic_ge hX (14) 97 (by decide +kernel) (by decide) (fun c_83 => ?_) (fun c => absurd (nI_le (by omega) (by omega)) c)
      refine bk hX lkX12_ok (pc' := 105) [.iconst 0, .istore_n 3, .iconst 0, .istore 4, .iconst 0, .istore 5] (by decide +kernel) (And.intro trivial ?_)
      refine z_lvk (lv' := [(0, _), (1, _), (2, _), (3, _), (4, _), (5, _)]) [3, 4, 5, 2, 1, 0] rfl ?_
      exact hmain hx A 0 _ _ I1 (by omega) d1 d2 rfl
    | succ u ih =>
      intro j I1 hj d1 d2
      have hp := p6_le (n := j) (by omega)
      refine bk hX lkX12_ok (pc' := 83) [.iload_n 3, .aload_n 0, .getfield 7] (by decide +kernel) (And.intro trivial ?_)
      rw [hw I1 d1]
      refine ic_ge hX (14) 97 (by decide +kernel) (by decide) (fun c => absurd c (nI_ge (by omega) (by omega))) (fun c_83 => ?_)
      refine bk hX lkX12_ok (pc' := 94) [.iload_n 2, .bipush 6, .imul, .istore_n 2, .iinc 3 1] (by decide +kernel) (And.intro trivial ?_)
      refine gt_ hX (-16) 78 (by decide +kernel) (by decide) ?_
      refine z_lvk (lv' := [(0, _), (1, _), (2, _), (3, _)]) [2, 3, 1, 0] rfl ?_
      rw [show nI (6 ^ j) * nI 6 = nI (6 ^ (j + 1)) by rw [Nat.pow_succ]; exact pk_mul _ _, nI_add]
      exact ih (j + 1) I1 (by omega) d1 d2
  have hcc : (x = 0 ∨ isIn (x - nI 10) (gn g) = true) → ∀ p, p < gn g → (∀ (I1 : Nat → Nat → Int32), sE I I1 → (∀ q c, q < p + 1 → c < gn g → I1 132 (6 * q + c) = tmS g w q c) → zS X (sg K N Rf I1 L) 0 0 27 [(0, .ref 100), (1, .int x), (2, .int (nI (p + 1)))] []) → ∀ u c (I1 : Nat → Nat → Int32), c + u = gn g → sE I I1 → (∀ q d, q < p → d < gn g → I1 132 (6 * q + d) = tmS g w q d) → (∀ d, d < c → I1 132 (6 * p + d) = tmS g w p d) → zS X (sg K N Rf I1 L) 0 0 37 [(0, .ref 100), (1, .int x), (2, .int (nI p)), (3, .int (nI c))] [] := by
    intro hx p hp hk u
    induction u with
    | zero =>
      intro c I1 hc d1 d2 d3
      obtain rfl : c = gn g := by omega
      refine bk hX lkX12_ok (pc' := 42) [.iload_n 3, .aload_n 0, .getfield 7] (by decide +kernel) (And.intro trivial ?_)
      rw [hw I1 d1]
      refine ic_ge hX (26) 68 (by decide +kernel) (by decide) (fun c_42 => ?_) (fun c => absurd (nI_le (by omega) (by omega)) c)
      refine bk hX lkX12_ok (pc' := 71) [.iinc 2 1] (by decide +kernel) (And.intro trivial ?_)
      refine gt_ hX (-44) 27 (by decide +kernel) (by decide) ?_
      refine z_lvk (lv' := [(0, _), (1, _), (2, _)]) [1, 2, 0] rfl ?_
      rw [nI_add]
      refine hk I1 d1 (fun q d hq hd => ?_)
      by_cases e : q = p
      · subst e; exact d3 d hd
      · exact d2 q d (by omega) hd
    | succ u ih =>
      intro c I1 hc d1 d2 d3
      have cx2 : (nI (6 * p + c)).toNatClampNeg = 6 * p + c := cl (by omega)
      refine bk hX lkX12_ok (pc' := 42) [.iload_n 3, .aload_n 0, .getfield 7] (by decide +kernel) (And.intro trivial ?_)
      rw [hw I1 d1]
      refine ic_ge hX (26) 68 (by decide +kernel) (by decide) (fun c => absurd c (nI_ge (by omega) (by omega))) (fun c_42 => ?_)
      refine bk hX lkX12_ok (pc' := 58) [.aload_n 0, .getfield 105, .bipush 6, .iload_n 2, .imul, .iload_n 3, .iadd, .aload_n 0, .iload_n 2, .iload_n 3] (by decide +kernel) (And.intro trivial ?_)
      refine z_callV hX kw_X12_313 (c_M_temper E K N Rf I1 L hg (mG_sE hG d1) (by omega) (mHB_sE hB d1) hp (show c < gn g by omega)) rfl rfl rfl rfl rfl (by decide +kernel) (by decide) (by decide) (by decide) (by decide) (Nat.le_of_ble_eq_true rfl) ?_
      rintro _ _ ⟨I2, rfl, q3, rfl⟩
      rw [show nI 6 * nI p = nI (6 * p) from pk_mul _ _, nI_add]
      refine bk hX lkX12_ok (pc' := 65) [.iastore, .iinc 3 1] (by decide +kernel) (And.intro (by exact vin 36 (by omega)) (And.intro trivial ?_))
      refine gt_ hX (-28) 37 (by decide +kernel) (by decide) ?_
      refine z_lvk (lv' := [(0, _), (1, _), (2, _), (3, _)]) [1, 2, 3, 0] rfl ?_
      rw [cx2, nI_add]
      refine ih (c + 1) _ (by omega) (sE_tr (sE_tr d1 (sE_pile q3)) (up_sE (by decide))) (fun q d hq hd => ?_) (fun d hd => ?_)
      · rw [up2_at, if_neg (by omega), q3 _ (by decide)]; exact d2 q d hq hd
      · rw [up2_at]
        split
        · rename_i e; rw [show d = c by omega]
        · rw [q3 _ (by decide)]; exact d3 d (by omega)
  have hpp : (x = 0 ∨ isIn (x - nI 10) (gn g) = true) → ∀ u p (I1 : Nat → Nat → Int32), p + u = gn g → sE I I1 → (∀ q c, q < p → c < gn g → I1 132 (6 * q + c) = tmS g w q c) → zS X (sg K N Rf I1 L) 0 0 27 [(0, .ref 100), (1, .int x), (2, .int (nI p))] [] := by
    intro hx u
    induction u with
    | zero =>
      intro p I1 hp d1 d2
      obtain rfl : p = gn g := by omega
      refine bk hX lkX12_ok (pc' := 32) [.iload_n 2, .aload_n 0, .getfield 7] (by decide +kernel) (And.intro trivial ?_)
      rw [hw I1 d1]
      refine ic_ge hX (42) 74 (by decide +kernel) (by decide) (fun c_32 => ?_) (fun c => absurd (nI_le (by omega) (by omega)) c)
      refine bk hX lkX12_ok (pc' := 78) [.iconst 1, .istore_n 2, .iconst 0, .istore_n 3] (by decide +kernel) (And.intro trivial ?_)
      refine z_lvk (lv' := [(0, _), (1, _), (2, _), (3, _)]) [2, 3, 1, 0] rfl ?_
      exact hall hx (gn g) 0 I1 (by omega) d1 d2
    | succ u ih =>
      intro p I1 hp d1 d2
      refine bk hX lkX12_ok (pc' := 32) [.iload_n 2, .aload_n 0, .getfield 7] (by decide +kernel) (And.intro trivial ?_)
      rw [hw I1 d1]
      refine ic_ge hX (42) 74 (by decide +kernel) (by decide) (fun c => absurd c (nI_ge (by omega) (by omega))) (fun c_32 => ?_)
      refine bk hX lkX12_ok (pc' := 37) [.iconst 0, .istore_n 3] (by decide +kernel) (And.intro trivial ?_)
      refine z_lvk (lv' := [(0, _), (1, _), (2, _), (3, _)]) [1, 2, 3, 0] rfl ?_
      exact hcc hx p (by omega) (fun I2 e1 e2 => ih (p + 1) I2 (by omega) e1 e2) (gn g) 0 I1 (by omega) d1 d2 (fun d hd => absurd hd (Nat.not_lt_zero _))
  refine bk hX lkX12_ok (pc' := 1) [.iload_n 1] (by decide +kernel) (And.intro trivial ?_)
  refine if_eq hX (24) 25 (by decide +kernel) (by decide) (fun cx => ?_) (fun cx => ?_)
  · refine bk hX lkX12_ok (pc' := 27) [.iconst 0, .istore_n 2] (by decide +kernel) (And.intro trivial ?_)
    refine z_lvk (lv' := [(0, _), (1, _), (2, _)]) [1, 2, 0] rfl ?_
    first
      | exact hpp (Or.inl cx) (gn g) 0 I (by omega) (sE_rf _) (fun q c hq => absurd hq (Nat.not_lt_zero _))
      | exact hpp (Or.inr h10) (gn g) 0 I (by omega) (sE_rf _) (fun q c hq => absurd hq (Nat.not_lt_zero _))
  · refine bk hX lkX12_ok (pc' := 14) [.aload_n 0, .iload_n 1, .bipush 10, .bipush 9, .aload_n 0, .getfield 7] (by decide +kernel) (And.intro trivial ?_)
    rw [hG.1]
    refine bk hX lkX12_ok (pc' := 15) [.iadd] (by decide +kernel) (And.intro trivial ?_)
    refine z_callV hX kw_X12_228 (c_M_in E _ _ _ _ _) rfl rfl rfl rfl rfl (by decide +kernel) (by decide) (by decide) (by decide) (by decide) (Nat.le_of_ble_eq_true rfl) ?_
    rintro _ _ ⟨rfl, hh⟩
    rw [in10 10 (by decide) h6] at hh
    rcases hh with ⟨h10, rfl⟩ | ⟨h10, rfl⟩
    · refine if_ne hX (7) 25 (by decide +kernel) (by decide) (fun c_18 => ?_) (fun c => absurd c (by decide))
      refine bk hX lkX12_ok (pc' := 27) [.iconst 0, .istore_n 2] (by decide +kernel) (And.intro trivial ?_)
      refine z_lvk (lv' := [(0, _), (1, _), (2, _)]) [1, 2, 0] rfl ?_
      first
        | exact hpp (Or.inl cx) (gn g) 0 I (by omega) (sE_rf _) (fun q c hq => absurd hq (Nat.not_lt_zero _))
        | exact hpp (Or.inr h10) (gn g) 0 I (by omega) (sE_rf _) (fun q c hq => absurd hq (Nat.not_lt_zero _))
    · refine if_ne hX (7) 25 (by decide +kernel) (by decide) (fun c => absurd (by decide) c) (fun c_18 => ?_)
      refine bk hX lkX12_ok (pc' := 24) [.sipush (Int.negSucc 1000)] (by decide +kernel) (And.intro trivial ?_)
      exact z_iret hX (by decide +kernel) rfl (rfl) (by decide) (by decide) (⟨I, rfl, by unfold bestS; rw [if_neg cx, if_neg h10], sE_rf _⟩)
