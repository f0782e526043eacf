def shfT (T : Tp) (t i o j k : Nat) : Tp := (T.1, T.2.1, fun x y => if x = o ∧ j ≤ y ∧ y < j + k then T.2.2 t (i + (y - j)) else T.2.2 x y)
abbrev shBad (T : Tp) (t o : Nat) (i j n : Int32) : Prop := n < 0 ∨ i < 0 ∨ j < 0 ∨ nI (T.2.1 t) - n < i ∨ nI (T.2.1 o) - n < j
def shfS (T : Tp) (t i o j n : Int32) : Int32 × Tp := if isIn t 6 = true ∧ isIn o 6 = true then (if T.1 (jx t) = -nI 1 ∨ T.1 (jx o) = -nI 1 then (-nI 11, T) else if T.1 (jx t) = T.1 (jx o) then (if shBad T (jx t) (jx o) i j n then (-nI 13, T) else (n, shfT T (jx t) (jx i) (jx o) (jx j) (jx n))) else (-nI 12, T)) else (-nI 1, T)
theorem sub_l {l k : Nat} (hl : l ≤ 60) (hk : k < 2 ^ 31) : (nI l - nI k).toInt = (l : Int) - k := by
  rw [Int32.toInt_sub, nI_toInt (by omega), nI_toInt hk]
  simp only [Int.bmod]
  split <;> omega
theorem sh_ok {T : Tp} (hw : tpw T) {t o : Nat} (ht : t < 6) (ho : o < 6) {i j n : Int32} (h : ¬ shBad T t o i j n) : ∃ k x y, n = nI k ∧ i = nI x ∧ j = nI y ∧ x + k ≤ T.2.1 t ∧ y + k ≤ T.2.1 o := by
  unfold shBad at h
  have h1 : ¬ n < 0 := fun z => h (Or.inl z)
  have h2 : ¬ i < 0 := fun z => h (Or.inr (Or.inl z))
  have h3 : ¬ j < 0 := fun z => h (Or.inr (Or.inr (Or.inl z)))
  have h4 : ¬ nI (T.2.1 t) - n < i := fun z => h (Or.inr (Or.inr (Or.inr (Or.inl z))))
  have h5 : ¬ nI (T.2.1 o) - n < j := fun z => h (Or.inr (Or.inr (Or.inr (Or.inr z))))
  obtain ⟨k, hk, rfl⟩ := nI_of h1
  obtain ⟨x, hx, rfl⟩ := nI_of h2
  obtain ⟨y, hy, rfl⟩ := nI_of h3
  rw [Int32.lt_iff_toInt_lt, sub_l (hw t ht).2 hk, nI_toInt hx] at h4
  rw [Int32.lt_iff_toInt_lt, sub_l (hw o ho).2 hk, nI_toInt hy] at h5
  exact ⟨k, x, y, rfl, rfl, rfl, by omega, by omega⟩
set_option maxHeartbeats 2000000 in
set_option maxRecDepth 4000 in
theorem c_M_shift (E : zE) (K N : Nat → Nat) (Rf : Nat → Nat → Option Nat) (I : Nat → Nat → Int32) (L : Nat → Nat → Int64) {T : Tp} (hw : tpw T) (hT : mTp T I L) (t i o j n : Int32) : zCt E mX12_shift 2 0 0 (sg K N Rf I L) [.ref 100, .int t, .int i, .int o, .int j, .int n] (fun r σ' => ∃ L', σ' = sg K N Rf I L' ∧ r = some (.int (shfS T t i o j n).1) ∧ mTp (shfS T t i o j n).2 I L' ∧ frL L L') := by
  refine z_intro (by decide) (Nat.le_of_ble_eq_true rfl) (fun X hX => ?_)
  have hl2 : ∀ a x b y k, a < 6 → b < 6 → t = nI a → i = nI x → o = nI b → j = nI y → n = nI k → x + k ≤ T.2.1 a → y + k ≤ T.2.1 b → shfS T t i o j n = (n, shfT T a x b y k) → ∀ m q (L1 : Nat → Nat → Int64), q + m = k → (∀ r, r < k → L1 170 r = T.2.2 a (x + r)) → (∀ r, r < q → L1 169 (60 * b + y + r) = T.2.2 a (x + r)) → (∀ p z, p ≠ 170 → ¬ (p = 169 ∧ 60 * b + y ≤ z ∧ z < 60 * b + y + k) → L1 p z = L p z) → zS X (sg K N Rf I L1) 0 0 141 [(0, .ref 100), (1, .int t), (2, .int i), (3, .int o), (4, .int j), (5, .int n), (6, .int (nI q))] [] := by
    intro a x b y k ha hb e1 e2 e3 e4 e5 hx hy hS m
    subst e1 e2 e3 e4 e5
    have ha60 := (hw a ha).2
    have hb60 := (hw b hb).2
    induction m with
    | zero =>
      intro q L1 hq h1 h2 h3
      obtain rfl : q = k := by omega
      refine bk hX lkX12_ok (pc' := 145) [.iload 6, .iload 5] (by decide +kernel) (And.intro trivial ?_)
      refine ic_ge hX (31) 176 (by decide +kernel) (by decide) (fun c_145 => ?_) (fun c => absurd (nI_le (by omega) (by omega)) c)
      refine bk hX lkX12_ok (pc' := 178) [.iload 5] (by decide +kernel) (And.intro trivial ?_)
      exact z_iret hX (by decide +kernel) rfl (rfl) (by decide) (by decide) (by
  rw [hS]
  refine ⟨_, rfl, rfl, fun c hc => ?_, fun p p1 p2 => funext fun z => h3 p z p2 (fun w => p1 w.1)⟩
  obtain ⟨t1, t2, t3⟩ := hT c hc
  refine ⟨t1, t2, fun u hu => ?_⟩
  have hu' : u < T.2.1 c := hu
  have hc60 := (hw c hc).2
  show L1 169 (60 * c + u) = if c = b ∧ y ≤ u ∧ u < y + q then T.2.2 a (x + (u - y)) else T.2.2 c u
  by_cases e : c = b ∧ y ≤ u ∧ u < y + q
  · rw [if_pos e]
    obtain ⟨rfl, e2, e3⟩ := e
    have := h2 (u - y) (by omega)
    rw [show 60 * c + y + (u - y) = 60 * c + u by omega] at this
    exact this
  · rw [if_neg e, h3 _ _ (by decide) (by omega)]
    exact t3 u hu' )
    | succ m ih =>
      intro q L1 hq h1 h2 h3
      have cq : (nI q).toNatClampNeg = q := cl (by omega)
      have ci : (nI (60 * b + y + q)).toNatClampNeg = 60 * b + y + q := cl (by omega)
      refine bk hX lkX12_ok (pc' := 145) [.iload 6, .iload 5] (by decide +kernel) (And.intro trivial ?_)
      refine ic_ge hX (31) 176 (by decide +kernel) (by decide) (fun c => absurd c (nI_ge (by omega) (by omega))) (fun c_145 => ?_)
      refine bk hX lkX12_ok (pc' := 173) [.aload_n 0, .getfield 217, .bipush 60, .iload_n 3, .imul, .iload 4, .iadd, .iload 6, .iadd, .aload_n 0, .getfield 221, .iload 6, .laload, .lastore, .iinc 6 1] (by decide +kernel) (And.intro (by exact vin 60 (by omega)) (And.intro (by rw [show nI 60 * nI b = nI (60 * b) from pk_mul _ _, nI_add, nI_add]; exact vin 360 (by omega)) (And.intro trivial ?_)))
      refine gt_ hX (-32) 141 (by decide +kernel) (by decide) ?_
      refine z_lvk (lv' := [(0, _), (1, _), (2, _), (3, _), (4, _), (5, _), (6, _)]) [1, 2, 3, 4, 5, 6, 0] rfl ?_
      rw [show nI 60 * nI b = nI (60 * b) from pk_mul _ _, nI_add, nI_add, nI_add, ci, cq, show L1 (101 + 69) q = _ from h1 q (by omega)]
      exact ih (q + 1) _ (by omega) (fun r hr => by rw [up2_ne _ _ _ (by decide)]; exact h1 r hr) (fun r hr => by
        rw [up2_at]
        split
        · rename_i e
          rw [show r = q by omega]
        · exact h2 r (by omega)) (fun p z hp hz => by
        rw [up2_v, if_neg (by omega)]
        exact h3 p z hp hz)
  have hl1 : ∀ a x b y k, a < 6 → b < 6 → t = nI a → i = nI x → o = nI b → j = nI y → n = nI k → x + k ≤ T.2.1 a → y + k ≤ T.2.1 b → shfS T t i o j n = (n, shfT T a x b y k) → ∀ m q (L1 : Nat → Nat → Int64), q + m = k → (∀ r, r < q → L1 170 r = T.2.2 a (x + r)) → (∀ p, p ≠ 170 → L1 p = L p) → zS X (sg K N Rf I L1) 0 0 104 [(0, .ref 100), (1, .int t), (2, .int i), (3, .int o), (4, .int j), (5, .int n), (6, .int (nI q))] [] := by
    intro a x b y k ha hb e1 e2 e3 e4 e5 hx hy hS m
    subst e1 e2 e3 e4 e5
    have ha60 := (hw a ha).2
    have hb60 := (hw b hb).2
    obtain ⟨t1, t2, t3⟩ := hT a ha
    induction m with
    | zero =>
      intro q L1 hq h1 h2
      obtain rfl : q = k := by omega
      refine bk hX lkX12_ok (pc' := 108) [.iload 6, .iload 5] (by decide +kernel) (And.intro trivial ?_)
      refine ic_ge hX (30) 138 (by decide +kernel) (by decide) (fun c_108 => ?_) (fun c => absurd (nI_le (by omega) (by omega)) c)
      refine bk hX lkX12_ok (pc' := 141) [.iconst 0, .istore 6] (by decide +kernel) (And.intro trivial ?_)
      refine z_lvk (lv' := [(0, _), (1, _), (2, _), (3, _), (4, _), (5, _), (6, _)]) [1, 2, 3, 4, 5, 6, 0] rfl ?_
      exact hl2 a x b y q ha hb rfl rfl rfl rfl rfl hx hy hS q 0 L1 (by omega) h1 (fun r hr => absurd hr (Nat.not_lt_zero _)) (fun p z hp _ => by rw [h2 p hp])
    | succ m ih =>
      intro q L1 hq h1 h2
      have cq : (nI q).toNatClampNeg = q := cl (by omega)
      have ci : (nI (60 * a + x + q)).toNatClampNeg = 60 * a + x + q := cl (by omega)
      have e3 : L1 169 (60 * a + x + q) = T.2.2 a (x + q) := by
        rw [h2 _ (by decide), show 60 * a + x + q = 60 * a + (x + q) by omega]
        exact t3 (x + q) (by omega)
      refine bk hX lkX12_ok (pc' := 108) [.iload 6, .iload 5] (by decide +kernel) (And.intro trivial ?_)
      refine ic_ge hX (30) 138 (by decide +kernel) (by decide) (fun c => absurd c (nI_ge (by omega) (by omega))) (fun c_108 => ?_)
      refine bk hX lkX12_ok (pc' := 135) [.aload_n 0, .getfield 221, .iload 6, .aload_n 0, .getfield 217, .bipush 60, .iload_n 1, .imul, .iload_n 2, .iadd, .iload 6, .iadd, .laload, .lastore, .iinc 6 1] (by decide +kernel) (And.intro (by rw [show nI 60 * nI a = nI (60 * a) from pk_mul _ _, nI_add, nI_add]; exact vin 360 (by omega)) (And.intro (by exact vin 60 (by omega)) (And.intro trivial ?_)))
      refine gt_ hX (-31) 104 (by decide +kernel) (by decide) ?_
      refine z_lvk (lv' := [(0, _), (1, _), (2, _), (3, _), (4, _), (5, _), (6, _)]) [1, 2, 3, 4, 5, 6, 0] rfl ?_
      rw [show nI 60 * nI a = nI (60 * a) from pk_mul _ _, nI_add, nI_add, nI_add, ci, cq, show L1 (101 + 68) _ = _ from e3]
      exact ih (q + 1) _ (by omega) (fun r hr => by
        rw [up2_at]
        split
        · rename_i e
          rw [e]
        · exact h1 r (by omega)) (fun p hp => by rw [up2_ne _ _ _ hp]; exact h2 p hp)
  refine bk hX lkX12_ok (pc' := 2) [.aload_n 0, .iload_n 1] (by decide +kernel) (And.intro trivial ?_)
  refine z_callV hX kw_X12_388 (c_M_isTape E _ rfl _) rfl rfl rfl rfl rfl (by decide +kernel) (by decide) (by decide) (by decide) (by decide) (Nat.le_of_ble_eq_true rfl) ?_
  rintro _ _ ⟨rfl, hh⟩
  rw [tap_in] at hh
  rcases hh with ⟨ht, rfl⟩ | ⟨ht, rfl⟩
  · refine if_eq hX (11) 16 (by decide +kernel) (by decide) (fun c => absurd c (by decide)) (fun c_5 => ?_)
    refine bk hX lkX12_ok (pc' := 10) [.aload_n 0, .iload_n 3] (by decide +kernel) (And.intro trivial ?_)
    refine z_callV hX kw_X12_388 (c_M_isTape E _ rfl _) rfl rfl rfl rfl rfl (by decide +kernel) (by decide) (by decide) (by decide) (by decide) (Nat.le_of_ble_eq_true rfl) ?_
    rintro _ _ ⟨rfl, hh⟩
    rw [tap_in] at hh
    rcases hh with ⟨ho, rfl⟩ | ⟨ho, rfl⟩
    · refine if_ne hX (5) 18 (by decide +kernel) (by decide) (fun c_13 => ?_) (fun c => absurd c (by decide))
      obtain ⟨a, ha, rfl⟩ := (isIn_iff (by decide)).mp ht
      obtain ⟨b, hb, rfl⟩ := (isIn_iff (by decide)).mp ho
      have ca : (nI a).toNatClampNeg = a := cl (by omega)
      have cb : (nI b).toNatClampNeg = b := cl (by omega)
      obtain ⟨t1, t2, t3⟩ := hT a ha
      obtain ⟨o1, o2, o3⟩ := hT b hb
      have hS : shfS T (nI a) i (nI b) j n = if T.1 a = -nI 1 ∨ T.1 b = -nI 1 then (-nI 11, T) else if T.1 a = T.1 b then (if shBad T a b i j n then (-nI 13, T) else (n, shfT T a (jx i) b (jx j) (jx n))) else (-nI 12, T) := by
        unfold shfS; rw [if_pos ⟨ht, ho⟩, jx_nI (by omega), jx_nI (by omega)]
      refine bk hX lkX12_ok (pc' := 24) [.aload_n 0, .getfield 211, .iload_n 1, .iaload] (by decide +kernel) (And.intro (by exact vin 6 ha) (And.intro trivial ?_))
      rw [ca, show I (101 + 66) a = _ from t1]
      refine if_lt hX (12) 36 (by decide +kernel) (by decide) (fun c1 => ?_) (fun c1 => ?_)
      · refine bk hX lkX12_ok (pc' := 38) [.bipush (Int.negSucc 10)] (by decide +kernel) (And.intro trivial ?_)
        exact z_iret hX (by decide +kernel) rfl (rfl) (by decide) (by decide) (by rw [hS]; first | (rw [if_pos (Or.inl ((tpw_lt hw ha).1.mp c1))]; exact ⟨L, rfl, rfl, hT, frL_rf _⟩) | (rw [if_pos (Or.inr ((tpw_lt hw hb).1.mp (i_nle.mp c2)))]; exact ⟨L, rfl, rfl, hT, frL_rf _⟩))
      · refine bk hX lkX12_ok (pc' := 33) [.aload_n 0, .getfield 211, .iload_n 3, .iaload] (by decide +kernel) (And.intro (by exact vin 6 hb) (And.intro trivial ?_))
        rw [cb, show I (101 + 66) b = _ from o1]
        refine if_ge hX (6) 39 (by decide +kernel) (by decide) (fun c2 => ?_) (fun c2 => ?_)
        · have hn : ¬ (T.1 a = -nI 1 ∨ T.1 b = -nI 1) := fun z => z.elim (fun y => c1 ((tpw_lt hw ha).1.mpr y)) (fun y => (tpw_lt hw hb).2.mp c2 y)
          rw [if_neg hn] at hS
          refine bk hX lkX12_ok (pc' := 51) [.aload_n 0, .getfield 211, .iload_n 1, .iaload, .aload_n 0, .getfield 211, .iload_n 3, .iaload] (by decide +kernel) (And.intro (by exact vin 6 ha) (And.intro (by exact vin 6 hb) (And.intro trivial ?_)))
          rw [ca, cb, show I (101 + 66) a = _ from t1, show I (101 + 66) b = _ from o1]
          refine ic_eq hX (6) 57 (by decide +kernel) (by decide) (fun c3 => ?_) (fun c3 => ?_)
          · rw [if_pos c3] at hS
            refine bk hX lkX12_ok (pc' := 59) [.iload 5] (by decide +kernel) (And.intro trivial ?_)
            refine if_lt hX (39) 98 (by decide +kernel) (by decide) (fun d1 => ?_) (fun d1 => ?_)
            · refine bk hX lkX12_ok (pc' := 100) [.bipush (Int.negSucc 12)] (by decide +kernel) (And.intro trivial ?_)
              exact z_iret hX (by decide +kernel) rfl (rfl) (by decide) (by decide) (by
  have hb : shBad T a b i j n := by first | exact Or.inl d1 | exact Or.inr (Or.inl d2) | exact Or.inr (Or.inr (Or.inl d3)) | exact Or.inr (Or.inr (Or.inr (Or.inl d4))) | exact Or.inr (Or.inr (Or.inr (Or.inr (i_nle.mp d5))))
  rw [hS, if_pos hb]; exact ⟨L, rfl, rfl, hT, frL_rf _⟩)
            · refine bk hX lkX12_ok (pc' := 63) [.iload_n 2] (by decide +kernel) (And.intro trivial ?_)
              refine if_lt hX (35) 98 (by decide +kernel) (by decide) (fun d2 => ?_) (fun d2 => ?_)
              · refine bk hX lkX12_ok (pc' := 100) [.bipush (Int.negSucc 12)] (by decide +kernel) (And.intro trivial ?_)
                exact z_iret hX (by decide +kernel) rfl (rfl) (by decide) (by decide) (by
  have hb : shBad T a b i j n := by first | exact Or.inl d1 | exact Or.inr (Or.inl d2) | exact Or.inr (Or.inr (Or.inl d3)) | exact Or.inr (Or.inr (Or.inr (Or.inl d4))) | exact Or.inr (Or.inr (Or.inr (Or.inr (i_nle.mp d5))))
  rw [hS, if_pos hb]; exact ⟨L, rfl, rfl, hT, frL_rf _⟩)
              · refine bk hX lkX12_ok (pc' := 68) [.iload 4] (by decide +kernel) (And.intro trivial ?_)
                refine if_lt hX (30) 98 (by decide +kernel) (by decide) (fun d3 => ?_) (fun d3 => ?_)
                · refine bk hX lkX12_ok (pc' := 100) [.bipush (Int.negSucc 12)] (by decide +kernel) (And.intro trivial ?_)
                  exact z_iret hX (by decide +kernel) rfl (rfl) (by decide) (by decide) (by
  have hb : shBad T a b i j n := by first | exact Or.inl d1 | exact Or.inr (Or.inl d2) | exact Or.inr (Or.inr (Or.inl d3)) | exact Or.inr (Or.inr (Or.inr (Or.inl d4))) | exact Or.inr (Or.inr (Or.inr (Or.inr (i_nle.mp d5))))
  rw [hS, if_pos hb]; exact ⟨L, rfl, rfl, hT, frL_rf _⟩)
                · refine bk hX lkX12_ok (pc' := 78) [.iload_n 2, .aload_n 0, .getfield 214, .iload_n 1, .iaload] (by decide +kernel) (And.intro (by exact vin 6 ha) (And.intro trivial ?_))
                  rw [ca, show I (101 + 67) a = _ from t2]
                  refine bk hX lkX12_ok (pc' := 81) [.iload 5, .isub] (by decide +kernel) (And.intro trivial ?_)
                  refine ic_gt hX (17) 98 (by decide +kernel) (by decide) (fun d4 => ?_) (fun d4 => ?_)
                  · refine bk hX lkX12_ok (pc' := 100) [.bipush (Int.negSucc 12)] (by decide +kernel) (And.intro trivial ?_)
                    exact z_iret hX (by decide +kernel) rfl (rfl) (by decide) (by decide) (by
  have hb : shBad T a b i j n := by first | exact Or.inl d1 | exact Or.inr (Or.inl d2) | exact Or.inr (Or.inr (Or.inl d3)) | exact Or.inr (Or.inr (Or.inr (Or.inl d4))) | exact Or.inr (Or.inr (Or.inr (Or.inr (i_nle.mp d5))))
  rw [hS, if_pos hb]; exact ⟨L, rfl, rfl, hT, frL_rf _⟩)
                  · refine bk hX lkX12_ok (pc' := 92) [.iload 4, .aload_n 0, .getfield 214, .iload_n 3, .iaload] (by decide +kernel) (And.intro (by exact vin 6 hb) (And.intro trivial ?_))
                    rw [cb, show I (101 + 67) b = _ from o2]
                    refine bk hX lkX12_ok (pc' := 95) [.iload 5, .isub] (by decide +kernel) (And.intro trivial ?_)
                    refine ic_le hX (6) 101 (by decide +kernel) (by decide) (fun d5 => ?_) (fun d5 => ?_)
                    · refine bk hX lkX12_ok (pc' := 104) [.iconst 0, .istore 6] (by decide +kernel) (And.intro trivial ?_)
                      refine z_lvk (lv' := [(0, _), (1, _), (2, _), (3, _), (4, _), (5, _), (6, _)]) [1, 2, 3, 4, 5, 6, 0] rfl ?_
                      have hbd : ¬ shBad T a b i j n := fun z => by
                        rcases z with z | z | z | z | z
                        · exact d1 z
                        · exact d2 z
                        · exact d3 z
                        · exact d4 z
                        · exact i_nlt.mpr d5 z
                      rw [if_neg hbd] at hS
                      have ha60 := (hw a ha).2
                      have hb60 := (hw b hb).2
                      obtain ⟨k, x, y, rfl, rfl, rfl, hx, hy⟩ := sh_ok hw ha hb hbd
                      rw [jx_nI (by omega), jx_nI (by omega), jx_nI (by omega)] at hS
                      exact hl1 a x b y k ha hb rfl rfl rfl rfl rfl hx hy hS k 0 L (by omega) (fun r hr => absurd hr (Nat.not_lt_zero _)) (fun _ _ => rfl)
                    · refine bk hX lkX12_ok (pc' := 100) [.bipush (Int.negSucc 12)] (by decide +kernel) (And.intro trivial ?_)
                      exact z_iret hX (by decide +kernel) rfl (rfl) (by decide) (by decide) (by
  have hb : shBad T a b i j n := by first | exact Or.inl d1 | exact Or.inr (Or.inl d2) | exact Or.inr (Or.inr (Or.inl d3)) | exact Or.inr (Or.inr (Or.inr (Or.inl d4))) | exact Or.inr (Or.inr (Or.inr (Or.inr (i_nle.mp d5))))
  rw [hS, if_pos hb]; exact ⟨L, rfl, rfl, hT, frL_rf _⟩)
          · refine bk hX lkX12_ok (pc' := 56) [.bipush (Int.negSucc 11)] (by decide +kernel) (And.intro trivial ?_)
            exact z_iret hX (by decide +kernel) rfl (rfl) (by decide) (by decide) (by rw [hS, if_neg c3]; exact ⟨L, rfl, rfl, hT, frL_rf _⟩)
        · refine bk hX lkX12_ok (pc' := 38) [.bipush (Int.negSucc 10)] (by decide +kernel) (And.intro trivial ?_)
          exact z_iret hX (by decide +kernel) rfl (rfl) (by decide) (by decide) (by rw [hS]; first | (rw [if_pos (Or.inl ((tpw_lt hw ha).1.mp c1))]; exact ⟨L, rfl, rfl, hT, frL_rf _⟩) | (rw [if_pos (Or.inr ((tpw_lt hw hb).1.mp (i_nle.mp c2)))]; exact ⟨L, rfl, rfl, hT, frL_rf _⟩))
    · refine if_ne hX (5) 18 (by decide +kernel) (by decide) (fun c => absurd (by decide) c) (fun c_13 => ?_)
      refine bk hX lkX12_ok (pc' := 17) [.iconst (Int.negSucc 0)] (by decide +kernel) (And.intro trivial ?_)
      exact z_iret hX (by decide +kernel) rfl (rfl) (by decide) (by decide) (by first | exact ⟨L, rfl, by unfold shfS; rw [if_neg (fun z => ht z.1)], by unfold shfS; rw [if_neg (fun z => ht z.1)]; exact hT, frL_rf _⟩ | exact ⟨L, rfl, by unfold shfS; rw [if_neg (fun z => ho z.2)], by unfold shfS; rw [if_neg (fun z => ho z.2)]; exact hT, frL_rf _⟩)
  · refine if_eq hX (11) 16 (by decide +kernel) (by decide) (fun c_5 => ?_) (fun c => absurd (by decide) c)
    refine bk hX lkX12_ok (pc' := 17) [.iconst (Int.negSucc 0)] (by decide +kernel) (And.intro trivial ?_)
    exact z_iret hX (by decide +kernel) rfl (rfl) (by decide) (by decide) (by first | exact ⟨L, rfl, by unfold shfS; rw [if_neg (fun z => ht z.1)], by unfold shfS; rw [if_neg (fun z => ht z.1)]; exact hT, frL_rf _⟩ | exact ⟨L, rfl, by unfold shfS; rw [if_neg (fun z => ho z.2)], by unfold shfS; rw [if_neg (fun z => ho z.2)]; exact hT, frL_rf _⟩)
