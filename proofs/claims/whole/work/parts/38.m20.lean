theorem lg_cmp0 {x y : Int64} : lg_cmp x y = 0 ↔ x = y := by
  unfold lg_cmp
  split
  · rename_i h
    constructor
    · intro z; exact absurd z (by decide)
    · intro z; subst z; exact absurd h (by rw [gt_iff_lt, Int64.lt_iff_toInt_lt]; omega)
  · split
    · rename_i h2; simp [h2]
    · rename_i h2; simp [h2]
def narS (s : Int32) (z : Int64) : Int64 := if s = nI 0 then z.toInt32.toInt8.toInt32.toInt64 else if s = nI 1 then z.toInt32.toInt16.toInt32.toInt64 else if s = nI 2 then z.toInt32.toInt64 else if s = nI 4 then (if z = 0 then 0 else 1) else z
theorem c_M_narrow (E : zE) (σ : Sg) (a : Nat) (s : Int32) (z : Int64) : zCt E mX12_narrow 0 0 0 σ [.ref a, .int s, .long z] (fun r σ' => σ' = σ ∧ r = some (.long (narS s z))) := by
  refine z_intro (by decide) (Nat.le_of_ble_eq_true rfl) (fun X hX => ?_)
  refine bk hX lkX12_ok (pc' := 1) [.iload_n 1] (by decide +kernel) (And.intro trivial ?_)
  refine if_ne hX (10) 11 (by decide +kernel) (by decide) (fun c1 => ?_) (fun c1 => ?_)
  · refine bk hX lkX12_ok (pc' := 13) [.iload_n 1, .iconst 1] (by decide +kernel) (And.intro trivial ?_)
    refine ic_ne hX (10) 23 (by decide +kernel) (by decide) (fun c2 => ?_) (fun c2 => ?_)
    · refine bk hX lkX12_ok (pc' := 25) [.iload_n 1, .iconst 2] (by decide +kernel) (And.intro trivial ?_)
      refine ic_ne hX (9) 34 (by decide +kernel) (by decide) (fun c3 => ?_) (fun c3 => ?_)
      · refine bk hX lkX12_ok (pc' := 36) [.iload_n 1, .iconst 4] (by decide +kernel) (And.intro trivial ?_)
        refine ic_ne hX (17) 53 (by decide +kernel) (by decide) (fun c4 => ?_) (fun c4 => ?_)
        · refine bk hX lkX12_ok (pc' := 54) [.lload_n 2] (by decide +kernel) (And.intro trivial ?_)
          exact z_lret hX (by decide +kernel) rfl (by decide) (by decide) (by
  refine ⟨rfl, ?_⟩
  unfold narS
  first
    | (rw [if_pos (show s = nI 0 from c1)]; done)
    | (rw [if_neg (show ¬ s = nI 0 from c1), if_pos c2]; done)
    | (rw [if_neg (show ¬ s = nI 0 from c1), if_neg c2, if_pos c3]; done)
    | (rw [if_neg (show ¬ s = nI 0 from c1), if_neg c2, if_neg c3, if_pos c4, if_pos (show z = 0 from lg_cmp0.mp c5)]; rfl)
    | (rw [if_neg (show ¬ s = nI 0 from c1), if_neg c2, if_neg c3, if_pos c4, if_neg (fun y : z = 0 => c5 (lg_cmp0.mpr y))]; rfl)
    | (rw [if_neg (show ¬ s = nI 0 from c1), if_neg c2, if_neg c3, if_neg c4]; done))
        · refine bk hX lkX12_ok (pc' := 42) [.lload_n 2, .lconst 0, .lcmp] (by decide +kernel) (And.intro trivial ?_)
          refine if_eq hX (7) 49 (by decide +kernel) (by decide) (fun c5 => ?_) (fun c5 => ?_)
          · refine bk hX lkX12_ok (pc' := 50) [.lconst 0] (by decide +kernel) (And.intro trivial ?_)
            refine gt_ hX (4) 54 (by decide +kernel) (by decide) ?_
            exact z_lret hX (by decide +kernel) rfl (by decide) (by decide) (by
  refine ⟨rfl, ?_⟩
  unfold narS
  first
    | (rw [if_pos (show s = nI 0 from c1)]; done)
    | (rw [if_neg (show ¬ s = nI 0 from c1), if_pos c2]; done)
    | (rw [if_neg (show ¬ s = nI 0 from c1), if_neg c2, if_pos c3]; done)
    | (rw [if_neg (show ¬ s = nI 0 from c1), if_neg c2, if_neg c3, if_pos c4, if_pos (show z = 0 from lg_cmp0.mp c5)]; rfl)
    | (rw [if_neg (show ¬ s = nI 0 from c1), if_neg c2, if_neg c3, if_pos c4, if_neg (fun y : z = 0 => c5 (lg_cmp0.mpr y))]; rfl)
    | (rw [if_neg (show ¬ s = nI 0 from c1), if_neg c2, if_neg c3, if_neg c4]; done))
          · refine bk hX lkX12_ok (pc' := 46) [.lconst 1] (by decide +kernel) (And.intro trivial ?_)
            refine gt_ hX (8) 54 (by decide +kernel) (by decide) ?_
            exact z_lret hX (by decide +kernel) rfl (by decide) (by decide) (by
  refine ⟨rfl, ?_⟩
  unfold narS
  first
    | (rw [if_pos (show s = nI 0 from c1)]; done)
    | (rw [if_neg (show ¬ s = nI 0 from c1), if_pos c2]; done)
    | (rw [if_neg (show ¬ s = nI 0 from c1), if_neg c2, if_pos c3]; done)
    | (rw [if_neg (show ¬ s = nI 0 from c1), if_neg c2, if_neg c3, if_pos c4, if_pos (show z = 0 from lg_cmp0.mp c5)]; rfl)
    | (rw [if_neg (show ¬ s = nI 0 from c1), if_neg c2, if_neg c3, if_pos c4, if_neg (fun y : z = 0 => c5 (lg_cmp0.mpr y))]; rfl)
    | (rw [if_neg (show ¬ s = nI 0 from c1), if_neg c2, if_neg c3, if_neg c4]; done))
      · refine bk hX lkX12_ok (pc' := 31) [.lload_n 2, .l2i, .i2l] (by decide +kernel) (And.intro trivial ?_)
        refine gt_ hX (23) 54 (by decide +kernel) (by decide) ?_
        exact z_lret hX (by decide +kernel) rfl (by decide) (by decide) (by
  refine ⟨rfl, ?_⟩
  unfold narS
  first
    | (rw [if_pos (show s = nI 0 from c1)]; done)
    | (rw [if_neg (show ¬ s = nI 0 from c1), if_pos c2]; done)
    | (rw [if_neg (show ¬ s = nI 0 from c1), if_neg c2, if_pos c3]; done)
    | (rw [if_neg (show ¬ s = nI 0 from c1), if_neg c2, if_neg c3, if_pos c4, if_pos (show z = 0 from lg_cmp0.mp c5)]; rfl)
    | (rw [if_neg (show ¬ s = nI 0 from c1), if_neg c2, if_neg c3, if_pos c4, if_neg (fun y : z = 0 => c5 (lg_cmp0.mpr y))]; rfl)
    | (rw [if_neg (show ¬ s = nI 0 from c1), if_neg c2, if_neg c3, if_neg c4]; done))
    · refine bk hX lkX12_ok (pc' := 20) [.lload_n 2, .l2i, .i2s, .i2l] (by decide +kernel) (And.intro trivial ?_)
      refine gt_ hX (34) 54 (by decide +kernel) (by decide) ?_
      exact z_lret hX (by decide +kernel) rfl (by decide) (by decide) (by
  refine ⟨rfl, ?_⟩
  unfold narS
  first
    | (rw [if_pos (show s = nI 0 from c1)]; done)
    | (rw [if_neg (show ¬ s = nI 0 from c1), if_pos c2]; done)
    | (rw [if_neg (show ¬ s = nI 0 from c1), if_neg c2, if_pos c3]; done)
    | (rw [if_neg (show ¬ s = nI 0 from c1), if_neg c2, if_neg c3, if_pos c4, if_pos (show z = 0 from lg_cmp0.mp c5)]; rfl)
    | (rw [if_neg (show ¬ s = nI 0 from c1), if_neg c2, if_neg c3, if_pos c4, if_neg (fun y : z = 0 => c5 (lg_cmp0.mpr y))]; rfl)
    | (rw [if_neg (show ¬ s = nI 0 from c1), if_neg c2, if_neg c3, if_neg c4]; done))
  · refine bk hX lkX12_ok (pc' := 8) [.lload_n 2, .l2i, .i2b, .i2l] (by decide +kernel) (And.intro trivial ?_)
    refine gt_ hX (46) 54 (by decide +kernel) (by decide) ?_
    exact z_lret hX (by decide +kernel) rfl (by decide) (by decide) (by
  refine ⟨rfl, ?_⟩
  unfold narS
  first
    | (rw [if_pos (show s = nI 0 from c1)]; done)
    | (rw [if_neg (show ¬ s = nI 0 from c1), if_pos c2]; done)
    | (rw [if_neg (show ¬ s = nI 0 from c1), if_neg c2, if_pos c3]; done)
    | (rw [if_neg (show ¬ s = nI 0 from c1), if_neg c2, if_neg c3, if_pos c4, if_pos (show z = 0 from lg_cmp0.mp c5)]; rfl)
    | (rw [if_neg (show ¬ s = nI 0 from c1), if_neg c2, if_neg c3, if_pos c4, if_neg (fun y : z = 0 => c5 (lg_cmp0.mpr y))]; rfl)
    | (rw [if_neg (show ¬ s = nI 0 from c1), if_neg c2, if_neg c3, if_neg c4]; done))
def itmT (T : Tp) (t i : Nat) (z : Int64) : Tp := (T.1, T.2.1, fun x y => if x = t ∧ y = i then z else T.2.2 x y)
def itmS (T : Tp) (t i : Int32) (z : Int64) : Int32 × Tp := if isIn t 6 = true then (if T.1 (jx t) = -nI 1 then (-nI 11, T) else if isIn i (T.2.1 (jx t)) = true then (1, itmT T (jx t) (jx i) (narS (T.1 (jx t)) z)) else (-nI 13, T)) else (-nI 1, T)
set_option maxHeartbeats 1000000 in
set_option maxRecDepth 4000 in
theorem c_M_item (E : zE) (K N : Nat → Nat) (Rf : Nat → Nat → Option Nat) (I : Nat → Nat → Int32) (L : Nat → Nat → Int64) {T : Tp} (hw : tpw T) (hT : mTp T I L) (t i : Int32) (z : Int64) : zCt E mX12_item 2 0 0 (sg K N Rf I L) [.ref 100, .int t, .int i, .long z] (fun r σ' => ∃ L', σ' = sg K N Rf I L' ∧ r = some (.int (itmS T t i z).1) ∧ mTp (itmS T t i z).2 I L' ∧ frL L L') := by
  refine z_intro (by decide) (Nat.le_of_ble_eq_true rfl) (fun X hX => ?_)
  refine bk hX lkX12_ok (pc' := 2) [.aload_n 0, .iload_n 1] (by decide +kernel) (And.intro trivial ?_)
  refine z_callV hX kw_X12_388 (c_M_isTape E _ rfl _) rfl rfl rfl rfl rfl (by decide +kernel) (by decide) (by decide) (by decide) (by decide) (Nat.le_of_ble_eq_true rfl) ?_
  rintro _ _ ⟨rfl, hh⟩
  rw [tap_in] at hh
  rcases hh with ⟨ht, rfl⟩ | ⟨ht, rfl⟩
  · refine if_ne hX (5) 10 (by decide +kernel) (by decide) (fun c_5 => ?_) (fun c => absurd c (by decide))
    obtain ⟨a, ha, rfl⟩ := (isIn_iff (by decide)).mp ht
    have ca : (nI a).toNatClampNeg = a := cl (by omega)
    have ja : jx (nI a) = a := ca
    obtain ⟨t1, t2, t3⟩ := hT a ha
    have h60 := (hw a ha).2
    refine bk hX lkX12_ok (pc' := 16) [.aload_n 0, .getfield 211, .iload_n 1, .iaload] (by decide +kernel) (And.intro (by exact vin 6 ha) (And.intro trivial ?_))
    rw [ca, show I (101 + 66) a = _ from t1]
    refine if_ge hX (6) 22 (by decide +kernel) (by decide) (fun c1 => ?_) (fun c1 => ?_)
    · have h1 : ¬ T.1 a = -nI 1 := (tpw_lt hw ha).2.mp c1
      refine bk hX lkX12_ok (pc' := 31) [.aload_n 0, .iload_n 2, .iconst 0, .aload_n 0, .getfield 214, .iload_n 1, .iaload] (by decide +kernel) (And.intro (by exact vin 6 ha) (And.intro trivial ?_))
      rw [ca, show I (101 + 67) a = _ from t2]
      refine bk hX lkX12_ok (pc' := 33) [.iconst 1, .isub] (by decide +kernel) (And.intro trivial ?_)
      refine z_callV hX kw_X12_228 (c_M_in E _ _ _ _ _) rfl rfl rfl rfl rfl (by decide +kernel) (by decide) (by decide) (by decide) (by decide) (Nat.le_of_ble_eq_true rfl) ?_
      rintro _ _ ⟨rfl, hh⟩
      rw [i_in (by omega), ← isIn_iff (by omega)] at hh
      rcases hh with ⟨hi, rfl⟩ | ⟨hi, rfl⟩
      · refine if_ne hX (6) 42 (by decide +kernel) (by decide) (fun c_36 => ?_) (fun c => absurd c (by decide))
        obtain ⟨k, hk, rfl⟩ := (isIn_iff (by omega)).mp hi
        have ck : (nI (60 * a + k)).toNatClampNeg = 60 * a + k := cl (by omega)
        refine bk hX lkX12_ok (pc' := 59) [.aload_n 0, .getfield 217, .bipush 60, .iload_n 1, .imul, .iload_n 2, .iadd, .aload_n 0, .aload_n 0, .getfield 211, .iload_n 1, .iaload] (by decide +kernel) (And.intro (by exact vin 6 ha) (And.intro trivial ?_))
        rw [ca, show I (101 + 66) a = _ from t1, show nI 60 * nI a = nI (60 * a) from pk_mul _ _, nI_add]
        refine bk hX lkX12_ok (pc' := 60) [.lload_n 3] (by decide +kernel) (And.intro trivial ?_)
        refine z_callV hX kw_X12_415 (c_M_narrow E _ _ _ _) rfl rfl rfl rfl rfl (by decide +kernel) (by decide) (by decide) (by decide) (by decide) (Nat.le_of_ble_eq_true rfl) ?_
        rintro _ _ ⟨rfl, rfl⟩
        refine bk hX lkX12_ok (pc' := 65) [.lastore, .iconst 1] (by decide +kernel) (And.intro (by exact vin 360 (by omega)) (And.intro trivial ?_))
        exact z_iret hX (by decide +kernel) rfl (rfl) (by decide) (by decide) (by
  have hS : itmS T (nI a) (nI k) z = (1, itmT T a k (narS (T.1 a) z)) := by unfold itmS; rw [if_pos ht, ja, if_neg h1, if_pos hi, jx_nI (by omega)]
  rw [hS, ck]
  refine ⟨_, rfl, rfl, fun x hx => ?_, frL_at (Or.inl rfl)⟩
  obtain ⟨q1, q2, q3⟩ := hT x hx
  refine ⟨q1, q2, fun j hj => ?_⟩
  have hj' : j < T.2.1 x := hj
  have hx60 := (hw x hx).2
  show up2 L 169 (60 * a + k) (narS (T.1 a) z) 169 (60 * x + j) = if x = a ∧ j = k then narS (T.1 a) z else T.2.2 x j
  rw [up2_at]
  by_cases e : x = a ∧ j = k
  · rw [if_pos e, if_pos (by omega)]
  · rw [if_neg e, if_neg (by omega)]
    exact q3 j hj' )
      · refine if_ne hX (6) 42 (by decide +kernel) (by decide) (fun c => absurd (by decide) c) (fun c_36 => ?_)
        refine bk hX lkX12_ok (pc' := 41) [.bipush (Int.negSucc 12)] (by decide +kernel) (And.intro trivial ?_)
        exact z_iret hX (by decide +kernel) rfl (rfl) (by decide) (by decide) (⟨L, rfl, by unfold itmS; rw [if_pos ht, ja, if_neg h1, if_neg hi], by unfold itmS; rw [if_pos ht, ja, if_neg h1, if_neg hi]; exact hT, frL_rf _⟩)
    · refine bk hX lkX12_ok (pc' := 21) [.bipush (Int.negSucc 10)] (by decide +kernel) (And.intro trivial ?_)
      exact z_iret hX (by decide +kernel) rfl (rfl) (by decide) (by decide) (by have h1 : T.1 a = -nI 1 := (tpw_lt hw ha).1.mp (i_nle.mp c1); exact ⟨L, rfl, by unfold itmS; rw [if_pos ht, ja, if_pos h1], by unfold itmS; rw [if_pos ht, ja, if_pos h1]; exact hT, frL_rf _⟩)
  · refine if_ne hX (5) 10 (by decide +kernel) (by decide) (fun c => absurd (by decide) c) (fun c_5 => ?_)
    refine bk hX lkX12_ok (pc' := 9) [.iconst (Int.negSucc 0)] (by decide +kernel) (And.intro trivial ?_)
    exact z_iret hX (by decide +kernel) rfl (rfl) (by decide) (by decide) (⟨L, rfl, by unfold itmS; rw [if_neg ht], by unfold itmS; rw [if_neg ht]; exact hT, frL_rf _⟩)
def redS (T : Tp) (t i : Int32) : Int64 := if isIn t 6 = true ∧ isIn i (T.2.1 (jx t)) = true then T.2.2 (jx t) (jx i) else zNO
theorem c_M_read (E : zE) (K N : Nat → Nat) (Rf : Nat → Nat → Option Nat) (I : Nat → Nat → Int32) (L : Nat → Nat → Int64) {T : Tp} (hw : tpw T) (hT : mTp T I L) (t i : Int32) : zCt E mX12_read 2 0 0 (sg K N Rf I L) [.ref 100, .int t, .int i] (fun r σ' => σ' = (sg K N Rf I L) ∧ r = some (.long (redS T t i))) := by
  refine z_intro (by decide) (Nat.le_of_ble_eq_true rfl) (fun X hX => ?_)
  refine bk hX lkX12_ok (pc' := 2) [.aload_n 0, .iload_n 1] (by decide +kernel) (And.intro trivial ?_)
  refine z_callV hX kw_X12_388 (c_M_isTape E _ rfl _) rfl rfl rfl rfl rfl (by decide +kernel) (by decide) (by decide) (by decide) (by decide) (Nat.le_of_ble_eq_true rfl) ?_
  rintro _ _ ⟨rfl, hh⟩
  rw [tap_in] at hh
  rcases hh with ⟨ht, rfl⟩ | ⟨ht, rfl⟩
  · refine if_eq hX (29) 34 (by decide +kernel) (by decide) (fun c => absurd c (by decide)) (fun c_5 => ?_)
    obtain ⟨a, ha, rfl⟩ := (isIn_iff (by decide)).mp ht
    have ca : (nI a).toNatClampNeg = a := cl (by omega)
    have ja : jx (nI a) = a := ca
    obtain ⟨t1, t2, t3⟩ := hT a ha
    have h60 := (hw a ha).2
    refine bk hX lkX12_ok (pc' := 14) [.aload_n 0, .getfield 211, .iload_n 1, .iaload] (by decide +kernel) (And.intro (by exact vin 6 ha) (And.intro trivial ?_))
    rw [ca, show I (101 + 66) a = _ from t1]
    refine if_lt hX (20) 34 (by decide +kernel) (by decide) (fun c1 => ?_) (fun c1 => ?_)
    · refine bk hX lkX12_ok (pc' := 37) [.ldc2_w 373] (by decide +kernel) (And.intro trivial ?_)
      refine gt_ hX (14) 51 (by decide +kernel) (by decide) ?_
      exact z_lret hX (by decide +kernel) rfl (by decide) (by decide) (by first
  | (refine ⟨rfl, ?_⟩
     unfold redS
     rw [if_neg (fun z => ht z.1)]
     rfl)
  | (refine ⟨rfl, ?_⟩
     unfold redS
     rw [if_neg (fun z => hi (by have := z.2; rw [ja] at this; exact this))]
     rfl)
  | (refine ⟨rfl, ?_⟩
     have h0 : T.2.1 a = 0 := by
       rcases (hw a ha).1 with h | ⟨s, hs, e⟩
       · exact h.2
       · rw [e] at c1
         have h5 : s = 0 ∨ s = 1 ∨ s = 2 ∨ s = 3 ∨ s = 4 := by omega
         rcases h5 with rfl | rfl | rfl | rfl | rfl <;> exact absurd c1 (by decide)
     unfold redS
     rw [if_neg (fun z => by have := z.2; rw [ja, h0, isIn_iff (by decide)] at this; obtain ⟨j, hj, -⟩ := this; exact absurd hj (Nat.not_lt_zero _))]
     rfl)
  | (refine ⟨rfl, ?_⟩
     unfold redS
     rw [if_pos ⟨ht, by rw [ja]; exact hi⟩, ja, jx_nI (by omega), show nI 60 * nI a = nI (60 * a) from pk_mul _ _, nI_add, ck, show L (101 + 68) (60 * a + k) = _ from t3 k hk]))
    · refine bk hX lkX12_ok (pc' := 26) [.aload_n 0, .iload_n 2, .iconst 0, .aload_n 0, .getfield 214, .iload_n 1, .iaload] (by decide +kernel) (And.intro (by exact vin 6 ha) (And.intro trivial ?_))
      rw [ca, show I (101 + 67) a = _ from t2]
      refine bk hX lkX12_ok (pc' := 28) [.iconst 1, .isub] (by decide +kernel) (And.intro trivial ?_)
      refine z_callV hX kw_X12_228 (c_M_in E _ _ _ _ _) rfl rfl rfl rfl rfl (by decide +kernel) (by decide) (by decide) (by decide) (by decide) (Nat.le_of_ble_eq_true rfl) ?_
      rintro _ _ ⟨rfl, hh⟩
      rw [i_in (by omega), ← isIn_iff (by omega)] at hh
      rcases hh with ⟨hi, rfl⟩ | ⟨hi, rfl⟩
      · refine if_ne hX (9) 40 (by decide +kernel) (by decide) (fun c_31 => ?_) (fun c => absurd c (by decide))
        obtain ⟨k, hk, rfl⟩ := (isIn_iff (by omega)).mp hi
        have ck : (nI (60 * a + k)).toNatClampNeg = 60 * a + k := cl (by omega)
        refine bk hX lkX12_ok (pc' := 51) [.aload_n 0, .getfield 217, .bipush 60, .iload_n 1, .imul, .iload_n 2, .iadd, .laload] (by decide +kernel) (And.intro (by rw [show nI 60 * nI a = nI (60 * a) from pk_mul _ _, nI_add]; exact vin 360 (by omega)) (And.intro trivial ?_))
        exact z_lret hX (by decide +kernel) rfl (by decide) (by decide) (by first
  | (refine ⟨rfl, ?_⟩
     unfold redS
     rw [if_neg (fun z => ht z.1)]
     rfl)
  | (refine ⟨rfl, ?_⟩
     unfold redS
     rw [if_neg (fun z => hi (by have := z.2; rw [ja] at this; exact this))]
     rfl)
  | (refine ⟨rfl, ?_⟩
     have h0 : T.2.1 a = 0 := by
       rcases (hw a ha).1 with h | ⟨s, hs, e⟩
       · exact h.2
       · rw [e] at c1
         have h5 : s = 0 ∨ s = 1 ∨ s = 2 ∨ s = 3 ∨ s = 4 := by omega
         rcases h5 with rfl | rfl | rfl | rfl | rfl <;> exact absurd c1 (by decide)
     unfold redS
     rw [if_neg (fun z => by have := z.2; rw [ja, h0, isIn_iff (by decide)] at this; obtain ⟨j, hj, -⟩ := this; exact absurd hj (Nat.not_lt_zero _))]
     rfl)
  | (refine ⟨rfl, ?_⟩
     unfold redS
     rw [if_pos ⟨ht, by rw [ja]; exact hi⟩, ja, jx_nI (by omega), show nI 60 * nI a = nI (60 * a) from pk_mul _ _, nI_add, ck, show L (101 + 68) (60 * a + k) = _ from t3 k hk]))
      · refine if_ne hX (9) 40 (by decide +kernel) (by decide) (fun c => absurd (by decide) c) (fun c_31 => ?_)
        refine bk hX lkX12_ok (pc' := 37) [.ldc2_w 373] (by decide +kernel) (And.intro trivial ?_)
        refine gt_ hX (14) 51 (by decide +kernel) (by decide) ?_
        exact z_lret hX (by decide +kernel) rfl (by decide) (by decide) (by first
  | (refine ⟨rfl, ?_⟩
     unfold redS
     rw [if_neg (fun z => ht z.1)]
     rfl)
  | (refine ⟨rfl, ?_⟩
     unfold redS
     rw [if_neg (fun z => hi (by have := z.2; rw [ja] at this; exact this))]
     rfl)
  | (refine ⟨rfl, ?_⟩
     have h0 : T.2.1 a = 0 := by
       rcases (hw a ha).1 with h | ⟨s, hs, e⟩
       · exact h.2
       · rw [e] at c1
         have h5 : s = 0 ∨ s = 1 ∨ s = 2 ∨ s = 3 ∨ s = 4 := by omega
         rcases h5 with rfl | rfl | rfl | rfl | rfl <;> exact absurd c1 (by decide)
     unfold redS
     rw [if_neg (fun z => by have := z.2; rw [ja, h0, isIn_iff (by decide)] at this; obtain ⟨j, hj, -⟩ := this; exact absurd hj (Nat.not_lt_zero _))]
     rfl)
  | (refine ⟨rfl, ?_⟩
     unfold redS
     rw [if_pos ⟨ht, by rw [ja]; exact hi⟩, ja, jx_nI (by omega), show nI 60 * nI a = nI (60 * a) from pk_mul _ _, nI_add, ck, show L (101 + 68) (60 * a + k) = _ from t3 k hk]))
  · refine if_eq hX (29) 34 (by decide +kernel) (by decide) (fun c_5 => ?_) (fun c => absurd (by decide) c)
    refine bk hX lkX12_ok (pc' := 37) [.ldc2_w 373] (by decide +kernel) (And.intro trivial ?_)
    refine gt_ hX (14) 51 (by decide +kernel) (by decide) ?_
    exact z_lret hX (by decide +kernel) rfl (by decide) (by decide) (by first
  | (refine ⟨rfl, ?_⟩
     unfold redS
     rw [if_neg (fun z => ht z.1)]
     rfl)
  | (refine ⟨rfl, ?_⟩
     unfold redS
     rw [if_neg (fun z => hi (by have := z.2; rw [ja] at this; exact this))]
     rfl)
  | (refine ⟨rfl, ?_⟩
     have h0 : T.2.1 a = 0 := by
       rcases (hw a ha).1 with h | ⟨s, hs, e⟩
       · exact h.2
       · rw [e] at c1
         have h5 : s = 0 ∨ s = 1 ∨ s = 2 ∨ s = 3 ∨ s = 4 := by omega
         rcases h5 with rfl | rfl | rfl | rfl | rfl <;> exact absurd c1 (by decide)
     unfold redS
     rw [if_neg (fun z => by have := z.2; rw [ja, h0, isIn_iff (by decide)] at this; obtain ⟨j, hj, -⟩ := this; exact absurd hj (Nat.not_lt_zero _))]
     rfl)
  | (refine ⟨rfl, ?_⟩
     unfold redS
     rw [if_pos ⟨ht, by rw [ja]; exact hi⟩, ja, jx_nI (by omega), show nI 60 * nI a = nI (60 * a) from pk_mul _ _, nI_add, ck, show L (101 + 68) (60 * a + k) = _ from t3 k hk]))
def jdL (T : Tp) (g : Gv) (t : Nat) (i : Int32) : Nat → Nat → Int32
  | 0, _ => -nI 5
  | m + 1, c => if isIn i (T.2.1 t - c) = true then (if T.2.2 t (jx i + c) = lN (gh g c) then jdL T g t i m (c + 1) else nI c) else nI (100 + c)
def judS (T : Tp) (g : Gv) (t i : Int32) : Int32 := if isIn t 6 = true then (if T.1 (jx t) = -nI 1 ∨ T.1 (jx t) = nI 1 then jdL T g (jx t) i (gn g) 0 else -nI 12) else -nI 1
theorem in_len {i : Int32} {n c : Nat} (hn : n ≤ 60) (hc : c < 6) : (isIn i (n - c) = true) ↔ (¬ i < 0 ∧ ¬ nI n - nI c - nI 1 < i) := by
  have e1 : (nI n - nI c - nI 1).toInt = (n : Int) - c - 1 := by
    have h1 := pk_sub_toInt (a := n) (b := c + 1) (by omega) (by omega)
    rw [← nI_add, ← Int32.sub_sub] at h1
    rw [h1]
    omega
  unfold isIn
  rw [decide_eq_true_iff, Int32.lt_iff_toInt_lt, Int32.lt_iff_toInt_lt, e1]
  have e0 : (0 : Int32).toInt = 0 := rfl
  rw [e0]
  omega
set_option maxHeartbeats 1000000 in
theorem c_M_judge (E : zE) (K N : Nat → Nat) (Rf : Nat → Nat → Option Nat) (I : Nat → Nat → Int32) (L : Nat → Nat → Int64) {g : Gv} (hg : gwf g) (hG : mG g I) {T : Tp} (hw : tpw T) (hT : mTp T I L) (t i : Int32) : zCt E mX12_judge 2 0 0 (sg K N Rf I L) [.ref 100, .int t, .int i] (fun r σ' => σ' = (sg K N Rf I L) ∧ r = some (.int (judS T g t i))) := by
  have h6 := hg.1
  refine z_intro (by decide) (Nat.le_of_ble_eq_true rfl) (fun X hX => ?_)
  have hl : ∀ a, a < 6 → t = nI a → (T.1 a = -nI 1 ∨ T.1 a = nI 1) → ∀ m c, c + m = gn g → jdL T g a i m c = judS T g t i → zS X (sg K N Rf I L) 0 0 34 [(0, .ref 100), (1, .int t), (2, .int i), (3, .int (nI c))] [] := by
    intro a ha hta hs m
    subst hta
    obtain ⟨t1, t2, t3⟩ := hT a ha
    have h60 := (hw a ha).2
    have ca : (nI a).toNatClampNeg = a := cl (by omega)
    induction m with
    | zero =>
      intro c hc hf
      obtain rfl : c = gn g := by omega
      refine bk hX lkX12_ok (pc' := 39) [.iload_n 3, .aload_n 0, .getfield 7] (by decide +kernel) (And.intro trivial ?_)
      rw [hG.1]
      refine ic_ge hX (67) 106 (by decide +kernel) (by decide) (fun c_39 => ?_) (fun c => absurd (nI_le (by omega) (by omega)) c)
      refine bk hX lkX12_ok (pc' := 108) [.bipush (Int.negSucc 4)] (by decide +kernel) (And.intro trivial ?_)
      exact z_iret hX (by decide +kernel) rfl (rfl) (by decide) (by decide) (by rw [← hf]; exact ⟨rfl, rfl⟩)
    | succ m ih =>
      intro c hc hf
      have cc : (nI c).toNatClampNeg = c := cl (by omega)
      have hf' : (if isIn i (T.2.1 a - c) = true then (if T.2.2 a (jx i + c) = lN (gh g c) then jdL T g a i m (c + 1) else nI c) else nI (100 + c)) = judS T g (nI a) i := hf
      have hgl := (hg.2.1 c (by omega)).2.2.2.1
      refine bk hX lkX12_ok (pc' := 39) [.iload_n 3, .aload_n 0, .getfield 7] (by decide +kernel) (And.intro trivial ?_)
      rw [hG.1]
      refine ic_ge hX (67) 106 (by decide +kernel) (by decide) (fun c => absurd c (nI_ge (by omega) (by omega))) (fun c_39 => ?_)
      refine bk hX lkX12_ok (pc' := 48) [.aload_n 0, .getfield 211, .iload_n 1, .iaload] (by decide +kernel) (And.intro (by exact vin 6 ha) (And.intro trivial ?_))
      rw [ca, show I (101 + 66) a = _ from t1]
      refine if_lt hX (21) 69 (by decide +kernel) (by decide) (fun c1 => ?_) (fun c1 => ?_)
      · refine bk hX lkX12_ok (pc' := 73) [.bipush 100, .iload_n 3, .iadd] (by decide +kernel) (And.intro trivial ?_)
        exact z_iret hX (by decide +kernel) rfl (rfl) (by decide) (by decide) (by
  have h1 : ¬ isIn i (T.2.1 a - c) = true := by
    first
      | (have h0 : T.2.1 a = 0 := by
           rcases (hw a ha).1 with h | ⟨s, hs, e⟩
           · exact h.2
           · rw [e] at c1
             have h5 : s = 0 ∨ s = 1 ∨ s = 2 ∨ s = 3 ∨ s = 4 := by omega
             rcases h5 with rfl | rfl | rfl | rfl | rfl <;> exact absurd c1 (by decide)
         rw [h0, isIn_iff (by omega)]
         rintro ⟨j, hj, -⟩
         omega)
      | exact fun z => ((in_len h60 (by omega)).mp z).1 c2
      | exact fun z => ((in_len h60 (by omega)).mp z).2 (i_nle.mp c3)
  rw [if_neg h1] at hf'
  rw [← hf', nI_add]
  exact ⟨rfl, rfl⟩)
      · refine bk hX lkX12_ok (pc' := 52) [.iload_n 2] (by decide +kernel) (And.intro trivial ?_)
        refine if_lt hX (17) 69 (by decide +kernel) (by decide) (fun c2 => ?_) (fun c2 => ?_)
        · refine bk hX lkX12_ok (pc' := 73) [.bipush 100, .iload_n 3, .iadd] (by decide +kernel) (And.intro trivial ?_)
          exact z_iret hX (by decide +kernel) rfl (rfl) (by decide) (by decide) (by
  have h1 : ¬ isIn i (T.2.1 a - c) = true := by
    first
      | (have h0 : T.2.1 a = 0 := by
           rcases (hw a ha).1 with h | ⟨s, hs, e⟩
           · exact h.2
           · rw [e] at c1
             have h5 : s = 0 ∨ s = 1 ∨ s = 2 ∨ s = 3 ∨ s = 4 := by omega
             rcases h5 with rfl | rfl | rfl | rfl | rfl <;> exact absurd c1 (by decide)
         rw [h0, isIn_iff (by omega)]
         rintro ⟨j, hj, -⟩
         omega)
      | exact fun z => ((in_len h60 (by omega)).mp z).1 c2
      | exact fun z => ((in_len h60 (by omega)).mp z).2 (i_nle.mp c3)
  rw [if_neg h1] at hf'
  rw [← hf', nI_add]
  exact ⟨rfl, rfl⟩)
        · refine bk hX lkX12_ok (pc' := 62) [.iload_n 2, .aload_n 0, .getfield 214, .iload_n 1, .iaload] (by decide +kernel) (And.intro (by exact vin 6 ha) (And.intro trivial ?_))
          rw [ca, show I (101 + 67) a = _ from t2]
          refine bk hX lkX12_ok (pc' := 66) [.iload_n 3, .isub, .iconst 1, .isub] (by decide +kernel) (And.intro trivial ?_)
          refine ic_le hX (8) 74 (by decide +kernel) (by decide) (fun c3 => ?_) (fun c3 => ?_)
          · have h1 : isIn i (T.2.1 a - c) = true := (in_len h60 (by omega)).mpr ⟨c2, i_nlt.mpr c3⟩
            obtain ⟨k, hk, rfl⟩ := (isIn_iff (by omega)).mp h1
            have ck : (nI (60 * a + k + c)).toNatClampNeg = 60 * a + k + c := cl (by omega)
            rw [if_pos h1, jx_nI (by omega)] at hf'
            refine bk hX lkX12_ok (pc' := 95) [.aload_n 0, .getfield 217, .bipush 60, .iload_n 1, .imul, .iload_n 2, .iadd, .iload_n 3, .iadd, .laload, .aload_n 0, .getfield 29, .iload_n 3, .iaload, .i2l, .lcmp] (by decide +kernel) (And.intro (by rw [show nI 60 * nI a = nI (60 * a) from pk_mul _ _, nI_add, nI_add]; exact vin 360 (by omega)) (And.intro (by exact vin 6 (by omega)) (And.intro trivial ?_)))
            rw [show nI 60 * nI a = nI (60 * a) from pk_mul _ _, nI_add, nI_add, ck, cc, show I (101 + 6) c = _ from mG_gh hG (by omega), nI_l (by omega), show 60 * a + k + c = 60 * a + (k + c) by omega, show L (101 + 68) (60 * a + (k + c)) = _ from t3 (k + c) (by omega)]
            refine if_eq hX (5) 100 (by decide +kernel) (by decide) (fun c4 => ?_) (fun c4 => ?_)
            · refine bk hX lkX12_ok (pc' := 103) [.iinc 3 1] (by decide +kernel) (And.intro trivial ?_)
              refine gt_ hX (-69) 34 (by decide +kernel) (by decide) ?_
              refine z_lvk (lv' := [(0, _), (1, _), (2, _), (3, _)]) [1, 2, 3, 0] rfl ?_
              rw [if_pos (lg_cmp0.mp c4)] at hf'
              rw [nI_add]
              exact ih (c + 1) (by omega) hf'
            · refine bk hX lkX12_ok (pc' := 99) [.iload_n 3] (by decide +kernel) (And.intro trivial ?_)
              exact z_iret hX (by decide +kernel) rfl (rfl) (by decide) (by decide) (by rw [if_neg (fun z => c4 (lg_cmp0.mpr z))] at hf'; rw [← hf']; exact ⟨rfl, rfl⟩)
          · refine bk hX lkX12_ok (pc' := 73) [.bipush 100, .iload_n 3, .iadd] (by decide +kernel) (And.intro trivial ?_)
            exact z_iret hX (by decide +kernel) rfl (rfl) (by decide) (by decide) (by
  have h1 : ¬ isIn i (T.2.1 a - c) = true := by
    first
      | (have h0 : T.2.1 a = 0 := by
           rcases (hw a ha).1 with h | ⟨s, hs, e⟩
           · exact h.2
           · rw [e] at c1
             have h5 : s = 0 ∨ s = 1 ∨ s = 2 ∨ s = 3 ∨ s = 4 := by omega
             rcases h5 with rfl | rfl | rfl | rfl | rfl <;> exact absurd c1 (by decide)
         rw [h0, isIn_iff (by omega)]
         rintro ⟨j, hj, -⟩
         omega)
      | exact fun z => ((in_len h60 (by omega)).mp z).1 c2
      | exact fun z => ((in_len h60 (by omega)).mp z).2 (i_nle.mp c3)
  rw [if_neg h1] at hf'
  rw [← hf', nI_add]
  exact ⟨rfl, rfl⟩)
  refine bk hX lkX12_ok (pc' := 2) [.aload_n 0, .iload_n 1] (by decide +kernel) (And.intro trivial ?_)
  refine z_callV hX kw_X12_388 (c_M_isTape E _ rfl _) rfl rfl rfl rfl rfl (by decide +kernel) (by decide) (by decide) (by decide) (by decide) (Nat.le_of_ble_eq_true rfl) ?_
  rintro _ _ ⟨rfl, hh⟩
  rw [tap_in] at hh
  rcases hh with ⟨ht, rfl⟩ | ⟨ht, rfl⟩
  · refine if_ne hX (5) 10 (by decide +kernel) (by decide) (fun c_5 => ?_) (fun c => absurd c (by decide))
    obtain ⟨a, ha, rfl⟩ := (isIn_iff (by decide)).mp ht
    have ca : (nI a).toNatClampNeg = a := cl (by omega)
    have ja : jx (nI a) = a := ca
    obtain ⟨t1, t2, t3⟩ := hT a ha
    refine bk hX lkX12_ok (pc' := 16) [.aload_n 0, .getfield 211, .iload_n 1, .iaload] (by decide +kernel) (And.intro (by exact vin 6 ha) (And.intro trivial ?_))
    rw [ca, show I (101 + 66) a = _ from t1]
    refine if_lt hX (16) 32 (by decide +kernel) (by decide) (fun c1 => ?_) (fun c1 => ?_)
    · refine bk hX lkX12_ok (pc' := 34) [.iconst 0, .istore_n 3] (by decide +kernel) (And.intro trivial ?_)
      refine z_lvk (lv' := [(0, _), (1, _), (2, _), (3, _)]) [1, 2, 3, 0] rfl ?_
      have hs : T.1 a = -nI 1 ∨ T.1 a = nI 1 := by first | exact Or.inl ((tpw_lt hw ha).1.mp c1) | exact Or.inr c2
      exact hl a ha rfl hs (gn g) 0 (by omega) (by unfold judS; rw [if_pos ht, ja, if_pos hs])
    · refine bk hX lkX12_ok (pc' := 25) [.aload_n 0, .getfield 211, .iload_n 1, .iaload] (by decide +kernel) (And.intro (by exact vin 6 ha) (And.intro trivial ?_))
      rw [ca, show I (101 + 66) a = _ from t1]
      refine bk hX lkX12_ok (pc' := 26) [.iconst 1] (by decide +kernel) (And.intro trivial ?_)
      refine ic_eq hX (6) 32 (by decide +kernel) (by decide) (fun c2 => ?_) (fun c2 => ?_)
      · refine bk hX lkX12_ok (pc' := 34) [.iconst 0, .istore_n 3] (by decide +kernel) (And.intro trivial ?_)
        refine z_lvk (lv' := [(0, _), (1, _), (2, _), (3, _)]) [1, 2, 3, 0] rfl ?_
        have hs : T.1 a = -nI 1 ∨ T.1 a = nI 1 := by first | exact Or.inl ((tpw_lt hw ha).1.mp c1) | exact Or.inr c2
        exact hl a ha rfl hs (gn g) 0 (by omega) (by unfold judS; rw [if_pos ht, ja, if_pos hs])
      · refine bk hX lkX12_ok (pc' := 31) [.bipush (Int.negSucc 11)] (by decide +kernel) (And.intro trivial ?_)
        exact z_iret hX (by decide +kernel) rfl (rfl) (by decide) (by decide) (⟨rfl, by unfold judS; rw [if_pos ht, ja, if_neg (fun z => z.elim (fun y => c1 ((tpw_lt hw ha).1.mpr y)) c2)]⟩)
  · refine if_ne hX (5) 10 (by decide +kernel) (by decide) (fun c => absurd (by decide) c) (fun c_5 => ?_)
    refine bk hX lkX12_ok (pc' := 9) [.iconst (Int.negSucc 0)] (by decide +kernel) (And.intro trivial ?_)
    exact z_iret hX (by decide +kernel) rfl (rfl) (by decide) (by decide) (⟨rfl, by unfold judS; rw [if_neg ht]⟩)
