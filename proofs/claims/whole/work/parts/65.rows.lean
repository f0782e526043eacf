/-! ===== rows told by hand; what is seen ===== -/
theorem nI_nn {n : Nat} (h : n < 2 ^ 31) : ¬ nI n < 0 := by
  rw [Int32.lt_iff_toInt_lt, nI_toInt h]
  have : (0 : Int32).toInt = 0 := rfl
  omega
def adI (r n : Nat) (x y z : Int32) (I : Nat → Nat → Int32) : Nat → Nat → Int32 := up2 (up2 (up2 (up2 I (r + 1) n x) (r + 2) n y) (r + 3) n z) r 3 (nI (n + 1))
def rwI (r s n : Nat) (I : Nat → Nat → Int32) : Nat → Nat → Int32 := fun q k => if q = r + 1 ∧ k < n then I (s + 1) k else if q = r + 2 ∧ k < n then I (s + 2) k else if q = r + 3 ∧ k < n then I (s + 3) k else if q = r ∧ k = 3 then I s 3 else I q k
def xSn (r : Nat) (s : Rw) (I : Nat → Nat → Int32) : Prop := I r 3 = nI s.1 ∧ ∀ k, k < s.1 → I (r + 1) k = nI (s.2.1 k) ∧ I (r + 2) k = nI (s.2.2.1 k) ∧ I (r + 3) k = nI (s.2.2.2 k)
def xPl (r : Nat) (s : Rw) (I : Nat → Nat → Int32) : Prop := I r 3 = nI s.1 ∧ ∀ k, k < s.1 → I (r + 1) k = nI (s.2.1 k) ∧ (1 ≤ s.2.1 k → I (r + 2) k = nI (s.2.2.1 k))
def xBk (r : Nat) (s : Rw) (I : Nat → Nat → Int32) : Prop := I r 3 = nI s.1 ∧ ∀ k, k < s.1 → I (r + 1) k = nI (s.2.1 k) ∧ I (r + 2) k = nI (s.2.2.1 k)
theorem c_R310_add (E : zE) (K N : Nat → Nat) (Rf : Nat → Nat → Option Nat) (I : Nat → Nat → Int32) (L : Nat → Nat → Int64) {n : Nat} (hn : n ≤ 5) (h3 : I 310 3 = nI n) (x y z : Int32) : zCt E mX8_add 0 0 0 (sg K N Rf I L) [.ref 310, .int x, .int y, .int z] (fun r σ' => (n < 5 ∧ r = some (.int (nI (n + 1))) ∧ σ' = sg K N Rf (adI 310 n x y z I) L) ∨ (n = 5 ∧ r = some (.int (-nI 4)) ∧ σ' = (sg K N Rf I L))) := by
  have cn : (nI n).toNatClampNeg = n := cl (by omega)
  have e3 : ∀ (J : Nat → Nat → Int32) q k v, q ≠ 310 → up2 J q k v 310 3 = J 310 3 := fun J q k v h => by rw [up2_ne _ _ _ (fun z => h z.symm)]
  refine z_intro (by decide) (Nat.le_of_ble_eq_true rfl) (fun X hX => ?_)
  refine bk hX lkX8_ok (pc' := 9) [.aload_n 0, .getfield 21, .aload_n 0, .getfield 9, .arraylength] (by decide +kernel) (And.intro trivial ?_)
  rw [h3]
  refine ic_lt hX (6) 15 (by decide +kernel) (by decide) (fun c9 => ?_) (fun c9 => ?_)
  · refine bk hX lkX8_ok (pc' := 25) [.aload_n 0, .getfield 9, .aload_n 0, .getfield 21, .iload_n 1, .iastore] (by decide +kernel) (And.intro (by rw [h3]; exact vin 5 (Nat.lt_of_not_le (fun z => absurd c9 (i_nlt.mpr (nI_le z (by omega)))))) (And.intro trivial ?_))
    have hlt : n < 5 := Nat.lt_of_not_le (fun z => absurd c9 (i_nlt.mpr (nI_le z (by omega))))
    simp only [h3, cn]
    refine bk hX lkX8_ok (pc' := 35) [.aload_n 0, .getfield 15, .aload_n 0, .getfield 21, .iload_n 2, .iastore] (by decide +kernel) (And.intro (by simp only [e3 _ 311 _ _ (by decide), h3]; exact vin 5 hlt) (And.intro trivial ?_))
    simp only [e3 _ 311 _ _ (show 311 ≠ 310 by decide), h3, cn]
    refine bk hX lkX8_ok (pc' := 45) [.aload_n 0, .getfield 18, .aload_n 0, .getfield 21, .iload_n 3, .iastore] (by decide +kernel) (And.intro (by simp only [e3 _ 311 _ _ (show 311 ≠ 310 by decide), e3 _ 312 _ _ (show 312 ≠ 310 by decide), h3]; exact vin 5 hlt) (And.intro trivial ?_))
    simp only [e3 _ 311 _ _ (show 311 ≠ 310 by decide), e3 _ 312 _ _ (show 312 ≠ 310 by decide), h3, cn]
    refine bk hX lkX8_ok (pc' := 59) [.aload_n 0, .dup, .getfield 21, .iconst 1, .iadd, .putfield 21, .aload_n 0, .getfield 21] (by decide +kernel) (And.intro trivial ?_)
    exact z_iret hX (by decide +kernel) rfl (rfl) (by decide) (by decide) (Or.inl ⟨hlt, by
    simp only [e3 _ 311 _ _ (show 311 ≠ 310 by decide), e3 _ 312 _ _ (show 312 ≠ 310 by decide), e3 _ 313 _ _ (show 313 ≠ 310 by decide), h3, nI_add, up2_self], by
    simp only [e3 _ 311 _ _ (show 311 ≠ 310 by decide), e3 _ 312 _ _ (show 312 ≠ 310 by decide), e3 _ 313 _ _ (show 313 ≠ 310 by decide), h3, nI_add]
    rfl⟩)
  · refine bk hX lkX8_ok (pc' := 14) [.bipush (Int.negSucc 3)] (by decide +kernel) (And.intro trivial ?_)
    exact z_iret hX (by decide +kernel) rfl (rfl) (by decide) (by decide) (Or.inr ⟨Nat.le_antisymm hn (Nat.le_of_not_lt (fun z => c9 (nI_lt (b := 5) z (by decide)))), rfl, rfl⟩)
theorem c_R314_add (E : zE) (K N : Nat → Nat) (Rf : Nat → Nat → Option Nat) (I : Nat → Nat → Int32) (L : Nat → Nat → Int64) {n : Nat} (hn : n ≤ 10) (h3 : I 314 3 = nI n) (x y z : Int32) : zCt E mX8_add 0 0 0 (sg K N Rf I L) [.ref 314, .int x, .int y, .int z] (fun r σ' => (n < 10 ∧ r = some (.int (nI (n + 1))) ∧ σ' = sg K N Rf (adI 314 n x y z I) L) ∨ (n = 10 ∧ r = some (.int (-nI 4)) ∧ σ' = (sg K N Rf I L))) := by
  have cn : (nI n).toNatClampNeg = n := cl (by omega)
  have e3 : ∀ (J : Nat → Nat → Int32) q k v, q ≠ 314 → up2 J q k v 314 3 = J 314 3 := fun J q k v h => by rw [up2_ne _ _ _ (fun z => h z.symm)]
  refine z_intro (by decide) (Nat.le_of_ble_eq_true rfl) (fun X hX => ?_)
  refine bk hX lkX8_ok (pc' := 9) [.aload_n 0, .getfield 21, .aload_n 0, .getfield 9, .arraylength] (by decide +kernel) (And.intro trivial ?_)
  rw [h3]
  refine ic_lt hX (6) 15 (by decide +kernel) (by decide) (fun c9 => ?_) (fun c9 => ?_)
  · refine bk hX lkX8_ok (pc' := 25) [.aload_n 0, .getfield 9, .aload_n 0, .getfield 21, .iload_n 1, .iastore] (by decide +kernel) (And.intro (by rw [h3]; exact vin 10 (Nat.lt_of_not_le (fun z => absurd c9 (i_nlt.mpr (nI_le z (by omega)))))) (And.intro trivial ?_))
    have hlt : n < 10 := Nat.lt_of_not_le (fun z => absurd c9 (i_nlt.mpr (nI_le z (by omega))))
    simp only [h3, cn]
    refine bk hX lkX8_ok (pc' := 35) [.aload_n 0, .getfield 15, .aload_n 0, .getfield 21, .iload_n 2, .iastore] (by decide +kernel) (And.intro (by simp only [e3 _ 315 _ _ (by decide), h3]; exact vin 10 hlt) (And.intro trivial ?_))
    simp only [e3 _ 315 _ _ (show 315 ≠ 314 by decide), h3, cn]
    refine bk hX lkX8_ok (pc' := 45) [.aload_n 0, .getfield 18, .aload_n 0, .getfield 21, .iload_n 3, .iastore] (by decide +kernel) (And.intro (by simp only [e3 _ 315 _ _ (show 315 ≠ 314 by decide), e3 _ 316 _ _ (show 316 ≠ 314 by decide), h3]; exact vin 10 hlt) (And.intro trivial ?_))
    simp only [e3 _ 315 _ _ (show 315 ≠ 314 by decide), e3 _ 316 _ _ (show 316 ≠ 314 by decide), h3, cn]
    refine bk hX lkX8_ok (pc' := 59) [.aload_n 0, .dup, .getfield 21, .iconst 1, .iadd, .putfield 21, .aload_n 0, .getfield 21] (by decide +kernel) (And.intro trivial ?_)
    exact z_iret hX (by decide +kernel) rfl (rfl) (by decide) (by decide) (Or.inl ⟨hlt, by
    simp only [e3 _ 315 _ _ (show 315 ≠ 314 by decide), e3 _ 316 _ _ (show 316 ≠ 314 by decide), e3 _ 317 _ _ (show 317 ≠ 314 by decide), h3, nI_add, up2_self], by
    simp only [e3 _ 315 _ _ (show 315 ≠ 314 by decide), e3 _ 316 _ _ (show 316 ≠ 314 by decide), e3 _ 317 _ _ (show 317 ≠ 314 by decide), h3, nI_add]
    rfl⟩)
  · refine bk hX lkX8_ok (pc' := 14) [.bipush (Int.negSucc 3)] (by decide +kernel) (And.intro trivial ?_)
    exact z_iret hX (by decide +kernel) rfl (rfl) (by decide) (by decide) (Or.inr ⟨Nat.le_antisymm hn (Nat.le_of_not_lt (fun z => c9 (nI_lt (b := 10) z (by decide)))), rfl, rfl⟩)
theorem c_R318_add (E : zE) (K N : Nat → Nat) (Rf : Nat → Nat → Option Nat) (I : Nat → Nat → Int32) (L : Nat → Nat → Int64) {n : Nat} (hn : n ≤ 8) (h3 : I 318 3 = nI n) (x y z : Int32) : zCt E mX8_add 0 0 0 (sg K N Rf I L) [.ref 318, .int x, .int y, .int z] (fun r σ' => (n < 8 ∧ r = some (.int (nI (n + 1))) ∧ σ' = sg K N Rf (adI 318 n x y z I) L) ∨ (n = 8 ∧ r = some (.int (-nI 4)) ∧ σ' = (sg K N Rf I L))) := by
  have cn : (nI n).toNatClampNeg = n := cl (by omega)
  have e3 : ∀ (J : Nat → Nat → Int32) q k v, q ≠ 318 → up2 J q k v 318 3 = J 318 3 := fun J q k v h => by rw [up2_ne _ _ _ (fun z => h z.symm)]
  refine z_intro (by decide) (Nat.le_of_ble_eq_true rfl) (fun X hX => ?_)
  refine bk hX lkX8_ok (pc' := 9) [.aload_n 0, .getfield 21, .aload_n 0, .getfield 9, .arraylength] (by decide +kernel) (And.intro trivial ?_)
  rw [h3]
  refine ic_lt hX (6) 15 (by decide +kernel) (by decide) (fun c9 => ?_) (fun c9 => ?_)
  · refine bk hX lkX8_ok (pc' := 25) [.aload_n 0, .getfield 9, .aload_n 0, .getfield 21, .iload_n 1, .iastore] (by decide +kernel) (And.intro (by rw [h3]; exact vin 8 (Nat.lt_of_not_le (fun z => absurd c9 (i_nlt.mpr (nI_le z (by omega)))))) (And.intro trivial ?_))
    have hlt : n < 8 := Nat.lt_of_not_le (fun z => absurd c9 (i_nlt.mpr (nI_le z (by omega))))
    simp only [h3, cn]
    refine bk hX lkX8_ok (pc' := 35) [.aload_n 0, .getfield 15, .aload_n 0, .getfield 21, .iload_n 2, .iastore] (by decide +kernel) (And.intro (by simp only [e3 _ 319 _ _ (by decide), h3]; exact vin 8 hlt) (And.intro trivial ?_))
    simp only [e3 _ 319 _ _ (show 319 ≠ 318 by decide), h3, cn]
    refine bk hX lkX8_ok (pc' := 45) [.aload_n 0, .getfield 18, .aload_n 0, .getfield 21, .iload_n 3, .iastore] (by decide +kernel) (And.intro (by simp only [e3 _ 319 _ _ (show 319 ≠ 318 by decide), e3 _ 320 _ _ (show 320 ≠ 318 by decide), h3]; exact vin 8 hlt) (And.intro trivial ?_))
    simp only [e3 _ 319 _ _ (show 319 ≠ 318 by decide), e3 _ 320 _ _ (show 320 ≠ 318 by decide), h3, cn]
    refine bk hX lkX8_ok (pc' := 59) [.aload_n 0, .dup, .getfield 21, .iconst 1, .iadd, .putfield 21, .aload_n 0, .getfield 21] (by decide +kernel) (And.intro trivial ?_)
    exact z_iret hX (by decide +kernel) rfl (rfl) (by decide) (by decide) (Or.inl ⟨hlt, by
    simp only [e3 _ 319 _ _ (show 319 ≠ 318 by decide), e3 _ 320 _ _ (show 320 ≠ 318 by decide), e3 _ 321 _ _ (show 321 ≠ 318 by decide), h3, nI_add, up2_self], by
    simp only [e3 _ 319 _ _ (show 319 ≠ 318 by decide), e3 _ 320 _ _ (show 320 ≠ 318 by decide), e3 _ 321 _ _ (show 321 ≠ 318 by decide), h3, nI_add]
    rfl⟩)
  · refine bk hX lkX8_ok (pc' := 14) [.bipush (Int.negSucc 3)] (by decide +kernel) (And.intro trivial ?_)
    exact z_iret hX (by decide +kernel) rfl (rfl) (by decide) (by decide) (Or.inr ⟨Nat.le_antisymm hn (Nat.le_of_not_lt (fun z => c9 (nI_lt (b := 8) z (by decide)))), rfl, rfl⟩)
theorem c_R390_become (E : zE) (K N : Nat → Nat) (Rf : Nat → Nat → Option Nat) (I : Nat → Nat → Int32) (L : Nat → Nat → Int64) {n : Nat} (hn : n ≤ 5) (h3 : I 310 3 = nI n) : zCt E mX8_become 1 0 0 (sg K N Rf I L) [.ref 390, .ref 310] (fun r σ' => σ' = sg K N Rf (rwI 390 310 n I) L ∧ r = none) := by
  have cn : (nI n).toNatClampNeg = n := cl (by omega)
  refine z_intro (by decide) (Nat.le_of_ble_eq_true rfl) (fun X hX => ?_)
  refine bk hX lkX8_ok (pc' := 14) [.aload_n 1, .getfield 9, .iconst 0, .aload_n 0, .getfield 9, .iconst 0, .aload_n 1, .getfield 21] (by decide +kernel) (And.intro trivial ?_)
  rw [h3]
  refine z_copyI hX kc_X8_25 rfl rfl (by decide) (by decide) (nI_nn (by omega)) (by rw [cn]; show 0 + n ≤ 5; omega) (by rw [cn]; show 0 + n ≤ 5; omega) (by decide) (by decide +kernel) (by decide +kernel) ?_
  refine bk hX lkX8_ok (pc' := 31) [.aload_n 1, .getfield 15, .iconst 0, .aload_n 0, .getfield 15, .iconst 0, .aload_n 1, .getfield 21] (by decide +kernel) (And.intro trivial ?_)
  simp only [show ¬ (310 : Nat) = 391 from by decide, if_false, h3]
  refine z_copyI hX kc_X8_25 rfl rfl (by decide) (by decide) (nI_nn (by omega)) (by rw [cn]; show 0 + n ≤ 5; omega) (by rw [cn]; show 0 + n ≤ 5; omega) (by decide) (by decide +kernel) (by decide +kernel) ?_
  refine bk hX lkX8_ok (pc' := 48) [.aload_n 1, .getfield 18, .iconst 0, .aload_n 0, .getfield 18, .iconst 0, .aload_n 1, .getfield 21] (by decide +kernel) (And.intro trivial ?_)
  simp only [show ¬ (310 : Nat) = 391 from by decide, show ¬ (310 : Nat) = 392 from by decide, if_false, h3]
  refine z_copyI hX kc_X8_25 rfl rfl (by decide) (by decide) (nI_nn (by omega)) (by rw [cn]; show 0 + n ≤ 5; omega) (by rw [cn]; show 0 + n ≤ 5; omega) (by decide) (by decide +kernel) (by decide +kernel) ?_
  refine bk hX lkX8_ok (pc' := 59) [.aload_n 0, .aload_n 1, .getfield 21, .putfield 21] (by decide +kernel) (And.intro trivial ?_)
  exact z_vret hX (by decide +kernel) rfl (by decide) (by decide) (by
    refine ⟨Prod.ext rfl (Prod.ext rfl (Prod.ext ?_ (Prod.ext rfl rfl))), rfl⟩
    show _ = rwI 390 310 n I
    funext q k
    simp only [up2, rwI, Bool.cond_eq_ite, Bool.and_eq_true, Nat.beq_eq, cl_0, cn]
    by_cases h1 : q = 391
    · subst h1; simp [cpy0]
    by_cases h2 : q = 392
    · subst h2; simp [cpy0]
    by_cases h4 : q = 393
    · subst h4; simp [cpy0]
    by_cases h5 : q = 390
    · subst h5
      by_cases k3 : k = 3
      · subst k3; simp [h3]
      · simp [k3]
    simp [h1, h2, h4, h5])
theorem c_R394_become (E : zE) (K N : Nat → Nat) (Rf : Nat → Nat → Option Nat) (I : Nat → Nat → Int32) (L : Nat → Nat → Int64) {n : Nat} (hn : n ≤ 10) (h3 : I 314 3 = nI n) : zCt E mX8_become 1 0 0 (sg K N Rf I L) [.ref 394, .ref 314] (fun r σ' => σ' = sg K N Rf (rwI 394 314 n I) L ∧ r = none) := by
  have cn : (nI n).toNatClampNeg = n := cl (by omega)
  refine z_intro (by decide) (Nat.le_of_ble_eq_true rfl) (fun X hX => ?_)
  refine bk hX lkX8_ok (pc' := 14) [.aload_n 1, .getfield 9, .iconst 0, .aload_n 0, .getfield 9, .iconst 0, .aload_n 1, .getfield 21] (by decide +kernel) (And.intro trivial ?_)
  rw [h3]
  refine z_copyI hX kc_X8_25 rfl rfl (by decide) (by decide) (nI_nn (by omega)) (by rw [cn]; show 0 + n ≤ 10; omega) (by rw [cn]; show 0 + n ≤ 10; omega) (by decide) (by decide +kernel) (by decide +kernel) ?_
  refine bk hX lkX8_ok (pc' := 31) [.aload_n 1, .getfield 15, .iconst 0, .aload_n 0, .getfield 15, .iconst 0, .aload_n 1, .getfield 21] (by decide +kernel) (And.intro trivial ?_)
  simp only [show ¬ (314 : Nat) = 395 from by decide, if_false, h3]
  refine z_copyI hX kc_X8_25 rfl rfl (by decide) (by decide) (nI_nn (by omega)) (by rw [cn]; show 0 + n ≤ 10; omega) (by rw [cn]; show 0 + n ≤ 10; omega) (by decide) (by decide +kernel) (by decide +kernel) ?_
  refine bk hX lkX8_ok (pc' := 48) [.aload_n 1, .getfield 18, .iconst 0, .aload_n 0, .getfield 18, .iconst 0, .aload_n 1, .getfield 21] (by decide +kernel) (And.intro trivial ?_)
  simp only [show ¬ (314 : Nat) = 395 from by decide, show ¬ (314 : Nat) = 396 from by decide, if_false, h3]
  refine z_copyI hX kc_X8_25 rfl rfl (by decide) (by decide) (nI_nn (by omega)) (by rw [cn]; show 0 + n ≤ 10; omega) (by rw [cn]; show 0 + n ≤ 10; omega) (by decide) (by decide +kernel) (by decide +kernel) ?_
  refine bk hX lkX8_ok (pc' := 59) [.aload_n 0, .aload_n 1, .getfield 21, .putfield 21] (by decide +kernel) (And.intro trivial ?_)
  exact z_vret hX (by decide +kernel) rfl (by decide) (by decide) (by
    refine ⟨Prod.ext rfl (Prod.ext rfl (Prod.ext ?_ (Prod.ext rfl rfl))), rfl⟩
    show _ = rwI 394 314 n I
    funext q k
    simp only [up2, rwI, Bool.cond_eq_ite, Bool.and_eq_true, Nat.beq_eq, cl_0, cn]
    by_cases h1 : q = 395
    · subst h1; simp [cpy0]
    by_cases h2 : q = 396
    · subst h2; simp [cpy0]
    by_cases h4 : q = 397
    · subst h4; simp [cpy0]
    by_cases h5 : q = 394
    · subst h5
      by_cases k3 : k = 3
      · subst k3; simp [h3]
      · simp [k3]
    simp [h1, h2, h4, h5])
theorem c_R398_become (E : zE) (K N : Nat → Nat) (Rf : Nat → Nat → Option Nat) (I : Nat → Nat → Int32) (L : Nat → Nat → Int64) {n : Nat} (hn : n ≤ 8) (h3 : I 318 3 = nI n) : zCt E mX8_become 1 0 0 (sg K N Rf I L) [.ref 398, .ref 318] (fun r σ' => σ' = sg K N Rf (rwI 398 318 n I) L ∧ r = none) := by
  have cn : (nI n).toNatClampNeg = n := cl (by omega)
  refine z_intro (by decide) (Nat.le_of_ble_eq_true rfl) (fun X hX => ?_)
  refine bk hX lkX8_ok (pc' := 14) [.aload_n 1, .getfield 9, .iconst 0, .aload_n 0, .getfield 9, .iconst 0, .aload_n 1, .getfield 21] (by decide +kernel) (And.intro trivial ?_)
  rw [h3]
  refine z_copyI hX kc_X8_25 rfl rfl (by decide) (by decide) (nI_nn (by omega)) (by rw [cn]; show 0 + n ≤ 8; omega) (by rw [cn]; show 0 + n ≤ 8; omega) (by decide) (by decide +kernel) (by decide +kernel) ?_
  refine bk hX lkX8_ok (pc' := 31) [.aload_n 1, .getfield 15, .iconst 0, .aload_n 0, .getfield 15, .iconst 0, .aload_n 1, .getfield 21] (by decide +kernel) (And.intro trivial ?_)
  simp only [show ¬ (318 : Nat) = 399 from by decide, if_false, h3]
  refine z_copyI hX kc_X8_25 rfl rfl (by decide) (by decide) (nI_nn (by omega)) (by rw [cn]; show 0 + n ≤ 8; omega) (by rw [cn]; show 0 + n ≤ 8; omega) (by decide) (by decide +kernel) (by decide +kernel) ?_
  refine bk hX lkX8_ok (pc' := 48) [.aload_n 1, .getfield 18, .iconst 0, .aload_n 0, .getfield 18, .iconst 0, .aload_n 1, .getfield 21] (by decide +kernel) (And.intro trivial ?_)
  simp only [show ¬ (318 : Nat) = 399 from by decide, show ¬ (318 : Nat) = 400 from by decide, if_false, h3]
  refine z_copyI hX kc_X8_25 rfl rfl (by decide) (by decide) (nI_nn (by omega)) (by rw [cn]; show 0 + n ≤ 8; omega) (by rw [cn]; show 0 + n ≤ 8; omega) (by decide) (by decide +kernel) (by decide +kernel) ?_
  refine bk hX lkX8_ok (pc' := 59) [.aload_n 0, .aload_n 1, .getfield 21, .putfield 21] (by decide +kernel) (And.intro trivial ?_)
  exact z_vret hX (by decide +kernel) rfl (by decide) (by decide) (by
    refine ⟨Prod.ext rfl (Prod.ext rfl (Prod.ext ?_ (Prod.ext rfl rfl))), rfl⟩
    show _ = rwI 398 318 n I
    funext q k
    simp only [up2, rwI, Bool.cond_eq_ite, Bool.and_eq_true, Nat.beq_eq, cl_0, cn]
    by_cases h1 : q = 399
    · subst h1; simp [cpy0]
    by_cases h2 : q = 400
    · subst h2; simp [cpy0]
    by_cases h4 : q = 401
    · subst h4; simp [cpy0]
    by_cases h5 : q = 398
    · subst h5
      by_cases k3 : k = 3
      · subst k3; simp [h3]
      · simp [k3]
    simp [h1, h2, h4, h5])
theorem c_R310_become (E : zE) (K N : Nat → Nat) (Rf : Nat → Nat → Option Nat) (I : Nat → Nat → Int32) (L : Nat → Nat → Int64) {n : Nat} (hn : n ≤ 5) (h3 : I 390 3 = nI n) : zCt E mX8_become 1 0 0 (sg K N Rf I L) [.ref 310, .ref 390] (fun r σ' => σ' = sg K N Rf (rwI 310 390 n I) L ∧ r = none) := by
  have cn : (nI n).toNatClampNeg = n := cl (by omega)
  refine z_intro (by decide) (Nat.le_of_ble_eq_true rfl) (fun X hX => ?_)
  refine bk hX lkX8_ok (pc' := 14) [.aload_n 1, .getfield 9, .iconst 0, .aload_n 0, .getfield 9, .iconst 0, .aload_n 1, .getfield 21] (by decide +kernel) (And.intro trivial ?_)
  rw [h3]
  refine z_copyI hX kc_X8_25 rfl rfl (by decide) (by decide) (nI_nn (by omega)) (by rw [cn]; show 0 + n ≤ 5; omega) (by rw [cn]; show 0 + n ≤ 5; omega) (by decide) (by decide +kernel) (by decide +kernel) ?_
  refine bk hX lkX8_ok (pc' := 31) [.aload_n 1, .getfield 15, .iconst 0, .aload_n 0, .getfield 15, .iconst 0, .aload_n 1, .getfield 21] (by decide +kernel) (And.intro trivial ?_)
  simp only [show ¬ (390 : Nat) = 311 from by decide, if_false, h3]
  refine z_copyI hX kc_X8_25 rfl rfl (by decide) (by decide) (nI_nn (by omega)) (by rw [cn]; show 0 + n ≤ 5; omega) (by rw [cn]; show 0 + n ≤ 5; omega) (by decide) (by decide +kernel) (by decide +kernel) ?_
  refine bk hX lkX8_ok (pc' := 48) [.aload_n 1, .getfield 18, .iconst 0, .aload_n 0, .getfield 18, .iconst 0, .aload_n 1, .getfield 21] (by decide +kernel) (And.intro trivial ?_)
  simp only [show ¬ (390 : Nat) = 311 from by decide, show ¬ (390 : Nat) = 312 from by decide, if_false, h3]
  refine z_copyI hX kc_X8_25 rfl rfl (by decide) (by decide) (nI_nn (by omega)) (by rw [cn]; show 0 + n ≤ 5; omega) (by rw [cn]; show 0 + n ≤ 5; omega) (by decide) (by decide +kernel) (by decide +kernel) ?_
  refine bk hX lkX8_ok (pc' := 59) [.aload_n 0, .aload_n 1, .getfield 21, .putfield 21] (by decide +kernel) (And.intro trivial ?_)
  exact z_vret hX (by decide +kernel) rfl (by decide) (by decide) (by
    refine ⟨Prod.ext rfl (Prod.ext rfl (Prod.ext ?_ (Prod.ext rfl rfl))), rfl⟩
    show _ = rwI 310 390 n I
    funext q k
    simp only [up2, rwI, Bool.cond_eq_ite, Bool.and_eq_true, Nat.beq_eq, cl_0, cn]
    by_cases h1 : q = 311
    · subst h1; simp [cpy0]
    by_cases h2 : q = 312
    · subst h2; simp [cpy0]
    by_cases h4 : q = 313
    · subst h4; simp [cpy0]
    by_cases h5 : q = 310
    · subst h5
      by_cases k3 : k = 3
      · subst k3; simp [h3]
      · simp [k3]
    simp [h1, h2, h4, h5])
theorem c_R314_become (E : zE) (K N : Nat → Nat) (Rf : Nat → Nat → Option Nat) (I : Nat → Nat → Int32) (L : Nat → Nat → Int64) {n : Nat} (hn : n ≤ 10) (h3 : I 394 3 = nI n) : zCt E mX8_become 1 0 0 (sg K N Rf I L) [.ref 314, .ref 394] (fun r σ' => σ' = sg K N Rf (rwI 314 394 n I) L ∧ r = none) := by
  have cn : (nI n).toNatClampNeg = n := cl (by omega)
  refine z_intro (by decide) (Nat.le_of_ble_eq_true rfl) (fun X hX => ?_)
  refine bk hX lkX8_ok (pc' := 14) [.aload_n 1, .getfield 9, .iconst 0, .aload_n 0, .getfield 9, .iconst 0, .aload_n 1, .getfield 21] (by decide +kernel) (And.intro trivial ?_)
  rw [h3]
  refine z_copyI hX kc_X8_25 rfl rfl (by decide) (by decide) (nI_nn (by omega)) (by rw [cn]; show 0 + n ≤ 10; omega) (by rw [cn]; show 0 + n ≤ 10; omega) (by decide) (by decide +kernel) (by decide +kernel) ?_
  refine bk hX lkX8_ok (pc' := 31) [.aload_n 1, .getfield 15, .iconst 0, .aload_n 0, .getfield 15, .iconst 0, .aload_n 1, .getfield 21] (by decide +kernel) (And.intro trivial ?_)
  simp only [show ¬ (394 : Nat) = 315 from by decide, if_false, h3]
  refine z_copyI hX kc_X8_25 rfl rfl (by decide) (by decide) (nI_nn (by omega)) (by rw [cn]; show 0 + n ≤ 10; omega) (by rw [cn]; show 0 + n ≤ 10; omega) (by decide) (by decide +kernel) (by decide +kernel) ?_
  refine bk hX lkX8_ok (pc' := 48) [.aload_n 1, .getfield 18, .iconst 0, .aload_n 0, .getfield 18, .iconst 0, .aload_n 1, .getfield 21] (by decide +kernel) (And.intro trivial ?_)
  simp only [show ¬ (394 : Nat) = 315 from by decide, show ¬ (394 : Nat) = 316 from by decide, if_false, h3]
  refine z_copyI hX kc_X8_25 rfl rfl (by decide) (by decide) (nI_nn (by omega)) (by rw [cn]; show 0 + n ≤ 10; omega) (by rw [cn]; show 0 + n ≤ 10; omega) (by decide) (by decide +kernel) (by decide +kernel) ?_
  refine bk hX lkX8_ok (pc' := 59) [.aload_n 0, .aload_n 1, .getfield 21, .putfield 21] (by decide +kernel) (And.intro trivial ?_)
  exact z_vret hX (by decide +kernel) rfl (by decide) (by decide) (by
    refine ⟨Prod.ext rfl (Prod.ext rfl (Prod.ext ?_ (Prod.ext rfl rfl))), rfl⟩
    show _ = rwI 314 394 n I
    funext q k
    simp only [up2, rwI, Bool.cond_eq_ite, Bool.and_eq_true, Nat.beq_eq, cl_0, cn]
    by_cases h1 : q = 315
    · subst h1; simp [cpy0]
    by_cases h2 : q = 316
    · subst h2; simp [cpy0]
    by_cases h4 : q = 317
    · subst h4; simp [cpy0]
    by_cases h5 : q = 314
    · subst h5
      by_cases k3 : k = 3
      · subst k3; simp [h3]
      · simp [k3]
    simp [h1, h2, h4, h5])
theorem c_R318_become (E : zE) (K N : Nat → Nat) (Rf : Nat → Nat → Option Nat) (I : Nat → Nat → Int32) (L : Nat → Nat → Int64) {n : Nat} (hn : n ≤ 8) (h3 : I 398 3 = nI n) : zCt E mX8_become 1 0 0 (sg K N Rf I L) [.ref 318, .ref 398] (fun r σ' => σ' = sg K N Rf (rwI 318 398 n I) L ∧ r = none) := by
  have cn : (nI n).toNatClampNeg = n := cl (by omega)
  refine z_intro (by decide) (Nat.le_of_ble_eq_true rfl) (fun X hX => ?_)
  refine bk hX lkX8_ok (pc' := 14) [.aload_n 1, .getfield 9, .iconst 0, .aload_n 0, .getfield 9, .iconst 0, .aload_n 1, .getfield 21] (by decide +kernel) (And.intro trivial ?_)
  rw [h3]
  refine z_copyI hX kc_X8_25 rfl rfl (by decide) (by decide) (nI_nn (by omega)) (by rw [cn]; show 0 + n ≤ 8; omega) (by rw [cn]; show 0 + n ≤ 8; omega) (by decide) (by decide +kernel) (by decide +kernel) ?_
  refine bk hX lkX8_ok (pc' := 31) [.aload_n 1, .getfield 15, .iconst 0, .aload_n 0, .getfield 15, .iconst 0, .aload_n 1, .getfield 21] (by decide +kernel) (And.intro trivial ?_)
  simp only [show ¬ (398 : Nat) = 319 from by decide, if_false, h3]
  refine z_copyI hX kc_X8_25 rfl rfl (by decide) (by decide) (nI_nn (by omega)) (by rw [cn]; show 0 + n ≤ 8; omega) (by rw [cn]; show 0 + n ≤ 8; omega) (by decide) (by decide +kernel) (by decide +kernel) ?_
  refine bk hX lkX8_ok (pc' := 48) [.aload_n 1, .getfield 18, .iconst 0, .aload_n 0, .getfield 18, .iconst 0, .aload_n 1, .getfield 21] (by decide +kernel) (And.intro trivial ?_)
  simp only [show ¬ (398 : Nat) = 319 from by decide, show ¬ (398 : Nat) = 320 from by decide, if_false, h3]
  refine z_copyI hX kc_X8_25 rfl rfl (by decide) (by decide) (nI_nn (by omega)) (by rw [cn]; show 0 + n ≤ 8; omega) (by rw [cn]; show 0 + n ≤ 8; omega) (by decide) (by decide +kernel) (by decide +kernel) ?_
  refine bk hX lkX8_ok (pc' := 59) [.aload_n 0, .aload_n 1, .getfield 21, .putfield 21] (by decide +kernel) (And.intro trivial ?_)
  exact z_vret hX (by decide +kernel) rfl (by decide) (by decide) (by
    refine ⟨Prod.ext rfl (Prod.ext rfl (Prod.ext ?_ (Prod.ext rfl rfl))), rfl⟩
    show _ = rwI 318 398 n I
    funext q k
    simp only [up2, rwI, Bool.cond_eq_ite, Bool.and_eq_true, Nat.beq_eq, cl_0, cn]
    by_cases h1 : q = 319
    · subst h1; simp [cpy0]
    by_cases h2 : q = 320
    · subst h2; simp [cpy0]
    by_cases h4 : q = 321
    · subst h4; simp [cpy0]
    by_cases h5 : q = 318
    · subst h5
      by_cases k3 : k = 3
      · subst k3; simp [h3]
      · simp [k3]
    simp [h1, h2, h4, h5])
def bcI (t o n1 n2 n3 : Nat) (I : Nat → Nat → Int32) : Nat → Nat → Int32 := rwI (t + 18) (o + 18) n3 (rwI (t + 14) (o + 14) n2 (rwI (t + 10) (o + 10) n1 (flI t o I)))
theorem c_B38 (E : zE) (K N : Nat → Nat) (Rf : Nat → Nat → Option Nat) (I : Nat → Nat → Int32) (L : Nat → Nat → Int64) (hs : xHs 300 K Rf) {n1 n2 n3 : Nat} (h1 : n1 ≤ 5) (h2 : n2 ≤ 10) (h3 : n3 ≤ 8) (e1 : I 310 3 = nI n1) (e2 : I 314 3 = nI n2) (e3 : I 318 3 = nI n3) : zCt E mX1_become 2 0 0 (sg K N Rf I L) [.ref 380, .ref 300] (fun r σ' => σ' = sg K N (flR 380 300 Rf) (bcI 380 300 n1 n2 n3 I) L ∧ r = none) := by
  refine z_intro (by decide) (Nat.le_of_ble_eq_true rfl) (fun X hX => ?_)
  refine bk hX lkX1_ok (pc' := 2) [.aload_n 0, .aload_n 1] (by decide +kernel) (And.intro trivial ?_)
  refine z_callV hX kw_X1_42 (c_F3830 E K N Rf I L hs) rfl rfl rfl rfl rfl (by decide +kernel) (by decide) (by decide) (by decide) (by decide) (Nat.le_of_ble_eq_true rfl) ?_
  rintro _ _ ⟨rfl, rfl⟩
  refine bk hX lkX1_ok (pc' := 13) [.aload_n 0, .getfield 32, .aload_n 1, .getfield 32] (by decide +kernel) (And.intro trivial ?_)
  refine z_callV hX kw_X1_46 (c_R390_become E K N _ _ L h1 (by simp [flI, e1])) rfl rfl rfl rfl rfl (by decide +kernel) (by decide) (by decide) (by decide) (by decide) (Nat.le_of_ble_eq_true rfl) ?_
  rintro _ _ ⟨rfl, rfl⟩
  refine bk hX lkX1_ok (pc' := 24) [.aload_n 0, .getfield 36, .aload_n 1, .getfield 36] (by decide +kernel) (And.intro trivial ?_)
  refine z_callV hX kw_X1_46 (c_R394_become E K N _ _ L h2 (by simp [rwI, flI, e2])) rfl rfl rfl rfl rfl (by decide +kernel) (by decide) (by decide) (by decide) (by decide) (Nat.le_of_ble_eq_true rfl) ?_
  rintro _ _ ⟨rfl, rfl⟩
  refine bk hX lkX1_ok (pc' := 35) [.aload_n 0, .getfield 39, .aload_n 1, .getfield 39] (by decide +kernel) (And.intro trivial ?_)
  refine z_callV hX kw_X1_46 (c_R398_become E K N _ _ L h3 (by simp [rwI, flI, e3])) rfl rfl rfl rfl rfl (by decide +kernel) (by decide) (by decide) (by decide) (by decide) (Nat.le_of_ble_eq_true rfl) ?_
  rintro _ _ ⟨rfl, rfl⟩
  exact z_vret hX (by decide +kernel) rfl (by decide) (by decide) (⟨rfl, rfl⟩)
theorem c_B30 (E : zE) (K N : Nat → Nat) (Rf : Nat → Nat → Option Nat) (I : Nat → Nat → Int32) (L : Nat → Nat → Int64) (hs : xHs 380 K Rf) {n1 n2 n3 : Nat} (h1 : n1 ≤ 5) (h2 : n2 ≤ 10) (h3 : n3 ≤ 8) (e1 : I 390 3 = nI n1) (e2 : I 394 3 = nI n2) (e3 : I 398 3 = nI n3) : zCt E mX1_become 2 0 0 (sg K N Rf I L) [.ref 300, .ref 380] (fun r σ' => σ' = sg K N (flR 300 380 Rf) (bcI 300 380 n1 n2 n3 I) L ∧ r = none) := by
  refine z_intro (by decide) (Nat.le_of_ble_eq_true rfl) (fun X hX => ?_)
  refine bk hX lkX1_ok (pc' := 2) [.aload_n 0, .aload_n 1] (by decide +kernel) (And.intro trivial ?_)
  refine z_callV hX kw_X1_42 (c_F3038 E K N Rf I L hs) rfl rfl rfl rfl rfl (by decide +kernel) (by decide) (by decide) (by decide) (by decide) (Nat.le_of_ble_eq_true rfl) ?_
  rintro _ _ ⟨rfl, rfl⟩
  refine bk hX lkX1_ok (pc' := 13) [.aload_n 0, .getfield 32, .aload_n 1, .getfield 32] (by decide +kernel) (And.intro trivial ?_)
  refine z_callV hX kw_X1_46 (c_R310_become E K N _ _ L h1 (by simp [flI, e1])) rfl rfl rfl rfl rfl (by decide +kernel) (by decide) (by decide) (by decide) (by decide) (Nat.le_of_ble_eq_true rfl) ?_
  rintro _ _ ⟨rfl, rfl⟩
  refine bk hX lkX1_ok (pc' := 24) [.aload_n 0, .getfield 36, .aload_n 1, .getfield 36] (by decide +kernel) (And.intro trivial ?_)
  refine z_callV hX kw_X1_46 (c_R314_become E K N _ _ L h2 (by simp [rwI, flI, e2])) rfl rfl rfl rfl rfl (by decide +kernel) (by decide) (by decide) (by decide) (by decide) (Nat.le_of_ble_eq_true rfl) ?_
  rintro _ _ ⟨rfl, rfl⟩
  refine bk hX lkX1_ok (pc' := 35) [.aload_n 0, .getfield 39, .aload_n 1, .getfield 39] (by decide +kernel) (And.intro trivial ?_)
  refine z_callV hX kw_X1_46 (c_R318_become E K N _ _ L h3 (by simp [rwI, flI, e3])) rfl rfl rfl rfl rfl (by decide +kernel) (by decide) (by decide) (by decide) (by decide) (Nat.le_of_ble_eq_true rfl) ?_
  rintro _ _ ⟨rfl, rfl⟩
  exact z_vret hX (by decide +kernel) rfl (by decide) (by decide) (⟨rfl, rfl⟩)
theorem c_G3_hire (E : zE) (K N : Nat → Nat) (Rf : Nat → Nat → Option Nat) (I : Nat → Nat → Int32) (L : Nat → Nat → Int64) {n h k : Nat} (hn : n < 6) (h4 : I 300 4 = nI n) (hh : 1000 ≤ h) (hk6 : k ≤ 6) (hk : K h = hci k + 1) : zCt E mX1_hire 0 0 0 (sg K N Rf I L) [.ref 300, .ref h] (fun r σ' => σ' = sg K N (up2 Rf 301 n (some h)) (up2 (up2 I 303 n (nI n)) 300 4 (nI (n + 1))) L ∧ r = some (.int (nI n))) := by
  have cn : (nI n).toNatClampNeg = n := cl (by omega)
  obtain ⟨cq, hcq⟩ := hci_cl k hk6
  have hks : (sg K N Rf I L).1 h = hci k + 1 := by rw [← hk]; exact kF_hi K hh
  refine z_intro (by decide) (Nat.le_of_ble_eq_true rfl) (fun X hX => ?_)
  refine bk hX lkX1_ok (pc' := 11) [.aload_n 0, .getfield 56, .istore_n 2, .aload_n 0, .getfield 11, .iload_n 2, .aload_n 1] (by decide +kernel) (And.intro trivial ?_)
  refine z_aast hX rfl (by rw [h4]; exact vin 6 hn) hks hcq (hand_ok k hk6 cq hcq) (by decide +kernel) ?_
  refine bk hX lkX1_ok (pc' := 30) [.aload_n 0, .getfield 21, .iload_n 2, .iload_n 2, .iastore, .aload_n 0, .dup, .getfield 56, .iconst 1, .iadd, .putfield 56, .iload_n 2] (by decide +kernel) (And.intro (by rw [h4]; exact vin 6 hn) (And.intro trivial ?_))
  exact z_iret hX (by decide +kernel) rfl (rfl) (by decide) (by decide) (by
    refine ⟨?_, congrArg some (congrArg Value.int h4)⟩
    simp only [h4, cn]
    refine Prod.ext rfl (Prod.ext rfl (Prod.ext ?_ (Prod.ext rfl ?_)))
    · show up2 (up2 I 303 n (nI n)) 300 4 (up2 I 303 n (nI n) 300 4 + nI 1) = up2 (up2 I 303 n (nI n)) 300 4 (nI (n + 1))
      rw [show up2 I 303 n (nI n) 300 4 = nI n by rw [up2_ne _ _ _ (by decide)]; exact h4, nI_add]
    · exact up2_rF Rf (t := 301) (Or.inl rfl) n (some h))
def gt1 (s : Rw) : Nat → Nat
  | 0 => 0
  | j + 1 => if gt1 s j ≤ s.2.2.2 j then s.2.2.2 j + 1 else gt1 s j
theorem gt1_le {s : Rw} (h : ∀ k, k < s.1 → s.2.2.2 k ≤ 20) : ∀ j, j ≤ s.1 → gt1 s j ≤ 21
  | 0, _ => Nat.zero_le _
  | j + 1, hj => by
    have := gt1_le h j (by omega)
    have := h j (by omega)
    unfold gt1
    split <;> omega
theorem gt1_ge {s : Rw} : ∀ j k, k < j → s.2.2.2 k < gt1 s j
  | j + 1, k, hk => by
    unfold gt1
    rcases Nat.lt_or_ge k j with h | h
    · have := gt1_ge (s := s) j k h
      split <;> omega
    · obtain rfl : k = j := by omega
      split <;> omega
theorem c_R310_greatestThird (E : zE) (K N : Nat → Nat) (Rf : Nat → Nat → Option Nat) (I : Nat → Nat → Int32) (L : Nat → Nat → Int64) {s : Rw} (hs : xSn 310 s I) (h5 : s.1 ≤ 5) (h20 : ∀ k, k < s.1 → s.2.2.2 k ≤ 20) : zCt E mX8_greatestThird 1 0 0 (sg K N Rf I L) [.ref 310] (fun r σ' => σ' = (sg K N Rf I L) ∧ r = some (.int (nI (gt1 s s.1) - nI 1))) := by
  refine z_intro (by decide) (Nat.le_of_ble_eq_true rfl) (fun X hX => ?_)
  have hl : ∀ m j, j + m = s.1 → zS X (sg K N Rf I L) 0 0 4 [(0, .ref 310), (1, .int (nI (gt1 s j) - nI 1)), (2, .int (nI j))] [] := by
    intro m
    induction m with
    | zero =>
      intro j hj
      obtain rfl : j = s.1 := by omega
      refine bk hX lkX8_ok (pc' := 9) [.iload_n 2, .aload_n 0, .getfield 21] (by decide +kernel) (And.intro trivial ?_)
      rw [hs.1]
      refine ic_ge hX (20) 29 (by decide +kernel) (by decide) (fun c_9 => ?_) (fun c => absurd (nI_le (Nat.le_refl _) (by omega)) c)
      refine bk hX lkX8_ok (pc' := 30) [.iload_n 1] (by decide +kernel) (And.intro trivial ?_)
      exact z_iret hX (by decide +kernel) rfl (rfl) (by decide) (by decide) (⟨rfl, rfl⟩)
    | succ m ih =>
      intro j hj
      have hjn : j < s.1 := by omega
      have et : I 313 j = nI (s.2.2.2 j) := (hs.2 j hjn).2.2
      have hg1 := gt1_le h20 j (by omega)
      have ht := h20 j hjn
      have e2 : (if nI (gt1 s j) - nI 1 < nI (s.2.2.2 j) then nI (s.2.2.2 j) else nI (gt1 s j) - nI 1) = nI (gt1 s (j + 1)) - nI 1 := by
        show _ = nI (if gt1 s j ≤ s.2.2.2 j then s.2.2.2 j + 1 else gt1 s j) - nI 1
        have hlt : (nI (gt1 s j) - nI 1 < nI (s.2.2.2 j)) ↔ gt1 s j ≤ s.2.2.2 j := by
          rw [Int32.lt_iff_toInt_lt, i_sub1 (by omega), nI_toInt (by omega)]
          omega
        by_cases z : gt1 s j ≤ s.2.2.2 j
        · rw [if_pos z, if_pos (hlt.mpr z), i_m1 (by omega), Nat.add_sub_cancel]
        · rw [if_neg z, if_neg (fun y => z (hlt.mp y))]
      refine bk hX lkX8_ok (pc' := 9) [.iload_n 2, .aload_n 0, .getfield 21] (by decide +kernel) (And.intro trivial ?_)
      rw [hs.1]
      refine ic_ge hX (20) 29 (by decide +kernel) (by decide) (fun c => absurd c (nI_ge (by omega) (by omega))) (fun c_9 => ?_)
      refine bk hX lkX8_ok (pc' := 19) [.iload_n 1, .aload_n 0, .getfield 18, .iload_n 2, .iaload] (by decide +kernel) (And.intro (by exact vin 5 (by omega)) (And.intro trivial ?_))
      simp only [cl (show j < 2 ^ 31 by omega), et]
      refine z_mmax hX km_X8_31 (by decide) (Nat.le_of_ble_eq_true rfl) (by decide) (by decide) (by decide +kernel) ?_
      refine bk hX lkX8_ok (pc' := 26) [.istore_n 1, .iinc 2 1] (by decide +kernel) (And.intro trivial ?_)
      refine gt_ hX (-22) 4 (by decide +kernel) (by decide) ?_
      refine z_lvk (lv' := [(0, _), (1, _), (2, _)]) [2, 1, 0] rfl ?_
      rw [nI_add, e2]
      exact ih (j + 1) (by omega)
  refine bk hX lkX8_ok (pc' := 4) [.iconst (Int.negSucc 0), .istore_n 1, .iconst 0, .istore_n 2] (by decide +kernel) (And.intro trivial ?_)
  refine z_lvk (lv' := [(0, _), (1, _), (2, _)]) [2, 1, 0] rfl ?_
  exact hl s.1 0 (by omega)
theorem snB_iff (g : Gv) (r : Nat) (s : Rw) : ∀ n, snB g r s n = true ↔ ∀ i, i < n → gh (daysS r (s.2.2.2 i) g) (s.2.1 i) = s.2.2.1 i
  | 0 => ⟨fun _ i hi => absurd hi (Nat.not_lt_zero i), fun _ => rfl⟩
  | n + 1 => by
    show (snB g r s n && decide (gh (daysS r (s.2.2.2 n) g) (s.2.1 n) = s.2.2.1 n)) = true ↔ _
    rw [Bool.and_eq_true, snB_iff g r s n, decide_eq_true_iff]
    constructor
    · rintro ⟨h1, h2⟩ i hi
      rcases Nat.lt_or_ge i n with z | z
      · exact h1 i z
      · obtain rfl : i = n := by omega
        exact h2
    · exact fun h => ⟨fun i hi => h i (by omega), h n (by omega)⟩
set_option maxHeartbeats 1000000 in
theorem c_X_trialMeetsSeen (E : zE) (K N : Nat → Nat) (Rf : Nat → Nat → Option Nat) (I : Nat → Nat → Int32) (L : Nat → Nat → Int64) {g : Gv} (hg : gwf g) (hG : xG 340 g K Rf I) {w : Wk} (hw : wok w) (hH : xH 340 w K N Rf I) (hd : gd g ≤ 90000) {s : Rw} (hs : xSn 310 s I) (h5 : s.1 ≤ 5) (hws : wSn s g) : zCt E mX11_trialMeetsSeen 5 0 0 (sg K N Rf I L) [.ref 200] (fun r σ' => ∃ I', σ' = sg K N Rf I' L ∧ r = some (.int (b2i (snB g (rdS w) s s.1))) ∧ gfr 340 (gn g) I I') := by
  have h6 := hg.1
  have hgl := gt1_le (fun k hk => (hws k hk).2.2) s.1 (Nat.le_refl _)
  refine z_intro (by decide) (Nat.le_of_ble_eq_true rfl) (fun X hX => ?_)
  have hl : ∀ m d0 (I1 : Nat → Nat → Int32), d0 + m = gt1 s s.1 → xG 340 (daysS (rdS w) d0 g) K Rf I1 → gfr 340 (gn g) I I1 → (∀ i, i < s.1 → s.2.2.2 i < d0 → gh (daysS (rdS w) (s.2.2.2 i) g) (s.2.1 i) = s.2.2.1 i) → zS X (sg K N Rf I1 L) 0 0 15 [(0, .ref 200), (1, .ref 310), (2, .int (nI (gt1 s s.1) - nI 1)), (3, .int (nI d0))] [] := by
    intro m
    induction m with
    | zero =>
      intro d0 I1 hd0 q1 q2 q3
      obtain rfl : d0 = gt1 s s.1 := by omega
      have ht : snB g (rdS w) s s.1 = true := (snB_iff _ _ _ _).mpr (fun i hi => q3 i hi (gt1_ge s.1 i hi))
      refine bk hX lkX11_ok (pc' := 17) [.iload_n 3, .iload_n 2] (by decide +kernel) (And.intro trivial ?_)
      refine ic_gt hX (72) 89 (by decide +kernel) (by decide) (fun c_17 => ?_) (fun c => absurd (by rw [Int32.lt_iff_toInt_lt, i_sub1 (by omega), nI_toInt (by omega)]; omega) c)
      refine bk hX lkX11_ok (pc' := 90) [.iconst 1] (by decide +kernel) (And.intro trivial ?_)
      exact z_iret hX (by decide +kernel) rfl (rfl) (by decide) (by decide) (⟨I1, rfl, by rw [ht]; rfl, q2⟩)
    | succ m ih =>
      intro d0 I1 hd0 q1 q2 q3
      have hs1 : ∀ q, q < 340 → I1 q = I q := fun q hq => q2.1 q (by omega) (by omega) (by omega)
      have e3 : I1 310 3 = nI s.1 := by rw [hs1 310 (by decide)]; exact hs.1
      have hgd := gwf_days hg (rdS w) d0
      have hnd := gn_days (rdS w) d0 g
      have hdd := gd_days (rdS w) d0 g
      have hl2 : ∀ m2 i, i + m2 = s.1 → (∀ j, j < i → s.2.2.2 j = d0 → gh (daysS (rdS w) (s.2.2.2 j) g) (s.2.1 j) = s.2.2.1 j) → zS X (sg K N Rf I1 L) 0 0 23 [(0, .ref 200), (1, .ref 310), (2, .int (nI (gt1 s s.1) - nI 1)), (3, .int (nI d0)), (4, .int (nI i))] [] := by
        intro m2
        induction m2 with
        | zero =>
          intro i hi q4
          obtain rfl : i = s.1 := by omega
          refine bk hX lkX11_ok (pc' := 29) [.iload 4, .aload_n 1, .getfield 206] (by decide +kernel) (And.intro trivial ?_)
          rw [e3]
          refine ic_ge hX (47) 76 (by decide +kernel) (by decide) (fun c_29 => ?_) (fun c => absurd (nI_le (Nat.le_refl _) (by omega)) c)
          refine bk hX lkX11_ok (pc' := 80) [.aload_n 0, .getfield 18] (by decide +kernel) (And.intro trivial ?_)
          refine z_callV hX kw_X11_193 (c_G4_goDay E K N Rf I1 L hgd q1 (by omega) hw (xH_I hH (gfr_hi (by decide) q2))) rfl rfl rfl rfl rfl (by decide +kernel) (by decide) (by decide) (by decide) (by decide) (Nat.le_of_ble_eq_true rfl) ?_
          rintro _ _ ⟨I2, rfl, rfl, y1, y2⟩
          refine bk hX lkX11_ok (pc' := 86) [.iinc 3 1] (by decide +kernel) (And.intro trivial ?_)
          refine gt_ hX (-71) 15 (by decide +kernel) (by decide) ?_
          refine z_lvk (lv' := [(0, _), (1, _), (2, _), (3, _)]) [1, 2, 3, 0] rfl ?_
          rw [nI_add]
          rw [hnd] at y2
          refine ih (d0 + 1) I2 (by omega) y1 (gfr_tr q2 y2) (fun i hi hlt => ?_)
          rcases Nat.lt_or_ge (s.2.2.2 i) d0 with z | z
          · exact q3 i hi z
          · exact q4 i hi (by omega)
        | succ m2 ih2 =>
          intro i hi q4
          have hin : i < s.1 := by omega
          have ci : (nI i).toNatClampNeg = i := cl (by omega)
          obtain ⟨w1, w2, w3⟩ := hws i hin
          have et : I1 313 i = nI (s.2.2.2 i) := by rw [hs1 313 (by decide)]; exact (hs.2 i hin).2.2
          have ef : I1 311 i = nI (s.2.1 i) := by rw [hs1 311 (by decide)]; exact (hs.2 i hin).1
          have es : I1 312 i = nI (s.2.2.1 i) := by rw [hs1 312 (by decide)]; exact (hs.2 i hin).2.1
          have cf : (nI (s.2.1 i)).toNatClampNeg = s.2.1 i := cl (by omega)
          have eh : I1 342 (s.2.1 i) = nI (gh (daysS (rdS w) d0 g) (s.2.1 i)) := (q1.2.2.2 (s.2.1 i) (by rw [hnd]; exact w1)).2.2.1
          have hhl := (hgd.2.1 (s.2.1 i) (by rw [hnd]; exact w1)).2.2.2.1
          refine bk hX lkX11_ok (pc' := 29) [.iload 4, .aload_n 1, .getfield 206] (by decide +kernel) (And.intro trivial ?_)
          rw [e3]
          refine ic_ge hX (47) 76 (by decide +kernel) (by decide) (fun c => absurd c (nI_ge (by omega) (by omega))) (fun c_29 => ?_)
          refine bk hX lkX11_ok (pc' := 40) [.aload_n 1, .getfield 327, .iload 4, .iaload, .iload_n 3] (by decide +kernel) (And.intro (by exact vin 5 (by omega)) (And.intro trivial ?_))
          simp only [ci, et]
          refine ic_ne hX (30) 70 (by decide +kernel) (by decide) (fun c40 => ?_) (fun c40 => ?_)
          · refine bk hX lkX11_ok (pc' := 73) [.iinc 4 1] (by decide +kernel) (And.intro trivial ?_)
            refine gt_ hX (-50) 23 (by decide +kernel) (by decide) ?_
            refine z_lvk (lv' := [(0, _), (1, _), (2, _), (3, _), (4, _)]) [1, 2, 3, 4, 0] rfl ?_
            rw [nI_add]
            refine ih2 (i + 1) (by omega) (fun j hj e1 => ?_)
            rcases Nat.lt_or_ge j i with z | z
            · exact q4 j z e1
            · obtain rfl : j = i := by omega
              first
                | exact absurd (by rw [e1]) c40
                | (rw [e1]; exact nI_inj (by omega) (by omega) c65)
          · refine bk hX lkX11_ok (pc' := 65) [.aload_n 0, .getfield 18, .getfield 110, .aload_n 1, .getfield 227, .iload 4, .iaload, .iaload, .aload_n 1, .getfield 230, .iload 4, .iaload] (by decide +kernel) (And.intro (by exact vin 5 (by omega)) (And.intro (by simp only [ci, ef]; exact vin 6 (by omega)) (And.intro (by exact vin 5 (by omega)) (And.intro trivial ?_))))
            simp only [ci, ef, cf, eh, es]
            refine ic_eq hX (5) 70 (by decide +kernel) (by decide) (fun c65 => ?_) (fun c65 => ?_)
            · refine bk hX lkX11_ok (pc' := 73) [.iinc 4 1] (by decide +kernel) (And.intro trivial ?_)
              refine gt_ hX (-50) 23 (by decide +kernel) (by decide) ?_
              refine z_lvk (lv' := [(0, _), (1, _), (2, _), (3, _), (4, _)]) [1, 2, 3, 4, 0] rfl ?_
              rw [nI_add]
              refine ih2 (i + 1) (by omega) (fun j hj e1 => ?_)
              rcases Nat.lt_or_ge j i with z | z
              · exact q4 j z e1
              · obtain rfl : j = i := by omega
                first
                  | exact absurd (by rw [e1]) c40
                  | (rw [e1]; exact nI_inj (by omega) (by omega) c65)
            · refine bk hX lkX11_ok (pc' := 69) [.iconst 0] (by decide +kernel) (And.intro trivial ?_)
              exact z_iret hX (by decide +kernel) rfl (rfl) (by decide) (by decide) (⟨I1, rfl, by
      have e1 : s.2.2.2 i = d0 := nI_inj (by omega) (by omega) c40
      have ht : snB g (rdS w) s s.1 = false := Bool.eq_false_iff.mpr (fun z => c65 (by
        have := (snB_iff _ _ _ _).mp z i hin
        rw [e1] at this
        rw [this]))
      rw [ht]; rfl, q2⟩)
      refine bk hX lkX11_ok (pc' := 17) [.iload_n 3, .iload_n 2] (by decide +kernel) (And.intro trivial ?_)
      refine ic_gt hX (72) 89 (by decide +kernel) (by decide) (fun c => absurd c (by rw [Int32.lt_iff_toInt_lt, i_sub1 (by omega), nI_toInt (by omega)]; omega)) (fun c_17 => ?_)
      refine bk hX lkX11_ok (pc' := 23) [.iconst 0, .istore 4] (by decide +kernel) (And.intro trivial ?_)
      refine z_lvk (lv' := [(0, _), (1, _), (2, _), (3, _), (4, _)]) [1, 2, 3, 4, 0] rfl ?_
      exact hl2 s.1 0 (by omega) (fun j hj => absurd hj (Nat.not_lt_zero _))
  refine bk hX lkX11_ok (pc' := 9) [.aload_n 0, .getfield 12, .getfield 202, .astore_n 1, .aload_n 1] (by decide +kernel) (And.intro trivial ?_)
  refine z_callV hX kw_X11_324 (c_R310_greatestThird E K N Rf I L hs h5 (fun k hk => (hws k hk).2.2)) rfl rfl rfl rfl rfl (by decide +kernel) (by decide) (by decide) (by decide) (by decide) (Nat.le_of_ble_eq_true rfl) ?_
  rintro _ _ ⟨rfl, rfl⟩
  refine bk hX lkX11_ok (pc' := 15) [.istore_n 2, .iconst 0, .istore_n 3] (by decide +kernel) (And.intro trivial ?_)
  refine z_lvk (lv' := [(0, _), (1, _), (2, _), (3, _)]) [3, 2, 1, 0] rfl ?_
  exact hl (gt1 s s.1) 0 I (by omega) hG (gfr_rf _ _ _) (fun i _ h => absurd h (Nat.not_lt_zero _))
