theorem c_M_in (E : zE) (σ : Sg) (a : Nat) (v lo hi : Int32) : zCt E mX12_in 0 0 0 σ [.ref a, .int v, .int lo, .int hi] (fun r σ' => σ' = σ ∧ (((lo ≤ v ∧ v ≤ hi) ∧ r = some (.int 1)) ∨ (¬ ((lo ≤ v ∧ v ≤ hi)) ∧ r = some (.int 0)))) := by
  refine z_intro (by decide) (Nat.le_of_ble_eq_true rfl) (fun X hX => ?_)
  refine bk hX lkX12_ok (pc' := 2) [.iload_n 1, .iload_n 2] (by decide +kernel) (And.intro trivial ?_)
  refine ic_lt hX (12) 14 (by decide +kernel) (by decide) (fun c1 => ?_) (fun c1 => ?_)
  · refine bk hX lkX12_ok (pc' := 15) [.iconst 0] (by decide +kernel) (And.intro trivial ?_)
    exact z_iret hX (by decide +kernel) rfl (rfl) (by decide) (by decide) (by first | exact ⟨rfl, Or.inr ⟨fun h => absurd h.1 (i_nle.mpr c1), rfl⟩⟩ | exact ⟨rfl, Or.inr ⟨fun h => absurd h.2 (i_nle.mpr c2), rfl⟩⟩ | exact ⟨rfl, Or.inl ⟨⟨i_nlt.mp c1, i_nlt.mp c2⟩, rfl⟩⟩)
  · refine bk hX lkX12_ok (pc' := 7) [.iload_n 1, .iload_n 3] (by decide +kernel) (And.intro trivial ?_)
    refine ic_gt hX (7) 14 (by decide +kernel) (by decide) (fun c2 => ?_) (fun c2 => ?_)
    · refine bk hX lkX12_ok (pc' := 15) [.iconst 0] (by decide +kernel) (And.intro trivial ?_)
      exact z_iret hX (by decide +kernel) rfl (rfl) (by decide) (by decide) (by first | exact ⟨rfl, Or.inr ⟨fun h => absurd h.1 (i_nle.mpr c1), rfl⟩⟩ | exact ⟨rfl, Or.inr ⟨fun h => absurd h.2 (i_nle.mpr c2), rfl⟩⟩ | exact ⟨rfl, Or.inl ⟨⟨i_nlt.mp c1, i_nlt.mp c2⟩, rfl⟩⟩)
    · refine bk hX lkX12_ok (pc' := 11) [.iconst 1] (by decide +kernel) (And.intro trivial ?_)
      refine gt_ hX (4) 15 (by decide +kernel) (by decide) ?_
      exact z_iret hX (by decide +kernel) rfl (rfl) (by decide) (by decide) (by first | exact ⟨rfl, Or.inr ⟨fun h => absurd h.1 (i_nle.mpr c1), rfl⟩⟩ | exact ⟨rfl, Or.inr ⟨fun h => absurd h.2 (i_nle.mpr c2), rfl⟩⟩ | exact ⟨rfl, Or.inl ⟨⟨i_nlt.mp c1, i_nlt.mp c2⟩, rfl⟩⟩)
theorem c_M_has (E : zE) (σ : Sg) (a : Nat) (set k : Int32) : zCt E mX12_has 0 0 0 σ [.ref a, .int set, .int k] (fun r σ' => σ' = σ ∧ (((set >>> (k &&& 31) &&& nI 1 = nI 1) ∧ r = some (.int 1)) ∨ (¬ ((set >>> (k &&& 31) &&& nI 1 = nI 1)) ∧ r = some (.int 0)))) := by
  refine z_intro (by decide) (Nat.le_of_ble_eq_true rfl) (fun X hX => ?_)
  refine bk hX lkX12_ok (pc' := 6) [.iload_n 1, .iload_n 2, .ishr, .iconst 1, .iand, .iconst 1] (by decide +kernel) (And.intro trivial ?_)
  refine ic_ne hX (7) 13 (by decide +kernel) (by decide) (fun hq => ?_) (fun hq => ?_)
  · refine bk hX lkX12_ok (pc' := 14) [.iconst 0] (by decide +kernel) (And.intro trivial ?_)
    exact z_iret hX (by decide +kernel) rfl (rfl) (by decide) (by decide) (by first | exact ⟨rfl, Or.inl ⟨hq, rfl⟩⟩ | exact ⟨rfl, Or.inr ⟨hq, rfl⟩⟩)
  · refine bk hX lkX12_ok (pc' := 10) [.iconst 1] (by decide +kernel) (And.intro trivial ?_)
    refine gt_ hX (4) 14 (by decide +kernel) (by decide) ?_
    exact z_iret hX (by decide +kernel) rfl (rfl) (by decide) (by decide) (by first | exact ⟨rfl, Or.inl ⟨hq, rfl⟩⟩ | exact ⟨rfl, Or.inr ⟨hq, rfl⟩⟩)
theorem c_M_isWorker (E : zE) (K N : Nat → Nat) (Rf : Nat → Nat → Option Nat) (I : Nat → Nat → Int32) (L : Nat → Nat → Int64) (p : Int32) {n : Nat} (hn : n ≤ 6) (hw : I 100 0 = nI n) : zCt E mX12_isWorker 1 0 0 (sg K N Rf I L) [.ref 100, .int p] (fun r σ' => σ' = (sg K N Rf I L) ∧ (((∃ j, j < n ∧ p = nI j) ∧ r = some (.int 1)) ∨ (¬ ((∃ j, j < n ∧ p = nI j)) ∧ r = some (.int 0)))) := by
  refine z_intro (by decide) (Nat.le_of_ble_eq_true rfl) (fun X hX => ?_)
  refine bk hX lkX12_ok (pc' := 9) [.aload_n 0, .iload_n 1, .iconst 0, .aload_n 0, .getfield 7, .iconst 1, .isub] (by decide +kernel) (And.intro trivial ?_)
  refine z_callV hX kw_X12_228 (c_M_in E _ _ _ _ _) rfl rfl rfl rfl rfl (by decide +kernel) (by decide) (by decide) (by decide) (by decide) (Nat.le_of_ble_eq_true rfl) ?_
  rintro _ _ ⟨rfl, hh⟩
  rw [hw, i_in (by omega)] at hh
  rcases hh with ⟨hq, rfl⟩ | ⟨hq, rfl⟩
  · exact z_iret hX (by decide +kernel) rfl (rfl) (by decide) (by decide) (by first | exact ⟨rfl, Or.inl ⟨hq, rfl⟩⟩ | exact ⟨rfl, Or.inr ⟨hq, rfl⟩⟩)
  · exact z_iret hX (by decide +kernel) rfl (rfl) (by decide) (by decide) (by first | exact ⟨rfl, Or.inl ⟨hq, rfl⟩⟩ | exact ⟨rfl, Or.inr ⟨hq, rfl⟩⟩)
theorem c_M_isHoles (E : zE) (σ : Sg) (hk : σ.1 100 = 14) (p : Int32) : zCt E mX12_isHoles 1 0 0 σ [.ref 100, .int p] (fun r σ' => σ' = σ ∧ (((∃ j, j ≤ 1023 ∧ p = nI j) ∧ r = some (.int 1)) ∨ (¬ ((∃ j, j ≤ 1023 ∧ p = nI j)) ∧ r = some (.int 0)))) := by
  refine z_intro (by decide) (Nat.le_of_ble_eq_true rfl) (fun X hX => ?_)
  refine bk hX lkX12_ok (pc' := 6) [.aload_n 0, .iload_n 1, .iconst 0, .sipush 1023] (by decide +kernel) (And.intro trivial ?_)
  refine z_callV hX kw_X12_228 (c_M_in E _ _ _ _ _) rfl rfl hk rfl rfl (by decide +kernel) (by decide) (by decide) (by decide) (by decide) (Nat.le_of_ble_eq_true rfl) ?_
  rintro _ _ ⟨rfl, hh⟩
  rw [i_le (by decide)] at hh
  rcases hh with ⟨hq, rfl⟩ | ⟨hq, rfl⟩
  · exact z_iret hX (by decide +kernel) rfl (rfl) (by decide) (by decide) (by first | exact ⟨rfl, Or.inl ⟨hq, rfl⟩⟩ | exact ⟨rfl, Or.inr ⟨hq, rfl⟩⟩)
  · exact z_iret hX (by decide +kernel) rfl (rfl) (by decide) (by decide) (by first | exact ⟨rfl, Or.inl ⟨hq, rfl⟩⟩ | exact ⟨rfl, Or.inr ⟨hq, rfl⟩⟩)
theorem c_M_isDays (E : zE) (σ : Sg) (hk : σ.1 100 = 14) (p : Int32) : zCt E mX12_isDays 1 0 0 σ [.ref 100, .int p] (fun r σ' => σ' = σ ∧ (((∃ j, j ≤ 60 ∧ p = nI j) ∧ r = some (.int 1)) ∨ (¬ ((∃ j, j ≤ 60 ∧ p = nI j)) ∧ r = some (.int 0)))) := by
  refine z_intro (by decide) (Nat.le_of_ble_eq_true rfl) (fun X hX => ?_)
  refine bk hX lkX12_ok (pc' := 5) [.aload_n 0, .iload_n 1, .iconst 0, .bipush 60] (by decide +kernel) (And.intro trivial ?_)
  refine z_callV hX kw_X12_228 (c_M_in E _ _ _ _ _) rfl rfl hk rfl rfl (by decide +kernel) (by decide) (by decide) (by decide) (by decide) (Nat.le_of_ble_eq_true rfl) ?_
  rintro _ _ ⟨rfl, hh⟩
  rw [i_le (by decide)] at hh
  rcases hh with ⟨hq, rfl⟩ | ⟨hq, rfl⟩
  · exact z_iret hX (by decide +kernel) rfl (rfl) (by decide) (by decide) (by first | exact ⟨rfl, Or.inl ⟨hq, rfl⟩⟩ | exact ⟨rfl, Or.inr ⟨hq, rfl⟩⟩)
  · exact z_iret hX (by decide +kernel) rfl (rfl) (by decide) (by decide) (by first | exact ⟨rfl, Or.inl ⟨hq, rfl⟩⟩ | exact ⟨rfl, Or.inr ⟨hq, rfl⟩⟩)
theorem c_M_isTape (E : zE) (σ : Sg) (hk : σ.1 100 = 14) (p : Int32) : zCt E mX12_isTape 1 0 0 σ [.ref 100, .int p] (fun r σ' => σ' = σ ∧ (((∃ j, j ≤ 5 ∧ p = nI j) ∧ r = some (.int 1)) ∨ (¬ ((∃ j, j ≤ 5 ∧ p = nI j)) ∧ r = some (.int 0)))) := by
  refine z_intro (by decide) (Nat.le_of_ble_eq_true rfl) (fun X hX => ?_)
  refine bk hX lkX12_ok (pc' := 4) [.aload_n 0, .iload_n 1, .iconst 0, .iconst 5] (by decide +kernel) (And.intro trivial ?_)
  refine z_callV hX kw_X12_228 (c_M_in E _ _ _ _ _) rfl rfl hk rfl rfl (by decide +kernel) (by decide) (by decide) (by decide) (by decide) (Nat.le_of_ble_eq_true rfl) ?_
  rintro _ _ ⟨rfl, hh⟩
  rw [i_le (by decide)] at hh
  rcases hh with ⟨hq, rfl⟩ | ⟨hq, rfl⟩
  · exact z_iret hX (by decide +kernel) rfl (rfl) (by decide) (by decide) (by first | exact ⟨rfl, Or.inl ⟨hq, rfl⟩⟩ | exact ⟨rfl, Or.inr ⟨hq, rfl⟩⟩)
  · exact z_iret hX (by decide +kernel) rfl (rfl) (by decide) (by decide) (by first | exact ⟨rfl, Or.inl ⟨hq, rfl⟩⟩ | exact ⟨rfl, Or.inr ⟨hq, rfl⟩⟩)
theorem c_M_swaps (E : zE) (K N : Nat → Nat) (Rf : Nat → Nat → Option Nat) (I : Nat → Nat → Int32) (L : Nat → Nat → Int64) (i j : Nat) (hi : i < 6) (hj : j < 6) : zCt E mX12_swaps 0 0 0 (sg K N Rf I L) [.ref 100, .int (nI i), .int (nI j)] (fun r σ' => σ' = sg K N Rf (up2 (up2 I 106 i (I 106 j)) 106 j (I 106 i)) L ∧ r = none) := by
  have ei : (nI i).toNatClampNeg = i := nI_clamp (by omega)
  have ej : (nI j).toNatClampNeg = j := nI_clamp (by omega)
  refine z_intro (by decide) (Nat.le_of_ble_eq_true rfl) (fun X hX => ?_)
  refine bk hX lkX12_ok (pc' := 26) [.aload_n 0, .getfield 26, .iload_n 1, .iaload, .istore_n 3, .aload_n 0, .getfield 26, .iload_n 1, .aload_n 0, .getfield 26, .iload_n 2, .iaload, .iastore, .aload_n 0, .getfield 26, .iload_n 2, .iload_n 3, .iastore] (by decide +kernel) (And.intro (by exact vin 6 hi) (And.intro (by exact vin 6 hj) (And.intro (by exact vin 6 hi) (And.intro (by exact vin 6 hj) (And.intro trivial ?_)))))
  exact z_vret hX (by decide +kernel) rfl (by decide) (by decide) (by rw [ei, ej]; exact ⟨rfl, rfl⟩)
theorem c_M_rests (E : zE) (K N : Nat → Nat) (Rf : Nat → Nat → Option Nat) (I : Nat → Nat → Int32) (L : Nat → Nat → Int64) (p is : Int32) : zCt E mX12_rests 0 0 0 (sg K N Rf I L) [.ref 100, .int p, .int is] (fun r σ' => σ' = sg K N Rf (up2 I 100 1 (if is = 0 then I 100 1 &&& (nI 1 <<< (p &&& 31) ^^^ -nI 1) else I 100 1 ||| nI 1 <<< (p &&& 31))) L ∧ r = none) := by
  refine z_intro (by decide) (Nat.le_of_ble_eq_true rfl) (fun X hX => ?_)
  refine bk hX lkX12_ok (pc' := 2) [.aload_n 0, .iload_n 2] (by decide +kernel) (And.intro trivial ?_)
  refine if_eq hX (14) 16 (by decide +kernel) (by decide) (fun c1 => ?_) (fun c1 => ?_)
  · refine bk hX lkX12_ok (pc' := 29) [.aload_n 0, .getfield 13, .iconst 1, .iload_n 1, .ishl, .iconst (Int.negSucc 0), .ixor, .iand, .putfield 13] (by decide +kernel) (And.intro trivial ?_)
    exact z_vret hX (by decide +kernel) rfl (by decide) (by decide) (by first | (rw [if_pos c1]; exact ⟨rfl, rfl⟩) | (rw [if_neg c1]; exact ⟨rfl, rfl⟩))
  · refine bk hX lkX12_ok (pc' := 13) [.aload_n 0, .getfield 13, .iconst 1, .iload_n 1, .ishl, .ior] (by decide +kernel) (And.intro trivial ?_)
    refine gt_ hX (13) 26 (by decide +kernel) (by decide) ?_
    refine bk hX lkX12_ok (pc' := 29) [.putfield 13] (by decide +kernel) (And.intro trivial ?_)
    exact z_vret hX (by decide +kernel) rfl (by decide) (by decide) (by first | (rw [if_pos c1]; exact ⟨rfl, rfl⟩) | (rw [if_neg c1]; exact ⟨rfl, rfl⟩))
