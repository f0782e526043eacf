def passS (g : Gv) (r : Nat) (x : Int32) : Int32 × Gv := if isIn x 61 = true then (if gd g + jx x ≤ 9999 then (nI (gd g + jx x), daysS r (jx x) g) else (-nI 3, g)) else (-nI 2, g)
theorem c_M_pass (E : zE) (K N : Nat → Nat) (Rf : Nat → Nat → Option Nat) (I : Nat → Nat → Int32) (L : Nat → Nat → Int64) {g : Gv} (hg : gwf g) (hG : mG g I) {w : Wk} {b : Nat} (hB : mHB w b I) (hd : gd g ≤ 9999) (x : Int32) : zCt E mX12_pass 5 0 0 (sg K N Rf I L) [.ref 100, .int x] (fun r σ' => ∃ I', σ' = sg K N Rf I' L ∧ r = some (.int (passS g (rdS w) x).1) ∧ mG (passS g (rdS w) x).2 I' ∧ frD (gn g) I I') := by
  refine z_intro (by decide) (Nat.le_of_ble_eq_true rfl) (fun X hX => ?_)
  refine bk hX lkX12_ok (pc' := 2) [.aload_n 0, .iload_n 1] (by decide +kernel) (And.intro trivial ?_)
  refine z_callV hX kw_X12_334 (c_M_isDays E _ rfl _) rfl rfl rfl rfl rfl (by decide +kernel) (by decide) (by decide) (by decide) (by decide) (Nat.le_of_ble_eq_true rfl) ?_
  rintro _ _ ⟨rfl, hh⟩
  rcases hh with ⟨hq, rfl⟩ | ⟨hq, rfl⟩
  · refine if_ne hX (6) 11 (by decide +kernel) (by decide) (fun c_5 => ?_) (fun c => absurd c (by decide))
    obtain ⟨k, hk, rfl⟩ := hq
    have hin : isIn (nI k) 61 = true := isIn_nI (by omega) (by decide)
    have hj : jx (nI k) = k := jx_nI (by omega)
    refine bk hX lkX12_ok (pc' := 20) [.aload_n 0, .getfield 16, .iload_n 1, .iadd, .sipush 9999] (by decide +kernel) (And.intro trivial ?_)
    rw [hG.2.2.1, nI_add]
    refine ic_le hX (6) 26 (by decide +kernel) (by decide) (fun cd => ?_) (fun cd => ?_)
    · refine bk hX lkX12_ok (pc' := 28) [.aload_n 0, .iload_n 1] (by decide +kernel) (And.intro trivial ?_)
      refine z_callV hX kw_X12_337 (c_M_goDays E K N Rf I L hg hG hB (k := k) (by omega) (by omega)) rfl rfl rfl rfl rfl (by decide +kernel) (by decide) (by decide) (by decide) (by decide) (Nat.le_of_ble_eq_true rfl) ?_
      rintro _ _ ⟨I2, rfl, rfl, h3, h4⟩
      refine bk hX lkX12_ok (pc' := 35) [.aload_n 0, .getfield 16] (by decide +kernel) (And.intro trivial ?_)
      exact z_iret hX (by decide +kernel) rfl (rfl) (by decide) (by decide) (by have hn : gd g + k ≤ 9999 := (nI_leI (b := 9999) (by omega) (by decide)).mp cd; exact ⟨I2, rfl, by unfold passS; rw [if_pos hin, hj, if_pos hn, h3.2.2.1, gd_days], by unfold passS; rw [if_pos hin, hj, if_pos hn]; exact h3, h4⟩)
    · refine bk hX lkX12_ok (pc' := 25) [.bipush (Int.negSucc 2)] (by decide +kernel) (And.intro trivial ?_)
      exact z_iret hX (by decide +kernel) rfl (rfl) (by decide) (by decide) (by have hn : ¬ gd g + k ≤ 9999 := fun z => cd (nI_le (b := 9999) z (by decide)); exact ⟨I, rfl, by unfold passS; rw [if_pos hin, hj, if_neg hn], by unfold passS; rw [if_pos hin, hj, if_neg hn]; exact hG, frD_rf _ _⟩)
  · refine if_ne hX (6) 11 (by decide +kernel) (by decide) (fun c => absurd (by decide) c) (fun c_5 => ?_)
    refine bk hX lkX12_ok (pc' := 10) [.bipush (Int.negSucc 1)] (by decide +kernel) (And.intro trivial ?_)
    exact z_iret hX (by decide +kernel) rfl (rfl) (by decide) (by decide) (⟨I, rfl, by unfold passS; rw [if_neg (fun z => hq (by obtain ⟨j, h1, h2⟩ := (isIn_iff (by decide)).mp z; exact ⟨j, by omega, h2⟩))], by unfold passS; rw [if_neg (fun z => hq (by obtain ⟨j, h1, h2⟩ := (isIn_iff (by decide)).mp z; exact ⟨j, by omega, h2⟩))]; exact hG, frD_rf _ _⟩)
