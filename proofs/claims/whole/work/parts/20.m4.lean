theorem c_M_begin (E : zE) (K N : Nat → Nat) (Rf : Nat → Nat → Option Nat) (I : Nat → Nat → Int32) (L : Nat → Nat → Int64) {w : Wk} {b : Nat} (hB : mHB w b I) : zCt E mX12_begin 0 0 0 (sg K N Rf I L) [.ref 100] (fun r σ' => σ' = (sg K N Rf I L) ∧ r = some (.int (nI b))) := by
  refine z_intro (by decide) (Nat.le_of_ble_eq_true rfl) (fun X hX => ?_)
  rcases hB with ⟨ht, rfl, rfl⟩ | ⟨f, ht, ⟨hf, -⟩, rfl⟩
  · refine bk hX lkX12_ok (pc' := 4) [.aload_n 0, .getfield 38] (by decide +kernel) (And.intro trivial ?_)
    rw [ht]
    refine if_ge hX (7) 11 (by decide +kernel) (by decide) (fun c => absurd c (by decide)) (fun c_4 => ?_)
    refine bk hX lkX12_ok (pc' := 8) [.iconst 0] (by decide +kernel) (And.intro trivial ?_)
    refine gt_ hX (10) 18 (by decide +kernel) (by decide) ?_
    exact z_iret hX (by decide +kernel) rfl (rfl) (by decide) (by decide) (⟨rfl, rfl⟩)
  · refine bk hX lkX12_ok (pc' := 4) [.aload_n 0, .getfield 38] (by decide +kernel) (And.intro trivial ?_)
    rw [ht]
    refine if_ge hX (7) 11 (by decide +kernel) (by decide) (fun c_4 => ?_) (fun c => absurd (nI_le (a := 0) (b := f) (by omega) (by omega)) c)
    refine bk hX lkX12_ok (pc' := 18) [.bipush 10, .aload_n 0, .getfield 38, .imul] (by decide +kernel) (And.intro trivial ?_)
    exact z_iret hX (by decide +kernel) rfl (rfl) (by decide) (by decide) (by rw [ht, pk_mul]; exact ⟨rfl, rfl⟩)
theorem c_M_behind (E : zE) (K N : Nat → Nat) (Rf : Nat → Nat → Option Nat) (I : Nat → Nat → Int32) (L : Nat → Nat → Int64) {w : Wk} {b : Nat} (hB : mHB w b I) : zCt E mX12_behind 0 0 0 (sg K N Rf I L) [.ref 100] (fun r σ' => σ' = (sg K N Rf I L) ∧ r = some (.int (nI (b + w.length)))) := by
  refine z_intro (by decide) (Nat.le_of_ble_eq_true rfl) (fun X hX => ?_)
  rcases hB with ⟨ht, rfl, rfl⟩ | ⟨f, ht, ⟨hf, hc, -⟩, rfl⟩
  · refine bk hX lkX12_ok (pc' := 4) [.aload_n 0, .getfield 38] (by decide +kernel) (And.intro trivial ?_)
    rw [ht]
    refine if_ge hX (7) 11 (by decide +kernel) (by decide) (fun c => absurd c (by decide)) (fun c_4 => ?_)
    refine bk hX lkX12_ok (pc' := 8) [.iconst 0] (by decide +kernel) (And.intro trivial ?_)
    refine gt_ hX (20) 28 (by decide +kernel) (by decide) ?_
    exact z_iret hX (by decide +kernel) rfl (rfl) (by decide) (by decide) (⟨rfl, rfl⟩)
  · refine bk hX lkX12_ok (pc' := 4) [.aload_n 0, .getfield 38] (by decide +kernel) (And.intro trivial ?_)
    rw [ht]
    refine if_ge hX (7) 11 (by decide +kernel) (by decide) (fun c_4 => ?_) (fun c => absurd (nI_le (a := 0) (b := f) (by omega) (by omega)) c)
    refine bk hX lkX12_ok (pc' := 28) [.bipush 10, .aload_n 0, .getfield 38, .imul, .aload_n 0, .getfield 53, .aload_n 0, .getfield 38, .iaload, .iadd] (by decide +kernel) (And.intro (by rw [ht]; exact vin 6 hf) (And.intro trivial ?_))
    exact z_iret hX (by decide +kernel) rfl (rfl) (by decide) (by decide) (by rw [ht, cl (by omega), hc, pk_mul, nI_add]; exact ⟨rfl, rfl⟩)
theorem c_M_round (E : zE) (K N : Nat → Nat) (Rf : Nat → Nat → Option Nat) (I : Nat → Nat → Int32) (L : Nat → Nat → Int64) {w : Wk} {b : Nat} (hB : mHB w b I) : zCt E mX12_round 1 0 0 (sg K N Rf I L) [.ref 100] (fun r σ' => σ' = (sg K N Rf I L) ∧ r = some (.int (nI (rdS w)))) := by
  obtain ⟨hb60, hcl⟩ := mHB_B hB
  refine z_intro (by decide) (Nat.le_of_ble_eq_true rfl) (fun X hX => ?_)
  have hl : ∀ m j, j + m = w.length → zS X (sg K N Rf I L) 0 0 7 [(0, .ref 100), (1, .int (nI (rdN w j))), (2, .int (nI (b + j)))] [] := by
    intro m
    induction m with
    | zero =>
      intro j hj
      obtain rfl : j = w.length := by omega
      refine bk hX lkX12_ok (pc' := 9) [.iload_n 2, .aload_n 0] (by decide +kernel) (And.intro trivial ?_)
      refine z_callV hX kw_X12_296 (c_M_behind E K N Rf I L hB) rfl rfl rfl rfl rfl (by decide +kernel) (by decide) (by decide) (by decide) (by decide) (Nat.le_of_ble_eq_true rfl) ?_
      rintro _ _ ⟨rfl, rfl⟩
      refine ic_ge hX (30) 42 (by decide +kernel) (by decide) (fun c_12 => ?_) (fun c => absurd (nI_le (by omega) (by omega)) c)
      refine bk hX lkX12_ok (pc' := 43) [.iload_n 1] (by decide +kernel) (And.intro trivial ?_)
      exact z_iret hX (by decide +kernel) rfl (rfl) (by decide) (by decide) (⟨rfl, rfl⟩)
    | succ m ih =>
      intro j hj
      obtain ⟨-, -, hw1, hw2, -⟩ := hcl j (by omega)
      have hn := hcl j (by omega)
      refine bk hX lkX12_ok (pc' := 9) [.iload_n 2, .aload_n 0] (by decide +kernel) (And.intro trivial ?_)
      refine z_callV hX kw_X12_296 (c_M_behind E K N Rf I L hB) rfl rfl rfl rfl rfl (by decide +kernel) (by decide) (by decide) (by decide) (by decide) (Nat.le_of_ble_eq_true rfl) ?_
      rintro _ _ ⟨rfl, rfl⟩
      refine ic_ge hX (30) 42 (by decide +kernel) (by decide) (fun c => absurd c (nI_ge (by omega) (by omega))) (fun c_12 => ?_)
      refine bk hX lkX12_ok (pc' := 22) [.aload_n 0, .getfield 56, .iload_n 2, .iaload, .iconst 2] (by decide +kernel) (And.intro (by exact vin 60 (by omega)) (And.intro trivial ?_))
      rw [cl (by omega), hw1]
      refine ic_ne hX (12) 34 (by decide +kernel) (by decide) (fun c2 => ?_) (fun c2 => ?_)
      · refine bk hX lkX12_ok (pc' := 39) [.iload_n 1, .istore_n 1, .iinc 2 1] (by decide +kernel) (And.intro trivial ?_)
        refine gt_ hX (-32) 7 (by decide +kernel) (by decide) ?_
        refine z_lvk (lv' := [(0, _), (1, _), (2, _)]) [2, 1, 0] rfl ?_
        have hi := ih (j + 1) (by omega)
        unfold rdN at hi
        first
          | (rw [if_pos (nI_inj (by omega) (by decide) c2)] at hi; rw [nI_add]; exact hi)
          | (rw [if_neg (fun h => c2 (by rw [h]))] at hi; rw [nI_add]; exact hi)
      · refine bk hX lkX12_ok (pc' := 31) [.aload_n 0, .getfield 59, .iload_n 2, .iaload] (by decide +kernel) (And.intro (by exact vin 60 (by omega)) (And.intro trivial ?_))
        rw [cl (by omega), hw2]
        refine gt_ hX (4) 35 (by decide +kernel) (by decide) ?_
        refine bk hX lkX12_ok (pc' := 39) [.istore_n 1, .iinc 2 1] (by decide +kernel) (And.intro trivial ?_)
        refine gt_ hX (-32) 7 (by decide +kernel) (by decide) ?_
        refine z_lvk (lv' := [(0, _), (1, _), (2, _)]) [2, 1, 0] rfl ?_
        have hi := ih (j + 1) (by omega)
        unfold rdN at hi
        first
          | (rw [if_pos (nI_inj (by omega) (by decide) c2)] at hi; rw [nI_add]; exact hi)
          | (rw [if_neg (fun h => c2 (by rw [h]))] at hi; rw [nI_add]; exact hi)
  refine bk hX lkX12_ok (pc' := 3) [.iconst 0, .istore_n 1, .aload_n 0] (by decide +kernel) (And.intro trivial ?_)
  refine z_callV hX kw_X12_293 (c_M_begin E K N Rf I L hB) rfl rfl rfl rfl rfl (by decide +kernel) (by decide) (by decide) (by decide) (by decide) (Nat.le_of_ble_eq_true rfl) ?_
  rintro _ _ ⟨rfl, rfl⟩
  refine bk hX lkX12_ok (pc' := 7) [.istore_n 2] (by decide +kernel) (And.intro trivial ?_)
  refine z_lvk (lv' := [(0, _), (1, _), (2, _)]) [2, 1, 0] rfl ?_
  exact hl w.length 0 (by omega)
