theorem frD_rf (n : Nat) (I : Nat → Nat → Int32) : frD n I I := ⟨fun _ _ _ _ _ => rfl, fun _ _ => rfl, fun _ _ => ⟨rfl, rfl⟩⟩
theorem frD_tr {n : Nat} {I I1 I2 : Nat → Nat → Int32} (h1 : frD n I I1) (h2 : frD n I1 I2) : frD n I I2 := by
  obtain ⟨a1, a2, a3⟩ := h1
  obtain ⟨b1, b2, b3⟩ := h2
  exact ⟨fun q c1 c2 c3 c4 => (b1 q c1 c2 c3 c4).trans (a1 q c1 c2 c3 c4), fun k hk => (b2 k hk).trans (a2 k hk), fun k hk => ⟨(b3 k hk).1.trans (a3 k hk).1, (b3 k hk).2.trans (a3 k hk).2⟩⟩
theorem mHB_frD {n : Nat} {I I1 : Nat → Nat → Int32} {w : Wk} {b : Nat} (h : mHB w b I) (h1 : frD n I I1) : mHB w b I1 := by
  obtain ⟨a1, a2, a3⟩ := h1
  refine mHB_eq h (a2 _ (by decide)) ?_ ?_ ?_ ?_ ?_ ?_ <;> exact a1 _ (by decide) (by decide) (by decide) (by decide)
theorem c_M_goDays (E : zE) (K N : Nat → Nat) (Rf : Nat → Nat → Option Nat) (I : Nat → Nat → Int32) (L : Nat → Nat → Int64) {g : Gv} (hg : gwf g) (hG : mG g I) {w : Wk} {b : Nat} (hB : mHB w b I) {k : Nat} (hd : gd g + k ≤ 100000) (hk : k ≤ 1000) : zCt E mX12_goDays 4 0 0 (sg K N Rf I L) [.ref 100, .int (nI k)] (fun r σ' => ∃ I', σ' = sg K N Rf I' L ∧ r = none ∧ mG (daysS (rdS w) k g) I' ∧ frD (gn g) I I') := by
  refine z_intro (by decide) (Nat.le_of_ble_eq_true rfl) (fun X hX => ?_)
  have hl : ∀ m j (I1 : Nat → Nat → Int32), j + m = k → mG (daysS (rdS w) j g) I1 → frD (gn g) I I1 → zS X (sg K N Rf I1 L) 0 0 2 [(0, .ref 100), (1, .int (nI k)), (2, .int (nI j))] [] := by
    intro m
    induction m with
    | zero =>
      intro j I1 hj h1 h2
      obtain rfl : j = k := by omega
      refine bk hX lkX12_ok (pc' := 4) [.iload_n 2, .iload_n 1] (by decide +kernel) (And.intro trivial ?_)
      refine ic_ge hX (13) 17 (by decide +kernel) (by decide) (fun c_4 => ?_) (fun c => absurd (nI_le (Nat.le_refl _) (by omega)) c)
      exact z_vret hX (by decide +kernel) rfl (by decide) (by decide) (⟨I1, rfl, rfl, h1, h2⟩)
    | succ m ih =>
      intro j I1 hj h1 h2
      refine bk hX lkX12_ok (pc' := 4) [.iload_n 2, .iload_n 1] (by decide +kernel) (And.intro trivial ?_)
      refine ic_ge hX (13) 17 (by decide +kernel) (by decide) (fun c => absurd c (nI_ge (by omega) (by omega))) (fun c_4 => ?_)
      refine bk hX lkX12_ok (pc' := 8) [.aload_n 0] (by decide +kernel) (And.intro trivial ?_)
      refine z_callV hX kw_X12_331 (c_M_goDay E K N Rf I1 L (gwf_days hg _ j) h1 (by rw [gd_days]; omega) (mHB_frD hB h2)) rfl rfl rfl rfl rfl (by decide +kernel) (by decide) (by decide) (by decide) (by decide) (Nat.le_of_ble_eq_true rfl) ?_
      rintro _ _ ⟨I2, rfl, rfl, h3, h4⟩
      rw [gn_days] at h4
      refine bk hX lkX12_ok (pc' := 14) [.iinc 2 1] (by decide +kernel) (And.intro trivial ?_)
      refine gt_ hX (-12) 2 (by decide +kernel) (by decide) ?_
      refine z_lvk (lv' := [(0, _), (1, _), (2, _)]) [1, 2, 0] rfl ?_
      rw [nI_add]
      exact ih (j + 1) I2 (by omega) h3 (frD_tr h2 h4)
  refine bk hX lkX12_ok (pc' := 2) [.iconst 0, .istore_n 2] (by decide +kernel) (And.intro trivial ?_)
  refine z_lvk (lv' := [(0, _), (1, _), (2, _)]) [1, 2, 0] rfl ?_
  exact hl k 0 I (by omega) hG (frD_rf _ _)
def svI (I : Nat → Nat → Int32) (n : Nat) : Nat → Nat → Int32 := fun q k => if q = 130 ∧ k < n then I 106 k else if q = 131 ∧ k < n then I 107 k else if q = 100 ∧ k = 27 then I 100 1 else if q = 100 ∧ k = 28 then I 100 2 else I q k
def pbI (I : Nat → Nat → Int32) (n : Nat) : Nat → Nat → Int32 := fun q k => if q = 106 ∧ k < n then I 130 k else if q = 107 ∧ k < n then I 131 k else if q = 100 ∧ k = 1 then I 100 27 else if q = 100 ∧ k = 2 then I 100 28 else I q k
theorem up2_v {α : Type} (f : Nat → Nat → α) (p k : Nat) (v : α) (q j : Nat) : up2 f p k v q j = if q = p ∧ j = k then v else f q j := by
  by_cases h : q = p
  · subst h; rw [up2_at]; simp
  · rw [up2_ne _ _ _ h, if_neg (fun z => h z.1)]
theorem svI_0 (I : Nat → Nat → Int32) : up2 (up2 I 100 27 (I 100 1)) 100 28 (I 100 2) = svI I 0 := by
  funext q k
  simp only [up2_v, svI]
  grind
theorem svI_s (I : Nat → Nat → Int32) (n : Nat) : up2 (up2 (svI I n) 130 n (I 106 n)) 131 n (I 107 n) = svI I (n + 1) := by
  funext q k
  simp only [up2_v, svI]
  grind
theorem pbI_0 (I : Nat → Nat → Int32) : up2 (up2 I 100 1 (I 100 27)) 100 2 (I 100 28) = pbI I 0 := by
  funext q k
  simp only [up2_v, pbI]
  grind
theorem pbI_s (I : Nat → Nat → Int32) (n : Nat) : up2 (up2 (pbI I n) 106 n (I 130 n)) 107 n (I 131 n) = pbI I (n + 1) := by
  funext q k
  simp only [up2_v, pbI]
  grind
theorem c_M_save (E : zE) (K N : Nat → Nat) (Rf : Nat → Nat → Option Nat) (I : Nat → Nat → Int32) (L : Nat → Nat → Int64) : zCt E mX12_save 0 0 0 (sg K N Rf I L) [.ref 100] (fun r σ' => σ' = sg K N Rf (svI I 6) L ∧ r = none) := by
  refine z_intro (by decide) (Nat.le_of_ble_eq_true rfl) (fun X hX => ?_)
  have hl : ∀ m p, p + m = 6 → zS X (sg K N Rf (svI I p) L) 0 0 18 [(0, .ref 100), (1, .int (nI p))] [] := by
    intro m
    induction m with
    | zero =>
      intro p hp
      obtain rfl : p = 6 := by omega
      refine bk hX lkX12_ok (pc' := 21) [.iload_n 1, .bipush 6] (by decide +kernel) (And.intro trivial ?_)
      refine ic_ge hX (33) 54 (by decide +kernel) (by decide) (fun c_21 => ?_) (fun c => absurd (nI_le (a := 6) (b := 6) (by decide) (by decide)) c)
      exact z_vret hX (by decide +kernel) rfl (by decide) (by decide) (⟨rfl, rfl⟩)
    | succ m ih =>
      intro p hp
      have cp : (nI p).toNatClampNeg = p := cl (by omega)
      have ea : svI I p 106 p = I 106 p := by simp [svI]
      have eb : up2 (svI I p) 130 p (I 106 p) 107 p = I 107 p := by simp [up2_v, svI]
      refine bk hX lkX12_ok (pc' := 21) [.iload_n 1, .bipush 6] (by decide +kernel) (And.intro trivial ?_)
      refine ic_ge hX (33) 54 (by decide +kernel) (by decide) (fun c => absurd c (nI_ge (a := p) (b := 6) (by omega) (by decide))) (fun c_21 => ?_)
      refine bk hX lkX12_ok (pc' := 51) [.aload_n 0, .getfield 99, .iload_n 1, .aload_n 0, .getfield 26, .iload_n 1, .iaload, .iastore, .aload_n 0, .getfield 102, .iload_n 1, .aload_n 0, .getfield 29, .iload_n 1, .iaload, .iastore, .iinc 1 1] (by decide +kernel) (And.intro (by exact vin 6 (by omega)) (And.intro (by exact vin 6 (by omega)) (And.intro (by exact vin 6 (by omega)) (And.intro (by exact vin 6 (by omega)) (And.intro trivial ?_)))))
      refine gt_ hX (-33) 18 (by decide +kernel) (by decide) ?_
      refine z_lvk (lv' := [(0, _), (1, _)]) [1, 0] rfl ?_
      simp only [cp, ea, eb, nI_add]
      have hi := ih (p + 1) (by omega)
      rw [← svI_s] at hi
      exact hi
  refine bk hX lkX12_ok (pc' := 18) [.aload_n 0, .aload_n 0, .getfield 13, .putfield 93, .aload_n 0, .aload_n 0, .getfield 16, .putfield 96, .iconst 0, .istore_n 1] (by decide +kernel) (And.intro trivial ?_)
  refine z_lvk (lv' := [(0, _), (1, _)]) [1, 0] rfl ?_
  have hi := hl 6 0 rfl
  rw [← svI_0 I] at hi
  exact hi
theorem c_M_putBack (E : zE) (K N : Nat → Nat) (Rf : Nat → Nat → Option Nat) (I : Nat → Nat → Int32) (L : Nat → Nat → Int64) : zCt E mX12_putBack 0 0 0 (sg K N Rf I L) [.ref 100] (fun r σ' => σ' = sg K N Rf (pbI I 6) L ∧ r = none) := by
  refine z_intro (by decide) (Nat.le_of_ble_eq_true rfl) (fun X hX => ?_)
  have hl : ∀ m p, p + m = 6 → zS X (sg K N Rf (pbI I p) L) 0 0 18 [(0, .ref 100), (1, .int (nI p))] [] := by
    intro m
    induction m with
    | zero =>
      intro p hp
      obtain rfl : p = 6 := by omega
      refine bk hX lkX12_ok (pc' := 21) [.iload_n 1, .bipush 6] (by decide +kernel) (And.intro trivial ?_)
      refine ic_ge hX (33) 54 (by decide +kernel) (by decide) (fun c_21 => ?_) (fun c => absurd (nI_le (a := 6) (b := 6) (by decide) (by decide)) c)
      exact z_vret hX (by decide +kernel) rfl (by decide) (by decide) (⟨rfl, rfl⟩)
    | succ m ih =>
      intro p hp
      have cp : (nI p).toNatClampNeg = p := cl (by omega)
      have ea : pbI I p 130 p = I 130 p := by simp [pbI]
      have eb : up2 (pbI I p) 106 p (I 130 p) 131 p = I 131 p := by simp [up2_v, pbI]
      refine bk hX lkX12_ok (pc' := 21) [.iload_n 1, .bipush 6] (by decide +kernel) (And.intro trivial ?_)
      refine ic_ge hX (33) 54 (by decide +kernel) (by decide) (fun c => absurd c (nI_ge (a := p) (b := 6) (by omega) (by decide))) (fun c_21 => ?_)
      refine bk hX lkX12_ok (pc' := 51) [.aload_n 0, .getfield 26, .iload_n 1, .aload_n 0, .getfield 99, .iload_n 1, .iaload, .iastore, .aload_n 0, .getfield 29, .iload_n 1, .aload_n 0, .getfield 102, .iload_n 1, .iaload, .iastore, .iinc 1 1] (by decide +kernel) (And.intro (by exact vin 6 (by omega)) (And.intro (by exact vin 6 (by omega)) (And.intro (by exact vin 6 (by omega)) (And.intro (by exact vin 6 (by omega)) (And.intro trivial ?_)))))
      refine gt_ hX (-33) 18 (by decide +kernel) (by decide) ?_
      refine z_lvk (lv' := [(0, _), (1, _)]) [1, 0] rfl ?_
      simp only [cp, ea, eb, nI_add]
      have hi := ih (p + 1) (by omega)
      rw [← pbI_s] at hi
      exact hi
  refine bk hX lkX12_ok (pc' := 18) [.aload_n 0, .aload_n 0, .getfield 93, .putfield 13, .aload_n 0, .aload_n 0, .getfield 96, .putfield 16, .iconst 0, .istore_n 1] (by decide +kernel) (And.intro trivial ?_)
  refine z_lvk (lv' := [(0, _), (1, _)]) [1, 0] rfl ?_
  have hi := hl 6 0 rfl
  rw [← pbI_0 I] at hi
  exact hi
