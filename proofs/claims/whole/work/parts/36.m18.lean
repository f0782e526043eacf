/-! what bodies ran: the answers and the signs -/
def wkA (k v i : Nat) (x : Int32) : Int32 × List Nat := if k = 2 ∨ k = 5 then (x * nI 3 + nI i, [30, 10]) else if k = 4 then (-(x + nI i), [50, 10]) else if k = 6 then ((x + nI i) ^^^ nI v, [71, 10]) else (x + nI i, [10])
def hmA (k v i : Nat) (x : Int32) : Int32 × List Nat := ((wkA k v i x).1 - nI v, 11 :: (wkA k v i x).2)
def lmA (k v i : Nat) (x : Int32) : Int32 × List Nat := ((hmA k v i x).1 ^^^ nI 6, 20 :: (hmA k v i x).2)
def mdA (k v i : Nat) (x : Int32) : Int32 × List Nat := if k = 1 then lmA k v i x else if k = 4 then ((lmA k v i (x + nI 1)).1, 51 :: (lmA k v i (x + nI 1)).2) else if k = 6 then ((hmA k v i x).1 + (nI 2 + nI i), 70 :: ((hmA k v i x).2 ++ [10])) else hmA k v i x
def htA (k v i : Nat) (x : Int32) : Int32 × List Nat := ((mdA k v i x).1 * nI 2, 12 :: (mdA k v i x).2)
def tlA (k v i : Nat) (x : Int32) : Int32 × List Nat := if k = 3 ∨ k = 6 then ((htA k v i x).1 + (mdA k v i (nI 1)).1, 40 :: ((htA k v i x).2 ++ (mdA k v i (nI 1)).2)) else if k = 5 then ((htA k v i (x - nI i)).1, 60 :: (htA k v i (x - nI i)).2) else htA k v i x
theorem wkA_len (k v i : Nat) (x : Int32) : (wkA k v i x).2.length ≤ 2 := by
  unfold wkA
  split
  · exact Nat.le_refl 2
  · split
    · exact Nat.le_refl 2
    · split
      · exact Nat.le_refl 2
      · exact Nat.le_succ 1
theorem mdA_len (k v i : Nat) (x : Int32) : (mdA k v i x).2.length ≤ 5 := by
  have h1 := wkA_len k v i x
  have h2 := wkA_len k v i (x + nI 1)
  unfold mdA lmA hmA
  split
  · simp only [List.length_cons]; omega
  · split
    · simp only [List.length_cons]; omega
    · split
      · simp only [List.length_cons, List.length_append, List.length_nil]; omega
      · simp only [List.length_cons]; omega
theorem tlA_len (k v i : Nat) (x : Int32) : (tlA k v i x).2.length ≤ 12 := by
  have h1 := mdA_len k v i x
  have h2 := mdA_len k v i (x - nI i)
  have h3 := mdA_len k v i (nI 1)
  unfold tlA htA
  split
  · simp only [List.length_cons, List.length_append]; omega
  · split <;> simp only [List.length_cons] <;> omega
def mTr (t : List Nat) (I : Nat → Nat → Int32) : Prop := I 100 64 = nI t.length ∧ t.length ≤ 20 ∧ ∀ k, k < t.length → I 166 k = nI (t.getD k 0)
abbrev frT (I I' : Nat → Nat → Int32) : Prop := frX [166] [64] I I'
theorem mG_T {g : Gv} {I I1 : Nat → Nat → Int32} (hG : mG g I) (h : frT I I1) : mG g I1 := by
  obtain ⟨a1, a2, a3, a4⟩ := hG
  unfold mG
  rw [h.2 0 (by decide), h.2 1 (by decide), h.2 2 (by decide), h.1 104 (by decide) (by decide), h.1 105 (by decide) (by decide), h.1 106 (by decide) (by decide), h.1 107 (by decide) (by decide), h.1 108 (by decide) (by decide)]
  exact ⟨a1, a2, a3, a4⟩
theorem c_M_body (E : zE) (K N : Nat → Nat) (Rf : Nat → Nat → Option Nat) (I : Nat → Nat → Int32) (L : Nat → Nat → Int64) {t : List Nat} (ht : mTr t I) (hl : t.length < 20) (b : Nat) : zCt E mX12_body 0 0 0 (sg K N Rf I L) [.ref 100, .int (nI b)] (fun r σ' => ∃ I', σ' = sg K N Rf I' L ∧ r = none ∧ mTr (t ++ [b]) I' ∧ frT I I') := by
  obtain ⟨t1, t2, t3⟩ := ht
  have cn : (nI t.length).toNatClampNeg = t.length := cl (by omega)
  refine z_intro (by decide) (Nat.le_of_ble_eq_true rfl) (fun X hX => ?_)
  refine bk hX lkX12_ok (pc' := 6) [.aload_n 0, .getfield 205, .bipush 20] (by decide +kernel) (And.intro trivial ?_)
  rw [t1]
  refine ic_ge hX (13) 19 (by decide +kernel) (by decide) (fun c => absurd c (nI_ge (a := t.length) (b := 20) (by omega) (by decide))) (fun c_6 => ?_)
  refine bk hX lkX12_ok (pc' := 29) [.aload_n 0, .getfield 208, .aload_n 0, .getfield 205, .iload_n 1, .iastore, .aload_n 0, .dup, .getfield 205, .iconst 1, .iadd, .putfield 205] (by decide +kernel) (And.intro (by rw [t1]; exact vin 20 (by omega)) (And.intro trivial ?_))
  exact z_vret hX (by decide +kernel) rfl (by decide) (by decide) (by
  refine ⟨_, rfl, rfl, ⟨by simp [up2_v, t1, nI_add], by rw [List.length_append, List.length_singleton]; omega, fun j hj => ?_⟩, frX_tr (frX_at (by decide) (by decide)) (frX_f (by decide))⟩
  rw [List.length_append, List.length_singleton] at hj
  by_cases h : j = t.length
  · subst h
    simp [up2_v, t1, cn]
  · have := t3 j (by omega)
    simp [up2_v, t1, cn, h, this, List.getElem?_append_left (show j < t.length by omega)])
theorem c_M_handWorks (E : zE) (K N : Nat → Nat) (Rf : Nat → Nat → Option Nat) (I : Nat → Nat → Int32) (L : Nat → Nat → Int64) {t : List Nat} (ht : mTr t I) (hl : t.length < 20) (i x : Int32) : zCt E mX12_handWorks 1 0 0 (sg K N Rf I L) [.ref 100, .int i, .int x] (fun r σ' => ∃ I', σ' = sg K N Rf I' L ∧ r = some (.int (x + i)) ∧ mTr (t ++ [10]) I' ∧ frT I I') := by
  refine z_intro (by decide) (Nat.le_of_ble_eq_true rfl) (fun X hX => ?_)
  refine bk hX lkX12_ok (pc' := 3) [.aload_n 0, .bipush 10] (by decide +kernel) (And.intro trivial ?_)
  refine z_callV hX kw_X12_391 (c_M_body E K N Rf I L ht (by omega) 10) rfl rfl rfl rfl rfl (by decide +kernel) (by decide) (by decide) (by decide) (by decide) (Nat.le_of_ble_eq_true rfl) ?_
  rintro _ _ ⟨a1, rfl, rfl, a2, a3⟩
  refine bk hX lkX12_ok (pc' := 9) [.iload_n 2, .iload_n 1, .iadd] (by decide +kernel) (And.intro trivial ?_)
  exact z_iret hX (by decide +kernel) rfl (rfl) (by decide) (by decide) (⟨a1, rfl, rfl, a2, a3⟩)
set_option maxHeartbeats 1000000 in
theorem c_M_worksAct (E : zE) (K N : Nat → Nat) (Rf : Nat → Nat → Option Nat) (I : Nat → Nat → Int32) (L : Nat → Nat → Int64) {g : Gv} (hg : gwf g) (hG : mG g I) {i : Nat} (hi : i < gn g) {t : List Nat} (ht : mTr t I) (hl : t.length ≤ 18) (x : Int32) : zCt E mX12_worksAct 2 0 0 (sg K N Rf I L) [.ref 100, .int (nI i), .int x] (fun r σ' => ∃ I', σ' = sg K N Rf I' L ∧ r = some (.int (wkA (gk g i) (gv g i) i x).1) ∧ mTr (t ++ (wkA (gk g i) (gv g i) i x).2) I' ∧ frT I I') := by
  have h6 := hg.1
  have hk6 := (hg.2.1 i hi).1
  have ci : (nI i).toNatClampNeg = i := cl (by omega)
  refine z_intro (by decide) (Nat.le_of_ble_eq_true rfl) (fun X hX => ?_)
  refine bk hX lkX12_ok (pc' := 6) [.aload_n 0, .getfield 19, .iload_n 1, .iaload] (by decide +kernel) (And.intro (by exact vin 6 (by omega)) (And.intro trivial ?_))
  rw [ci, show I (101 + 3) i = nI (gk g i) from (hG.2.2.2 i hi).1]
  have hk7 : gk g i = 0 ∨ gk g i = 1 ∨ gk g i = 2 ∨ gk g i = 3 ∨ gk g i = 4 ∨ gk g i = 5 ∨ gk g i = 6 := by omega
  rcases hk7 with e | e | e | e | e | e | e
  · rw [e]
    refine z_tsw hX 89 (dflt := 83) (lo := 2) (hi := 6) (offs := #[34, 83, 49, 34, 63]) (len := 34) (off := 83) (by decide +kernel) (by decide) (by decide) ?_
    refine bk hX lkX12_ok (pc' := 92) [.aload_n 0, .iload_n 1, .iload_n 2] (by decide +kernel) (And.intro trivial ?_)
    refine z_callV hX kw_X12_394 (c_M_handWorks E K N Rf I L ht (by first | omega | (simp only [List.length_append, List.length_cons, List.length_nil]; omega)) (nI i) _) rfl rfl rfl rfl rfl (by decide +kernel) (by decide) (by decide) (by decide) (by decide) (Nat.le_of_ble_eq_true rfl) ?_
    rintro _ _ ⟨b1, rfl, rfl, b2, b3⟩
    exact z_iret hX (by decide +kernel) rfl (rfl) (by decide) (by decide) (by first
  | exact ⟨b1, rfl, by simp [wkA, e], by simpa [wkA, e] using b2, frX_tr a3 b3⟩
  | exact ⟨b1, rfl, by simp [wkA, e], by simpa [wkA, e] using b2, b3⟩)
  · rw [e]
    refine z_tsw hX 89 (dflt := 83) (lo := 2) (hi := 6) (offs := #[34, 83, 49, 34, 63]) (len := 34) (off := 83) (by decide +kernel) (by decide) (by decide) ?_
    refine bk hX lkX12_ok (pc' := 92) [.aload_n 0, .iload_n 1, .iload_n 2] (by decide +kernel) (And.intro trivial ?_)
    refine z_callV hX kw_X12_394 (c_M_handWorks E K N Rf I L ht (by first | omega | (simp only [List.length_append, List.length_cons, List.length_nil]; omega)) (nI i) _) rfl rfl rfl rfl rfl (by decide +kernel) (by decide) (by decide) (by decide) (by decide) (Nat.le_of_ble_eq_true rfl) ?_
    rintro _ _ ⟨b1, rfl, rfl, b2, b3⟩
    exact z_iret hX (by decide +kernel) rfl (rfl) (by decide) (by decide) (by first
  | exact ⟨b1, rfl, by simp [wkA, e], by simpa [wkA, e] using b2, frX_tr a3 b3⟩
  | exact ⟨b1, rfl, by simp [wkA, e], by simpa [wkA, e] using b2, b3⟩)
  · rw [e]
    refine z_tsw hX 40 (dflt := 83) (lo := 2) (hi := 6) (offs := #[34, 83, 49, 34, 63]) (len := 34) (off := 34) (by decide +kernel) (by decide) (by decide) ?_
    refine bk hX lkX12_ok (pc' := 43) [.aload_n 0, .bipush 30] (by decide +kernel) (And.intro trivial ?_)
    refine z_callV hX kw_X12_391 (c_M_body E K N Rf I L ht (by omega) 30) rfl rfl rfl rfl rfl (by decide +kernel) (by decide) (by decide) (by decide) (by decide) (Nat.le_of_ble_eq_true rfl) ?_
    rintro _ _ ⟨a1, rfl, rfl, a2, a3⟩
    refine bk hX lkX12_ok (pc' := 51) [.aload_n 0, .iload_n 1, .iload_n 2, .iconst 3, .imul] (by decide +kernel) (And.intro trivial ?_)
    refine z_callV hX kw_X12_394 (c_M_handWorks E K N Rf a1 L a2 (by first | omega | (simp only [List.length_append, List.length_cons, List.length_nil]; omega)) (nI i) _) rfl rfl rfl rfl rfl (by decide +kernel) (by decide) (by decide) (by decide) (by decide) (Nat.le_of_ble_eq_true rfl) ?_
    rintro _ _ ⟨b1, rfl, rfl, b2, b3⟩
    exact z_iret hX (by decide +kernel) rfl (rfl) (by decide) (by decide) (by first
  | exact ⟨b1, rfl, by simp [wkA, e], by simpa [wkA, e] using b2, frX_tr a3 b3⟩
  | exact ⟨b1, rfl, by simp [wkA, e], by simpa [wkA, e] using b2, b3⟩)
  · rw [e]
    refine z_tsw hX 89 (dflt := 83) (lo := 2) (hi := 6) (offs := #[34, 83, 49, 34, 63]) (len := 34) (off := 83) (by decide +kernel) (by decide) (by decide) ?_
    refine bk hX lkX12_ok (pc' := 92) [.aload_n 0, .iload_n 1, .iload_n 2] (by decide +kernel) (And.intro trivial ?_)
    refine z_callV hX kw_X12_394 (c_M_handWorks E K N Rf I L ht (by first | omega | (simp only [List.length_append, List.length_cons, List.length_nil]; omega)) (nI i) _) rfl rfl rfl rfl rfl (by decide +kernel) (by decide) (by decide) (by decide) (by decide) (Nat.le_of_ble_eq_true rfl) ?_
    rintro _ _ ⟨b1, rfl, rfl, b2, b3⟩
    exact z_iret hX (by decide +kernel) rfl (rfl) (by decide) (by decide) (by first
  | exact ⟨b1, rfl, by simp [wkA, e], by simpa [wkA, e] using b2, frX_tr a3 b3⟩
  | exact ⟨b1, rfl, by simp [wkA, e], by simpa [wkA, e] using b2, b3⟩)
  · rw [e]
    refine z_tsw hX 55 (dflt := 83) (lo := 2) (hi := 6) (offs := #[34, 83, 49, 34, 63]) (len := 34) (off := 49) (by decide +kernel) (by decide) (by decide) ?_
    refine bk hX lkX12_ok (pc' := 58) [.aload_n 0, .bipush 50] (by decide +kernel) (And.intro trivial ?_)
    refine z_callV hX kw_X12_391 (c_M_body E K N Rf I L ht (by omega) 50) rfl rfl rfl rfl rfl (by decide +kernel) (by decide) (by decide) (by decide) (by decide) (Nat.le_of_ble_eq_true rfl) ?_
    rintro _ _ ⟨a1, rfl, rfl, a2, a3⟩
    refine bk hX lkX12_ok (pc' := 64) [.aload_n 0, .iload_n 1, .iload_n 2] (by decide +kernel) (And.intro trivial ?_)
    refine z_callV hX kw_X12_394 (c_M_handWorks E K N Rf a1 L a2 (by first | omega | (simp only [List.length_append, List.length_cons, List.length_nil]; omega)) (nI i) _) rfl rfl rfl rfl rfl (by decide +kernel) (by decide) (by decide) (by decide) (by decide) (Nat.le_of_ble_eq_true rfl) ?_
    rintro _ _ ⟨b1, rfl, rfl, b2, b3⟩
    refine bk hX lkX12_ok (pc' := 68) [.ineg] (by decide +kernel) (And.intro trivial ?_)
    exact z_iret hX (by decide +kernel) rfl (rfl) (by decide) (by decide) (by first
  | exact ⟨b1, rfl, by simp [wkA, e], by simpa [wkA, e] using b2, frX_tr a3 b3⟩
  | exact ⟨b1, rfl, by simp [wkA, e], by simpa [wkA, e] using b2, b3⟩)
  · rw [e]
    refine z_tsw hX 40 (dflt := 83) (lo := 2) (hi := 6) (offs := #[34, 83, 49, 34, 63]) (len := 34) (off := 34) (by decide +kernel) (by decide) (by decide) ?_
    refine bk hX lkX12_ok (pc' := 43) [.aload_n 0, .bipush 30] (by decide +kernel) (And.intro trivial ?_)
    refine z_callV hX kw_X12_391 (c_M_body E K N Rf I L ht (by omega) 30) rfl rfl rfl rfl rfl (by decide +kernel) (by decide) (by decide) (by decide) (by decide) (Nat.le_of_ble_eq_true rfl) ?_
    rintro _ _ ⟨a1, rfl, rfl, a2, a3⟩
    refine bk hX lkX12_ok (pc' := 51) [.aload_n 0, .iload_n 1, .iload_n 2, .iconst 3, .imul] (by decide +kernel) (And.intro trivial ?_)
    refine z_callV hX kw_X12_394 (c_M_handWorks E K N Rf a1 L a2 (by first | omega | (simp only [List.length_append, List.length_cons, List.length_nil]; omega)) (nI i) _) rfl rfl rfl rfl rfl (by decide +kernel) (by decide) (by decide) (by decide) (by decide) (Nat.le_of_ble_eq_true rfl) ?_
    rintro _ _ ⟨b1, rfl, rfl, b2, b3⟩
    exact z_iret hX (by decide +kernel) rfl (rfl) (by decide) (by decide) (by first
  | exact ⟨b1, rfl, by simp [wkA, e], by simpa [wkA, e] using b2, frX_tr a3 b3⟩
  | exact ⟨b1, rfl, by simp [wkA, e], by simpa [wkA, e] using b2, b3⟩)
  · rw [e]
    refine z_tsw hX 69 (dflt := 83) (lo := 2) (hi := 6) (offs := #[34, 83, 49, 34, 63]) (len := 34) (off := 63) (by decide +kernel) (by decide) (by decide) ?_
    refine bk hX lkX12_ok (pc' := 72) [.aload_n 0, .bipush 71] (by decide +kernel) (And.intro trivial ?_)
    refine z_callV hX kw_X12_391 (c_M_body E K N Rf I L ht (by omega) 71) rfl rfl rfl rfl rfl (by decide +kernel) (by decide) (by decide) (by decide) (by decide) (Nat.le_of_ble_eq_true rfl) ?_
    rintro _ _ ⟨a1, rfl, rfl, a2, a3⟩
    refine bk hX lkX12_ok (pc' := 78) [.aload_n 0, .iload_n 1, .iload_n 2] (by decide +kernel) (And.intro trivial ?_)
    refine z_callV hX kw_X12_394 (c_M_handWorks E K N Rf a1 L a2 (by first | omega | (simp only [List.length_append, List.length_cons, List.length_nil]; omega)) (nI i) _) rfl rfl rfl rfl rfl (by decide +kernel) (by decide) (by decide) (by decide) (by decide) (Nat.le_of_ble_eq_true rfl) ?_
    rintro _ _ ⟨b1, rfl, rfl, b2, b3⟩
    refine bk hX lkX12_ok (pc' := 87) [.aload_n 0, .getfield 23, .iload_n 1, .iaload] (by decide +kernel) (And.intro (by exact vin 6 (by omega)) (And.intro trivial ?_))
    rw [ci, show b1 (101 + 4) i = nI (gv g i) from ((mG_T hG (frX_tr a3 b3)).2.2.2 i hi).2.1]
    refine bk hX lkX12_ok (pc' := 88) [.ixor] (by decide +kernel) (And.intro trivial ?_)
    exact z_iret hX (by decide +kernel) rfl (rfl) (by decide) (by decide) (by first
  | exact ⟨b1, rfl, by simp [wkA, e], by simpa [wkA, e] using b2, frX_tr a3 b3⟩
  | exact ⟨b1, rfl, by simp [wkA, e], by simpa [wkA, e] using b2, b3⟩)
theorem c_M_handMinds (E : zE) (K N : Nat → Nat) (Rf : Nat → Nat → Option Nat) (I : Nat → Nat → Int32) (L : Nat → Nat → Int64) {g : Gv} (hg : gwf g) (hG : mG g I) {i : Nat} (hi : i < gn g) {t : List Nat} (ht : mTr t I) (hl : t.length ≤ 17) (x : Int32) : zCt E mX12_handMinds 3 0 0 (sg K N Rf I L) [.ref 100, .int (nI i), .int x] (fun r σ' => ∃ I', σ' = sg K N Rf I' L ∧ r = some (.int (hmA (gk g i) (gv g i) i x).1) ∧ mTr (t ++ (hmA (gk g i) (gv g i) i x).2) I' ∧ frT I I') := by
  have h6 := hg.1
  have hk6 := (hg.2.1 i hi).1
  have ci : (nI i).toNatClampNeg = i := cl (by omega)
  refine z_intro (by decide) (Nat.le_of_ble_eq_true rfl) (fun X hX => ?_)
  refine bk hX lkX12_ok (pc' := 3) [.aload_n 0, .bipush 11] (by decide +kernel) (And.intro trivial ?_)
  refine z_callV hX kw_X12_391 (c_M_body E K N Rf I L ht (by omega) 11) rfl rfl rfl rfl rfl (by decide +kernel) (by decide) (by decide) (by decide) (by decide) (Nat.le_of_ble_eq_true rfl) ?_
  rintro _ _ ⟨a1, rfl, rfl, a2, a3⟩
  refine bk hX lkX12_ok (pc' := 9) [.aload_n 0, .iload_n 1, .iload_n 2] (by decide +kernel) (And.intro trivial ?_)
  refine z_callV hX kw_X12_397 (c_M_worksAct E K N Rf a1 L hg (mG_T hG a3) hi a2 (by first | omega | (simp only [List.length_append, List.length_cons, List.length_nil]; omega)) _) rfl rfl rfl rfl rfl (by decide +kernel) (by decide) (by decide) (by decide) (by decide) (Nat.le_of_ble_eq_true rfl) ?_
  rintro _ _ ⟨b1, rfl, rfl, b2, b3⟩
  refine bk hX lkX12_ok (pc' := 18) [.aload_n 0, .getfield 23, .iload_n 1, .iaload] (by decide +kernel) (And.intro (by exact vin 6 (by omega)) (And.intro trivial ?_))
  rw [ci, show b1 (101 + 4) i = nI (gv g i) from ((mG_T hG (frX_tr a3 b3)).2.2.2 i hi).2.1]
  refine bk hX lkX12_ok (pc' := 19) [.isub] (by decide +kernel) (And.intro trivial ?_)
  exact z_iret hX (by decide +kernel) rfl (rfl) (by decide) (by decide) (⟨b1, rfl, by simp [hmA], by simpa [hmA] using b2, frX_tr a3 b3⟩)
theorem c_M_lateMinds (E : zE) (K N : Nat → Nat) (Rf : Nat → Nat → Option Nat) (I : Nat → Nat → Int32) (L : Nat → Nat → Int64) {g : Gv} (hg : gwf g) (hG : mG g I) {i : Nat} (hi : i < gn g) {t : List Nat} (ht : mTr t I) (hl : t.length ≤ 16) (x : Int32) : zCt E mX12_lateMinds 4 0 0 (sg K N Rf I L) [.ref 100, .int (nI i), .int x] (fun r σ' => ∃ I', σ' = sg K N Rf I' L ∧ r = some (.int (lmA (gk g i) (gv g i) i x).1) ∧ mTr (t ++ (lmA (gk g i) (gv g i) i x).2) I' ∧ frT I I') := by
  have h6 := hg.1
  have hk6 := (hg.2.1 i hi).1
  have ci : (nI i).toNatClampNeg = i := cl (by omega)
  refine z_intro (by decide) (Nat.le_of_ble_eq_true rfl) (fun X hX => ?_)
  refine bk hX lkX12_ok (pc' := 3) [.aload_n 0, .bipush 20] (by decide +kernel) (And.intro trivial ?_)
  refine z_callV hX kw_X12_391 (c_M_body E K N Rf I L ht (by omega) 20) rfl rfl rfl rfl rfl (by decide +kernel) (by decide) (by decide) (by decide) (by decide) (Nat.le_of_ble_eq_true rfl) ?_
  rintro _ _ ⟨a1, rfl, rfl, a2, a3⟩
  refine bk hX lkX12_ok (pc' := 9) [.aload_n 0, .iload_n 1, .iload_n 2] (by decide +kernel) (And.intro trivial ?_)
  refine z_callV hX kw_X12_400 (c_M_handMinds E K N Rf a1 L hg (mG_T hG a3) hi a2 (by first | omega | (simp only [List.length_append, List.length_cons, List.length_nil]; omega)) _) rfl rfl rfl rfl rfl (by decide +kernel) (by decide) (by decide) (by decide) (by decide) (Nat.le_of_ble_eq_true rfl) ?_
  rintro _ _ ⟨b1, rfl, rfl, b2, b3⟩
  refine bk hX lkX12_ok (pc' := 15) [.bipush 6, .ixor] (by decide +kernel) (And.intro trivial ?_)
  exact z_iret hX (by decide +kernel) rfl (rfl) (by decide) (by decide) (⟨b1, rfl, by simp [lmA], by simpa [lmA] using b2, frX_tr a3 b3⟩)
set_option maxHeartbeats 1000000 in
theorem c_M_mindsAct (E : zE) (K N : Nat → Nat) (Rf : Nat → Nat → Option Nat) (I : Nat → Nat → Int32) (L : Nat → Nat → Int64) {g : Gv} (hg : gwf g) (hG : mG g I) {i : Nat} (hi : i < gn g) {t : List Nat} (ht : mTr t I) (hl : t.length ≤ 15) (x : Int32) : zCt E mX12_mindsAct 5 0 0 (sg K N Rf I L) [.ref 100, .int (nI i), .int x] (fun r σ' => ∃ I', σ' = sg K N Rf I' L ∧ r = some (.int (mdA (gk g i) (gv g i) i x).1) ∧ mTr (t ++ (mdA (gk g i) (gv g i) i x).2) I' ∧ frT I I') := by
  have h6 := hg.1
  have hk6 := (hg.2.1 i hi).1
  have ci : (nI i).toNatClampNeg = i := cl (by omega)
  refine z_intro (by decide) (Nat.le_of_ble_eq_true rfl) (fun X hX => ?_)
  refine bk hX lkX12_ok (pc' := 6) [.aload_n 0, .getfield 19, .iload_n 1, .iaload] (by decide +kernel) (And.intro (by exact vin 6 (by omega)) (And.intro trivial ?_))
  rw [ci, show I (101 + 3) i = nI (gk g i) from (hG.2.2.2 i hi).1]
  have hk7 : gk g i = 0 ∨ gk g i = 1 ∨ gk g i = 2 ∨ gk g i = 3 ∨ gk g i = 4 ∨ gk g i = 5 ∨ gk g i = 6 := by omega
  rcases hk7 with e | e | e | e | e | e | e
  · rw [e]
    refine z_lsw hX 84 (dflt := 78) (ps := #[(1, 34), (4, 41), (6, 56)]) (len := 34) (off := 78) (by decide +kernel) (by decide) (by decide) (by decide) ?_
    refine bk hX lkX12_ok (pc' := 87) [.aload_n 0, .iload_n 1, .iload_n 2] (by decide +kernel) (And.intro trivial ?_)
    refine z_callV hX kw_X12_400 (c_M_handMinds E K N Rf I L hg (hG) hi ht (by first | omega | (simp only [List.length_append, List.length_cons, List.length_nil]; omega)) _) rfl rfl rfl rfl rfl (by decide +kernel) (by decide) (by decide) (by decide) (by decide) (Nat.le_of_ble_eq_true rfl) ?_
    rintro _ _ ⟨b1, rfl, rfl, b2, b3⟩
    exact z_iret hX (by decide +kernel) rfl (rfl) (by decide) (by decide) (by first
  | exact ⟨b1, rfl, by simp [mdA, e], by simpa [mdA, e] using b2, b3⟩
  | exact ⟨b1, rfl, by simp [mdA, e], by simpa [mdA, e] using b2, frX_tr a3 b3⟩
  | exact ⟨b1, rfl, by simp [mdA, e], by simpa [mdA, e] using b2, frX_tr (frX_tr a3 d3) b3⟩)
  · rw [e]
    refine z_lsw hX 40 (dflt := 78) (ps := #[(1, 34), (4, 41), (6, 56)]) (len := 34) (off := 34) (by decide +kernel) (by decide) (by decide) (by decide) ?_
    refine bk hX lkX12_ok (pc' := 43) [.aload_n 0, .iload_n 1, .iload_n 2] (by decide +kernel) (And.intro trivial ?_)
    refine z_callV hX kw_X12_403 (c_M_lateMinds E K N Rf I L hg (hG) hi ht (by first | omega | (simp only [List.length_append, List.length_cons, List.length_nil]; omega)) _) rfl rfl rfl rfl rfl (by decide +kernel) (by decide) (by decide) (by decide) (by decide) (Nat.le_of_ble_eq_true rfl) ?_
    rintro _ _ ⟨b1, rfl, rfl, b2, b3⟩
    exact z_iret hX (by decide +kernel) rfl (rfl) (by decide) (by decide) (by first
  | exact ⟨b1, rfl, by simp [mdA, e], by simpa [mdA, e] using b2, b3⟩
  | exact ⟨b1, rfl, by simp [mdA, e], by simpa [mdA, e] using b2, frX_tr a3 b3⟩
  | exact ⟨b1, rfl, by simp [mdA, e], by simpa [mdA, e] using b2, frX_tr (frX_tr a3 d3) b3⟩)
  · rw [e]
    refine z_lsw hX 84 (dflt := 78) (ps := #[(1, 34), (4, 41), (6, 56)]) (len := 34) (off := 78) (by decide +kernel) (by decide) (by decide) (by decide) ?_
    refine bk hX lkX12_ok (pc' := 87) [.aload_n 0, .iload_n 1, .iload_n 2] (by decide +kernel) (And.intro trivial ?_)
    refine z_callV hX kw_X12_400 (c_M_handMinds E K N Rf I L hg (hG) hi ht (by first | omega | (simp only [List.length_append, List.length_cons, List.length_nil]; omega)) _) rfl rfl rfl rfl rfl (by decide +kernel) (by decide) (by decide) (by decide) (by decide) (Nat.le_of_ble_eq_true rfl) ?_
    rintro _ _ ⟨b1, rfl, rfl, b2, b3⟩
    exact z_iret hX (by decide +kernel) rfl (rfl) (by decide) (by decide) (by first
  | exact ⟨b1, rfl, by simp [mdA, e], by simpa [mdA, e] using b2, b3⟩
  | exact ⟨b1, rfl, by simp [mdA, e], by simpa [mdA, e] using b2, frX_tr a3 b3⟩
  | exact ⟨b1, rfl, by simp [mdA, e], by simpa [mdA, e] using b2, frX_tr (frX_tr a3 d3) b3⟩)
  · rw [e]
    refine z_lsw hX 84 (dflt := 78) (ps := #[(1, 34), (4, 41), (6, 56)]) (len := 34) (off := 78) (by decide +kernel) (by decide) (by decide) (by decide) ?_
    refine bk hX lkX12_ok (pc' := 87) [.aload_n 0, .iload_n 1, .iload_n 2] (by decide +kernel) (And.intro trivial ?_)
    refine z_callV hX kw_X12_400 (c_M_handMinds E K N Rf I L hg (hG) hi ht (by first | omega | (simp only [List.length_append, List.length_cons, List.length_nil]; omega)) _) rfl rfl rfl rfl rfl (by decide +kernel) (by decide) (by decide) (by decide) (by decide) (Nat.le_of_ble_eq_true rfl) ?_
    rintro _ _ ⟨b1, rfl, rfl, b2, b3⟩
    exact z_iret hX (by decide +kernel) rfl (rfl) (by decide) (by decide) (by first
  | exact ⟨b1, rfl, by simp [mdA, e], by simpa [mdA, e] using b2, b3⟩
  | exact ⟨b1, rfl, by simp [mdA, e], by simpa [mdA, e] using b2, frX_tr a3 b3⟩
  | exact ⟨b1, rfl, by simp [mdA, e], by simpa [mdA, e] using b2, frX_tr (frX_tr a3 d3) b3⟩)
  · rw [e]
    refine z_lsw hX 47 (dflt := 78) (ps := #[(1, 34), (4, 41), (6, 56)]) (len := 34) (off := 41) (by decide +kernel) (by decide) (by decide) (by decide) ?_
    refine bk hX lkX12_ok (pc' := 50) [.aload_n 0, .bipush 51] (by decide +kernel) (And.intro trivial ?_)
    refine z_callV hX kw_X12_391 (c_M_body E K N Rf I L ht (by omega) 51) rfl rfl rfl rfl rfl (by decide +kernel) (by decide) (by decide) (by decide) (by decide) (Nat.le_of_ble_eq_true rfl) ?_
    rintro _ _ ⟨a1, rfl, rfl, a2, a3⟩
    refine bk hX lkX12_ok (pc' := 58) [.aload_n 0, .iload_n 1, .iload_n 2, .iconst 1, .iadd] (by decide +kernel) (And.intro trivial ?_)
    refine z_callV hX kw_X12_403 (c_M_lateMinds E K N Rf a1 L hg (mG_T hG a3) hi a2 (by first | omega | (simp only [List.length_append, List.length_cons, List.length_nil]; omega)) _) rfl rfl rfl rfl rfl (by decide +kernel) (by decide) (by decide) (by decide) (by decide) (Nat.le_of_ble_eq_true rfl) ?_
    rintro _ _ ⟨b1, rfl, rfl, b2, b3⟩
    exact z_iret hX (by decide +kernel) rfl (rfl) (by decide) (by decide) (by first
  | exact ⟨b1, rfl, by simp [mdA, e], by simpa [mdA, e] using b2, b3⟩
  | exact ⟨b1, rfl, by simp [mdA, e], by simpa [mdA, e] using b2, frX_tr a3 b3⟩
  | exact ⟨b1, rfl, by simp [mdA, e], by simpa [mdA, e] using b2, frX_tr (frX_tr a3 d3) b3⟩)
  · rw [e]
    refine z_lsw hX 84 (dflt := 78) (ps := #[(1, 34), (4, 41), (6, 56)]) (len := 34) (off := 78) (by decide +kernel) (by decide) (by decide) (by decide) ?_
    refine bk hX lkX12_ok (pc' := 87) [.aload_n 0, .iload_n 1, .iload_n 2] (by decide +kernel) (And.intro trivial ?_)
    refine z_callV hX kw_X12_400 (c_M_handMinds E K N Rf I L hg (hG) hi ht (by first | omega | (simp only [List.length_append, List.length_cons, List.length_nil]; omega)) _) rfl rfl rfl rfl rfl (by decide +kernel) (by decide) (by decide) (by decide) (by decide) (Nat.le_of_ble_eq_true rfl) ?_
    rintro _ _ ⟨b1, rfl, rfl, b2, b3⟩
    exact z_iret hX (by decide +kernel) rfl (rfl) (by decide) (by decide) (by first
  | exact ⟨b1, rfl, by simp [mdA, e], by simpa [mdA, e] using b2, b3⟩
  | exact ⟨b1, rfl, by simp [mdA, e], by simpa [mdA, e] using b2, frX_tr a3 b3⟩
  | exact ⟨b1, rfl, by simp [mdA, e], by simpa [mdA, e] using b2, frX_tr (frX_tr a3 d3) b3⟩)
  · rw [e]
    refine z_lsw hX 62 (dflt := 78) (ps := #[(1, 34), (4, 41), (6, 56)]) (len := 34) (off := 56) (by decide +kernel) (by decide) (by decide) (by decide) ?_
    refine bk hX lkX12_ok (pc' := 65) [.aload_n 0, .bipush 70] (by decide +kernel) (And.intro trivial ?_)
    refine z_callV hX kw_X12_391 (c_M_body E K N Rf I L ht (by omega) 70) rfl rfl rfl rfl rfl (by decide +kernel) (by decide) (by decide) (by decide) (by decide) (Nat.le_of_ble_eq_true rfl) ?_
    rintro _ _ ⟨a1, rfl, rfl, a2, a3⟩
    refine bk hX lkX12_ok (pc' := 71) [.aload_n 0, .iload_n 1, .iload_n 2] (by decide +kernel) (And.intro trivial ?_)
    refine z_callV hX kw_X12_400 (c_M_handMinds E K N Rf a1 L hg (mG_T hG a3) hi a2 (by first | omega | (simp only [List.length_append, List.length_cons, List.length_nil]; omega)) _) rfl rfl rfl rfl rfl (by decide +kernel) (by decide) (by decide) (by decide) (by decide) (Nat.le_of_ble_eq_true rfl) ?_
    rintro _ _ ⟨d1, rfl, rfl, d2, d3⟩
    refine bk hX lkX12_ok (pc' := 79) [.istore_n 3, .iload_n 3, .aload_n 0, .iload_n 1, .iconst 2] (by decide +kernel) (And.intro trivial ?_)
    refine z_callV hX kw_X12_394 (c_M_handWorks E K N Rf d1 L d2 (by have hwl := wkA_len (gk g i) (gv g i) i x; simp only [hmA, List.length_append, List.length_cons, List.length_nil]; omega) (nI i) _) rfl rfl rfl rfl rfl (by decide +kernel) (by decide) (by decide) (by decide) (by decide) (Nat.le_of_ble_eq_true rfl) ?_
    rintro _ _ ⟨b1, rfl, rfl, b2, b3⟩
    refine bk hX lkX12_ok (pc' := 83) [.iadd] (by decide +kernel) (And.intro trivial ?_)
    exact z_iret hX (by decide +kernel) rfl (rfl) (by decide) (by decide) (by first
  | exact ⟨b1, rfl, by simp [mdA, e], by simpa [mdA, e] using b2, b3⟩
  | exact ⟨b1, rfl, by simp [mdA, e], by simpa [mdA, e] using b2, frX_tr a3 b3⟩
  | exact ⟨b1, rfl, by simp [mdA, e], by simpa [mdA, e] using b2, frX_tr (frX_tr a3 d3) b3⟩)
theorem c_M_handTells (E : zE) (K N : Nat → Nat) (Rf : Nat → Nat → Option Nat) (I : Nat → Nat → Int32) (L : Nat → Nat → Int64) {g : Gv} (hg : gwf g) (hG : mG g I) {i : Nat} (hi : i < gn g) {t : List Nat} (ht : mTr t I) (hl : t.length ≤ 14) (x : Int32) : zCt E mX12_handTells 6 0 0 (sg K N Rf I L) [.ref 100, .int (nI i), .int x] (fun r σ' => ∃ I', σ' = sg K N Rf I' L ∧ r = some (.int (htA (gk g i) (gv g i) i x).1) ∧ mTr (t ++ (htA (gk g i) (gv g i) i x).2) I' ∧ frT I I') := by
  have h6 := hg.1
  have hk6 := (hg.2.1 i hi).1
  have ci : (nI i).toNatClampNeg = i := cl (by omega)
  refine z_intro (by decide) (Nat.le_of_ble_eq_true rfl) (fun X hX => ?_)
  refine bk hX lkX12_ok (pc' := 3) [.aload_n 0, .bipush 12] (by decide +kernel) (And.intro trivial ?_)
  refine z_callV hX kw_X12_391 (c_M_body E K N Rf I L ht (by omega) 12) rfl rfl rfl rfl rfl (by decide +kernel) (by decide) (by decide) (by decide) (by decide) (Nat.le_of_ble_eq_true rfl) ?_
  rintro _ _ ⟨a1, rfl, rfl, a2, a3⟩
  refine bk hX lkX12_ok (pc' := 9) [.aload_n 0, .iload_n 1, .iload_n 2] (by decide +kernel) (And.intro trivial ?_)
  refine z_callV hX kw_X12_406 (c_M_mindsAct E K N Rf a1 L hg (mG_T hG a3) hi a2 (by first | omega | (simp only [List.length_append, List.length_cons, List.length_nil]; omega)) _) rfl rfl rfl rfl rfl (by decide +kernel) (by decide) (by decide) (by decide) (by decide) (Nat.le_of_ble_eq_true rfl) ?_
  rintro _ _ ⟨b1, rfl, rfl, b2, b3⟩
  refine bk hX lkX12_ok (pc' := 14) [.iconst 2, .imul] (by decide +kernel) (And.intro trivial ?_)
  exact z_iret hX (by decide +kernel) rfl (rfl) (by decide) (by decide) (⟨b1, rfl, by simp [htA], by simpa [htA] using b2, frX_tr a3 b3⟩)
set_option maxHeartbeats 1000000 in
theorem c_M_tellsAct (E : zE) (K N : Nat → Nat) (Rf : Nat → Nat → Option Nat) (I : Nat → Nat → Int32) (L : Nat → Nat → Int64) {g : Gv} (hg : gwf g) (hG : mG g I) {i : Nat} (hi : i < gn g) {t : List Nat} (ht : mTr t I) (hl : t.length ≤ 8) (x : Int32) : zCt E mX12_tellsAct 7 0 0 (sg K N Rf I L) [.ref 100, .int (nI i), .int x] (fun r σ' => ∃ I', σ' = sg K N Rf I' L ∧ r = some (.int (tlA (gk g i) (gv g i) i x).1) ∧ mTr (t ++ (tlA (gk g i) (gv g i) i x).2) I' ∧ frT I I') := by
  have h6 := hg.1
  have hk6 := (hg.2.1 i hi).1
  have ci : (nI i).toNatClampNeg = i := cl (by omega)
  refine z_intro (by decide) (Nat.le_of_ble_eq_true rfl) (fun X hX => ?_)
  refine bk hX lkX12_ok (pc' := 6) [.aload_n 0, .getfield 19, .iload_n 1, .iaload] (by decide +kernel) (And.intro (by exact vin 6 (by omega)) (And.intro trivial ?_))
  rw [ci, show I (101 + 3) i = nI (gk g i) from (hG.2.2.2 i hi).1]
  have hk7 : gk g i = 0 ∨ gk g i = 1 ∨ gk g i = 2 ∨ gk g i = 3 ∨ gk g i = 4 ∨ gk g i = 5 ∨ gk g i = 6 := by omega
  rcases hk7 with e | e | e | e | e | e | e
  · rw [e]
    refine z_tsw hX 73 (dflt := 67) (lo := 3) (hi := 6) (offs := #[30, 67, 52, 30]) (len := 30) (off := 67) (by decide +kernel) (by decide) (by decide) ?_
    refine bk hX lkX12_ok (pc' := 76) [.aload_n 0, .iload_n 1, .iload_n 2] (by decide +kernel) (And.intro trivial ?_)
    refine z_callV hX kw_X12_409 (c_M_handTells E K N Rf I L hg (hG) hi ht (by first | omega | (simp only [List.length_append, List.length_cons, List.length_nil]; omega)) _) rfl rfl rfl rfl rfl (by decide +kernel) (by decide) (by decide) (by decide) (by decide) (Nat.le_of_ble_eq_true rfl) ?_
    rintro _ _ ⟨b1, rfl, rfl, b2, b3⟩
    exact z_iret hX (by decide +kernel) rfl (rfl) (by decide) (by decide) (by first
  | exact ⟨b1, rfl, by simp [tlA, e], by simpa [tlA, e] using b2, b3⟩
  | exact ⟨b1, rfl, by simp [tlA, e], by simpa [tlA, e] using b2, frX_tr a3 b3⟩
  | exact ⟨b1, rfl, by simp [tlA, e], by simpa [tlA, e] using b2, frX_tr (frX_tr a3 d3) b3⟩)
  · rw [e]
    refine z_tsw hX 73 (dflt := 67) (lo := 3) (hi := 6) (offs := #[30, 67, 52, 30]) (len := 30) (off := 67) (by decide +kernel) (by decide) (by decide) ?_
    refine bk hX lkX12_ok (pc' := 76) [.aload_n 0, .iload_n 1, .iload_n 2] (by decide +kernel) (And.intro trivial ?_)
    refine z_callV hX kw_X12_409 (c_M_handTells E K N Rf I L hg (hG) hi ht (by first | omega | (simp only [List.length_append, List.length_cons, List.length_nil]; omega)) _) rfl rfl rfl rfl rfl (by decide +kernel) (by decide) (by decide) (by decide) (by decide) (Nat.le_of_ble_eq_true rfl) ?_
    rintro _ _ ⟨b1, rfl, rfl, b2, b3⟩
    exact z_iret hX (by decide +kernel) rfl (rfl) (by decide) (by decide) (by first
  | exact ⟨b1, rfl, by simp [tlA, e], by simpa [tlA, e] using b2, b3⟩
  | exact ⟨b1, rfl, by simp [tlA, e], by simpa [tlA, e] using b2, frX_tr a3 b3⟩
  | exact ⟨b1, rfl, by simp [tlA, e], by simpa [tlA, e] using b2, frX_tr (frX_tr a3 d3) b3⟩)
  · rw [e]
    refine z_tsw hX 73 (dflt := 67) (lo := 3) (hi := 6) (offs := #[30, 67, 52, 30]) (len := 30) (off := 67) (by decide +kernel) (by decide) (by decide) ?_
    refine bk hX lkX12_ok (pc' := 76) [.aload_n 0, .iload_n 1, .iload_n 2] (by decide +kernel) (And.intro trivial ?_)
    refine z_callV hX kw_X12_409 (c_M_handTells E K N Rf I L hg (hG) hi ht (by first | omega | (simp only [List.length_append, List.length_cons, List.length_nil]; omega)) _) rfl rfl rfl rfl rfl (by decide +kernel) (by decide) (by decide) (by decide) (by decide) (Nat.le_of_ble_eq_true rfl) ?_
    rintro _ _ ⟨b1, rfl, rfl, b2, b3⟩
    exact z_iret hX (by decide +kernel) rfl (rfl) (by decide) (by decide) (by first
  | exact ⟨b1, rfl, by simp [tlA, e], by simpa [tlA, e] using b2, b3⟩
  | exact ⟨b1, rfl, by simp [tlA, e], by simpa [tlA, e] using b2, frX_tr a3 b3⟩
  | exact ⟨b1, rfl, by simp [tlA, e], by simpa [tlA, e] using b2, frX_tr (frX_tr a3 d3) b3⟩)
  · rw [e]
    refine z_tsw hX 36 (dflt := 67) (lo := 3) (hi := 6) (offs := #[30, 67, 52, 30]) (len := 30) (off := 30) (by decide +kernel) (by decide) (by decide) ?_
    refine bk hX lkX12_ok (pc' := 39) [.aload_n 0, .bipush 40] (by decide +kernel) (And.intro trivial ?_)
    refine z_callV hX kw_X12_391 (c_M_body E K N Rf I L ht (by omega) 40) rfl rfl rfl rfl rfl (by decide +kernel) (by decide) (by decide) (by decide) (by decide) (Nat.le_of_ble_eq_true rfl) ?_
    rintro _ _ ⟨a1, rfl, rfl, a2, a3⟩
    refine bk hX lkX12_ok (pc' := 45) [.aload_n 0, .iload_n 1, .iload_n 2] (by decide +kernel) (And.intro trivial ?_)
    refine z_callV hX kw_X12_409 (c_M_handTells E K N Rf a1 L hg (mG_T hG a3) hi a2 (by first | omega | (simp only [List.length_append, List.length_cons, List.length_nil]; omega)) _) rfl rfl rfl rfl rfl (by decide +kernel) (by decide) (by decide) (by decide) (by decide) (Nat.le_of_ble_eq_true rfl) ?_
    rintro _ _ ⟨d1, rfl, rfl, d2, d3⟩
    refine bk hX lkX12_ok (pc' := 53) [.istore_n 3, .iload_n 3, .aload_n 0, .iload_n 1, .iconst 1] (by decide +kernel) (And.intro trivial ?_)
    refine z_callV hX kw_X12_406 (c_M_mindsAct E K N Rf d1 L hg (mG_T hG (frX_tr a3 d3)) hi d2 (by have hml := mdA_len (gk g i) (gv g i) i x; simp only [htA, List.length_append, List.length_cons, List.length_nil]; omega) _) rfl rfl rfl rfl rfl (by decide +kernel) (by decide) (by decide) (by decide) (by decide) (Nat.le_of_ble_eq_true rfl) ?_
    rintro _ _ ⟨b1, rfl, rfl, b2, b3⟩
    refine bk hX lkX12_ok (pc' := 57) [.iadd] (by decide +kernel) (And.intro trivial ?_)
    exact z_iret hX (by decide +kernel) rfl (rfl) (by decide) (by decide) (by first
  | exact ⟨b1, rfl, by simp [tlA, e], by simpa [tlA, e] using b2, b3⟩
  | exact ⟨b1, rfl, by simp [tlA, e], by simpa [tlA, e] using b2, frX_tr a3 b3⟩
  | exact ⟨b1, rfl, by simp [tlA, e], by simpa [tlA, e] using b2, frX_tr (frX_tr a3 d3) b3⟩)
  · rw [e]
    refine z_tsw hX 73 (dflt := 67) (lo := 3) (hi := 6) (offs := #[30, 67, 52, 30]) (len := 30) (off := 67) (by decide +kernel) (by decide) (by decide) ?_
    refine bk hX lkX12_ok (pc' := 76) [.aload_n 0, .iload_n 1, .iload_n 2] (by decide +kernel) (And.intro trivial ?_)
    refine z_callV hX kw_X12_409 (c_M_handTells E K N Rf I L hg (hG) hi ht (by first | omega | (simp only [List.length_append, List.length_cons, List.length_nil]; omega)) _) rfl rfl rfl rfl rfl (by decide +kernel) (by decide) (by decide) (by decide) (by decide) (Nat.le_of_ble_eq_true rfl) ?_
    rintro _ _ ⟨b1, rfl, rfl, b2, b3⟩
    exact z_iret hX (by decide +kernel) rfl (rfl) (by decide) (by decide) (by first
  | exact ⟨b1, rfl, by simp [tlA, e], by simpa [tlA, e] using b2, b3⟩
  | exact ⟨b1, rfl, by simp [tlA, e], by simpa [tlA, e] using b2, frX_tr a3 b3⟩
  | exact ⟨b1, rfl, by simp [tlA, e], by simpa [tlA, e] using b2, frX_tr (frX_tr a3 d3) b3⟩)
  · rw [e]
    refine z_tsw hX 58 (dflt := 67) (lo := 3) (hi := 6) (offs := #[30, 67, 52, 30]) (len := 30) (off := 52) (by decide +kernel) (by decide) (by decide) ?_
    refine bk hX lkX12_ok (pc' := 61) [.aload_n 0, .bipush 60] (by decide +kernel) (And.intro trivial ?_)
    refine z_callV hX kw_X12_391 (c_M_body E K N Rf I L ht (by omega) 60) rfl rfl rfl rfl rfl (by decide +kernel) (by decide) (by decide) (by decide) (by decide) (Nat.le_of_ble_eq_true rfl) ?_
    rintro _ _ ⟨a1, rfl, rfl, a2, a3⟩
    refine bk hX lkX12_ok (pc' := 69) [.aload_n 0, .iload_n 1, .iload_n 2, .iload_n 1, .isub] (by decide +kernel) (And.intro trivial ?_)
    refine z_callV hX kw_X12_409 (c_M_handTells E K N Rf a1 L hg (mG_T hG a3) hi a2 (by first | omega | (simp only [List.length_append, List.length_cons, List.length_nil]; omega)) _) rfl rfl rfl rfl rfl (by decide +kernel) (by decide) (by decide) (by decide) (by decide) (Nat.le_of_ble_eq_true rfl) ?_
    rintro _ _ ⟨b1, rfl, rfl, b2, b3⟩
    exact z_iret hX (by decide +kernel) rfl (rfl) (by decide) (by decide) (by first
  | exact ⟨b1, rfl, by simp [tlA, e], by simpa [tlA, e] using b2, b3⟩
  | exact ⟨b1, rfl, by simp [tlA, e], by simpa [tlA, e] using b2, frX_tr a3 b3⟩
  | exact ⟨b1, rfl, by simp [tlA, e], by simpa [tlA, e] using b2, frX_tr (frX_tr a3 d3) b3⟩)
  · rw [e]
    refine z_tsw hX 36 (dflt := 67) (lo := 3) (hi := 6) (offs := #[30, 67, 52, 30]) (len := 30) (off := 30) (by decide +kernel) (by decide) (by decide) ?_
    refine bk hX lkX12_ok (pc' := 39) [.aload_n 0, .bipush 40] (by decide +kernel) (And.intro trivial ?_)
    refine z_callV hX kw_X12_391 (c_M_body E K N Rf I L ht (by omega) 40) rfl rfl rfl rfl rfl (by decide +kernel) (by decide) (by decide) (by decide) (by decide) (Nat.le_of_ble_eq_true rfl) ?_
    rintro _ _ ⟨a1, rfl, rfl, a2, a3⟩
    refine bk hX lkX12_ok (pc' := 45) [.aload_n 0, .iload_n 1, .iload_n 2] (by decide +kernel) (And.intro trivial ?_)
    refine z_callV hX kw_X12_409 (c_M_handTells E K N Rf a1 L hg (mG_T hG a3) hi a2 (by first | omega | (simp only [List.length_append, List.length_cons, List.length_nil]; omega)) _) rfl rfl rfl rfl rfl (by decide +kernel) (by decide) (by decide) (by decide) (by decide) (Nat.le_of_ble_eq_true rfl) ?_
    rintro _ _ ⟨d1, rfl, rfl, d2, d3⟩
    refine bk hX lkX12_ok (pc' := 53) [.istore_n 3, .iload_n 3, .aload_n 0, .iload_n 1, .iconst 1] (by decide +kernel) (And.intro trivial ?_)
    refine z_callV hX kw_X12_406 (c_M_mindsAct E K N Rf d1 L hg (mG_T hG (frX_tr a3 d3)) hi d2 (by have hml := mdA_len (gk g i) (gv g i) i x; simp only [htA, List.length_append, List.length_cons, List.length_nil]; omega) _) rfl rfl rfl rfl rfl (by decide +kernel) (by decide) (by decide) (by decide) (by decide) (Nat.le_of_ble_eq_true rfl) ?_
    rintro _ _ ⟨b1, rfl, rfl, b2, b3⟩
    refine bk hX lkX12_ok (pc' := 57) [.iadd] (by decide +kernel) (And.intro trivial ?_)
    exact z_iret hX (by decide +kernel) rfl (rfl) (by decide) (by decide) (by first
  | exact ⟨b1, rfl, by simp [tlA, e], by simpa [tlA, e] using b2, b3⟩
  | exact ⟨b1, rfl, by simp [tlA, e], by simpa [tlA, e] using b2, frX_tr a3 b3⟩
  | exact ⟨b1, rfl, by simp [tlA, e], by simpa [tlA, e] using b2, frX_tr (frX_tr a3 d3) b3⟩)
def actS (g : Gv) (x a y : Int32) : Int32 × List Nat := if isIn x (gn g) = true ∧ isIn a 3 = true then (if a = 0 then wkA (gk g (jx x)) (gv g (jx x)) (jx x) y else if a = nI 1 then mdA (gk g (jx x)) (gv g (jx x)) (jx x) y else tlA (gk g (jx x)) (gv g (jx x)) (jx x) y) else (0, [])
theorem c_M_act (E : zE) (K N : Nat → Nat) (Rf : Nat → Nat → Option Nat) (I : Nat → Nat → Int32) (L : Nat → Nat → Int64) {g : Gv} (hg : gwf g) (hG : mG g I) (x a y : Int32) : zCt E mX12_act 8 0 0 (sg K N Rf I L) [.ref 100, .int x, .int a, .int y] (fun r σ' => ∃ I', σ' = sg K N Rf I' L ∧ r = some (.int (actS g x a y).1) ∧ mTr (actS g x a y).2 I' ∧ frT I I') := by
  have h6 := hg.1
  have hF : frT I (up2 I 100 64 (nI 0)) := frX_f (by decide)
  have hG1 : mG g (up2 I 100 64 (nI 0)) := mG_T hG hF
  have hT : mTr [] (up2 I 100 64 (nI 0)) := ⟨by rw [up2_self]; rfl, by decide, fun k hk => absurd hk (Nat.not_lt_zero _)⟩
  refine z_intro (by decide) (Nat.le_of_ble_eq_true rfl) (fun X hX => ?_)
  refine bk hX lkX12_ok (pc' := 7) [.aload_n 0, .iconst 0, .putfield 205, .aload_n 0, .iload_n 1] (by decide +kernel) (And.intro trivial ?_)
  refine z_callV hX kw_X12_232 (c_M_isWorker E K N Rf _ L _ hg.1 hG1.1) rfl rfl rfl rfl rfl (by decide +kernel) (by decide) (by decide) (by decide) (by decide) (Nat.le_of_ble_eq_true rfl) ?_
  rintro _ _ ⟨rfl, hh⟩
  rw [← isIn_iff (by omega)] at hh
  rcases hh with ⟨hx, rfl⟩ | ⟨hx, rfl⟩
  · refine if_eq hX (13) 23 (by decide +kernel) (by decide) (fun c => absurd c (by decide)) (fun c_10 => ?_)
    refine bk hX lkX12_ok (pc' := 17) [.aload_n 0, .iload_n 2, .iconst 0, .iconst 2] (by decide +kernel) (And.intro trivial ?_)
    refine z_callV hX kw_X12_228 (c_M_in E _ _ _ _ _) rfl rfl rfl rfl rfl (by decide +kernel) (by decide) (by decide) (by decide) (by decide) (Nat.le_of_ble_eq_true rfl) ?_
    rintro _ _ ⟨rfl, hh⟩
    rw [in_ix 2 (by decide)] at hh
    rcases hh with ⟨ha, rfl⟩ | ⟨ha, rfl⟩
    · refine if_ne hX (5) 25 (by decide +kernel) (by decide) (fun c_20 => ?_) (fun c => absurd c (by decide))
      obtain ⟨i, hi, rfl⟩ := (isIn_iff (by omega)).mp hx
      refine bk hX lkX12_ok (pc' := 26) [.iload_n 2] (by decide +kernel) (And.intro trivial ?_)
      refine if_ne hX (12) 38 (by decide +kernel) (by decide) (fun c0 => ?_) (fun c0 => ?_)
      · refine bk hX lkX12_ok (pc' := 40) [.iload_n 2, .iconst 1] (by decide +kernel) (And.intro trivial ?_)
        refine ic_ne hX (12) 52 (by decide +kernel) (by decide) (fun c1 => ?_) (fun c1 => ?_)
        · refine bk hX lkX12_ok (pc' := 55) [.aload_n 0, .iload_n 1, .iload_n 3] (by decide +kernel) (And.intro trivial ?_)
          refine z_callV hX kw_X12_412 (c_M_tellsAct E K N Rf _ L hg hG1 hi hT (by decide) _) rfl rfl rfl rfl rfl (by decide +kernel) (by decide) (by decide) (by decide) (by decide) (Nat.le_of_ble_eq_true rfl) ?_
          rintro _ _ ⟨b1, rfl, rfl, b2, b3⟩
          exact z_iret hX (by decide +kernel) rfl (rfl) (by decide) (by decide) (by
  have hS : actS g (nI i) a y = if a = 0 then wkA (gk g i) (gv g i) i y else if a = nI 1 then mdA (gk g i) (gv g i) i y else tlA (gk g i) (gv g i) i y := by
    unfold actS; rw [if_pos ⟨hx, ha⟩, jx_nI (by omega)]
  rw [hS]
  first
    | (rw [if_pos c0]; exact ⟨b1, rfl, rfl, b2, frX_tr hF b3⟩)
    | (rw [if_neg c0, if_pos c1]; exact ⟨b1, rfl, rfl, b2, frX_tr hF b3⟩)
    | (rw [if_neg c0, if_neg c1]; exact ⟨b1, rfl, rfl, b2, frX_tr hF b3⟩))
        · refine bk hX lkX12_ok (pc' := 46) [.aload_n 0, .iload_n 1, .iload_n 3] (by decide +kernel) (And.intro trivial ?_)
          refine z_callV hX kw_X12_406 (c_M_mindsAct E K N Rf _ L hg hG1 hi hT (by decide) _) rfl rfl rfl rfl rfl (by decide +kernel) (by decide) (by decide) (by decide) (by decide) (Nat.le_of_ble_eq_true rfl) ?_
          rintro _ _ ⟨b1, rfl, rfl, b2, b3⟩
          refine gt_ hX (9) 58 (by decide +kernel) (by decide) ?_
          exact z_iret hX (by decide +kernel) rfl (rfl) (by decide) (by decide) (by
  have hS : actS g (nI i) a y = if a = 0 then wkA (gk g i) (gv g i) i y else if a = nI 1 then mdA (gk g i) (gv g i) i y else tlA (gk g i) (gv g i) i y := by
    unfold actS; rw [if_pos ⟨hx, ha⟩, jx_nI (by omega)]
  rw [hS]
  first
    | (rw [if_pos c0]; exact ⟨b1, rfl, rfl, b2, frX_tr hF b3⟩)
    | (rw [if_neg c0, if_pos c1]; exact ⟨b1, rfl, rfl, b2, frX_tr hF b3⟩)
    | (rw [if_neg c0, if_neg c1]; exact ⟨b1, rfl, rfl, b2, frX_tr hF b3⟩))
      · refine bk hX lkX12_ok (pc' := 32) [.aload_n 0, .iload_n 1, .iload_n 3] (by decide +kernel) (And.intro trivial ?_)
        refine z_callV hX kw_X12_397 (c_M_worksAct E K N Rf _ L hg hG1 hi hT (by decide) _) rfl rfl rfl rfl rfl (by decide +kernel) (by decide) (by decide) (by decide) (by decide) (Nat.le_of_ble_eq_true rfl) ?_
        rintro _ _ ⟨b1, rfl, rfl, b2, b3⟩
        refine gt_ hX (23) 58 (by decide +kernel) (by decide) ?_
        exact z_iret hX (by decide +kernel) rfl (rfl) (by decide) (by decide) (by
  have hS : actS g (nI i) a y = if a = 0 then wkA (gk g i) (gv g i) i y else if a = nI 1 then mdA (gk g i) (gv g i) i y else tlA (gk g i) (gv g i) i y := by
    unfold actS; rw [if_pos ⟨hx, ha⟩, jx_nI (by omega)]
  rw [hS]
  first
    | (rw [if_pos c0]; exact ⟨b1, rfl, rfl, b2, frX_tr hF b3⟩)
    | (rw [if_neg c0, if_pos c1]; exact ⟨b1, rfl, rfl, b2, frX_tr hF b3⟩)
    | (rw [if_neg c0, if_neg c1]; exact ⟨b1, rfl, rfl, b2, frX_tr hF b3⟩))
    · refine if_ne hX (5) 25 (by decide +kernel) (by decide) (fun c => absurd (by decide) c) (fun c_20 => ?_)
      refine bk hX lkX12_ok (pc' := 24) [.iconst 0] (by decide +kernel) (And.intro trivial ?_)
      exact z_iret hX (by decide +kernel) rfl (rfl) (by decide) (by decide) (by first | exact ⟨_, rfl, by unfold actS; rw [if_neg (fun z => hx z.1)]; rfl, by unfold actS; rw [if_neg (fun z => hx z.1)]; exact hT, hF⟩ | exact ⟨_, rfl, by unfold actS; rw [if_neg (fun z => ha z.2)]; rfl, by unfold actS; rw [if_neg (fun z => ha z.2)]; exact hT, hF⟩)
  · refine if_eq hX (13) 23 (by decide +kernel) (by decide) (fun c_10 => ?_) (fun c => absurd (by decide) c)
    refine bk hX lkX12_ok (pc' := 24) [.iconst 0] (by decide +kernel) (And.intro trivial ?_)
    exact z_iret hX (by decide +kernel) rfl (rfl) (by decide) (by decide) (by first | exact ⟨_, rfl, by unfold actS; rw [if_neg (fun z => hx z.1)]; rfl, by unfold actS; rw [if_neg (fun z => hx z.1)]; exact hT, hF⟩ | exact ⟨_, rfl, by unfold actS; rw [if_neg (fun z => ha z.2)]; rfl, by unfold actS; rw [if_neg (fun z => ha z.2)]; exact hT, hF⟩)
def trcS (t : List Nat) (x : Int32) : Int32 := if isIn x 20 = true ∧ isIn x t.length = true then nI (t.getD (jx x) 0) else -nI 1
theorem c_M_trace (E : zE) (K N : Nat → Nat) (Rf : Nat → Nat → Option Nat) (I : Nat → Nat → Int32) (L : Nat → Nat → Int64) {t : List Nat} (ht : mTr t I) (x : Int32) : zCt E mX12_trace 1 0 0 (sg K N Rf I L) [.ref 100, .int x] (fun r σ' => σ' = (sg K N Rf I L) ∧ r = some (.int (trcS t x))) := by
  obtain ⟨t1, t2, t3⟩ := ht
  refine z_intro (by decide) (Nat.le_of_ble_eq_true rfl) (fun X hX => ?_)
  refine bk hX lkX12_ok (pc' := 5) [.aload_n 0, .iload_n 1, .iconst 0, .bipush 19] (by decide +kernel) (And.intro trivial ?_)
  refine z_callV hX kw_X12_228 (c_M_in E _ _ _ _ _) rfl rfl rfl rfl rfl (by decide +kernel) (by decide) (by decide) (by decide) (by decide) (Nat.le_of_ble_eq_true rfl) ?_
  rintro _ _ ⟨rfl, hh⟩
  rw [in_ix 19 (by decide)] at hh
  rcases hh with ⟨hx, rfl⟩ | ⟨hx, rfl⟩
  · refine if_eq hX (20) 28 (by decide +kernel) (by decide) (fun c => absurd c (by decide)) (fun c_8 => ?_)
    obtain ⟨k, hk, rfl⟩ := (isIn_iff (by decide)).mp hx
    refine bk hX lkX12_ok (pc' := 16) [.iload_n 1, .aload_n 0, .getfield 205] (by decide +kernel) (And.intro trivial ?_)
    rw [t1]
    refine ic_ge hX (12) 28 (by decide +kernel) (by decide) (fun c1 => ?_) (fun c1 => ?_)
    · refine bk hX lkX12_ok (pc' := 29) [.iconst (Int.negSucc 0)] (by decide +kernel) (And.intro trivial ?_)
      exact z_iret hX (by decide +kernel) rfl (rfl) (by decide) (by decide) (by first
  | exact ⟨rfl, by unfold trcS; rw [if_neg (fun z => hx z.1)]⟩
  | exact ⟨rfl, by unfold trcS; rw [if_pos ⟨hx, isIn_nI c2 (by omega)⟩, cl (by omega), show I (101 + 65) k = _ from t3 k c2, jx_nI (by omega)]⟩
  | exact ⟨rfl, by unfold trcS; rw [if_neg (fun z => by obtain ⟨j, hj, e⟩ := (isIn_iff (by omega)).mp z.2; exact absurd (nI_lt (show k < t.length by rw [nI_inj (by omega) (by omega) e]; exact hj) (by omega)) (i_nlt.mpr c1))]⟩)
    · have c2 : k < t.length := (nI_ltI (by omega) (by omega)).mp (i_nle.mp c1)
      refine bk hX lkX12_ok (pc' := 25) [.aload_n 0, .getfield 208, .iload_n 1, .iaload] (by decide +kernel) (And.intro (by exact vin 20 (by omega)) (And.intro trivial ?_))
      refine gt_ hX (4) 29 (by decide +kernel) (by decide) ?_
      exact z_iret hX (by decide +kernel) rfl (rfl) (by decide) (by decide) (by first
  | exact ⟨rfl, by unfold trcS; rw [if_neg (fun z => hx z.1)]⟩
  | exact ⟨rfl, by unfold trcS; rw [if_pos ⟨hx, isIn_nI c2 (by omega)⟩, cl (by omega), show I (101 + 65) k = _ from t3 k c2, jx_nI (by omega)]⟩
  | exact ⟨rfl, by unfold trcS; rw [if_neg (fun z => by obtain ⟨j, hj, e⟩ := (isIn_iff (by omega)).mp z.2; exact absurd (nI_lt (show k < t.length by rw [nI_inj (by omega) (by omega) e]; exact hj) (by omega)) (i_nlt.mpr c1))]⟩)
  · refine if_eq hX (20) 28 (by decide +kernel) (by decide) (fun c_8 => ?_) (fun c => absurd (by decide) c)
    refine bk hX lkX12_ok (pc' := 29) [.iconst (Int.negSucc 0)] (by decide +kernel) (And.intro trivial ?_)
    exact z_iret hX (by decide +kernel) rfl (rfl) (by decide) (by decide) (by first
  | exact ⟨rfl, by unfold trcS; rw [if_neg (fun z => hx z.1)]⟩
  | exact ⟨rfl, by unfold trcS; rw [if_pos ⟨hx, isIn_nI c2 (by omega)⟩, cl (by omega), show I (101 + 65) k = _ from t3 k c2, jx_nI (by omega)]⟩
  | exact ⟨rfl, by unfold trcS; rw [if_neg (fun z => by obtain ⟨j, hj, e⟩ := (isIn_iff (by omega)).mp z.2; exact absurd (nI_lt (show k < t.length by rw [nI_inj (by omega) (by omega) e]; exact hj) (by omega)) (i_nlt.mpr c1))]⟩)
def cntS (n m s p b f r : Nat) (x : Int32) : Int32 := if isIn x 7 = true then nI (if jx x = 0 then n else if jx x = 1 then m else if jx x = 2 then s else if jx x = 3 then p else if jx x = 4 then b else if jx x = 5 then f else r) else -nI 2
theorem c_M_count (E : zE) (K N : Nat → Nat) (Rf : Nat → Nat → Option Nat) (I : Nat → Nat → Int32) (L : Nat → Nat → Int64) {n m s p b f r : Nat} (h0 : I 100 0 = nI n) (h1 : I 100 8 = nI m) (h2 : I 100 34 = nI s) (h3 : I 100 38 = nI p) (h4 : I 100 39 = nI b) (h5 : I 100 10 = nI f) (h6 : I 100 64 = nI r) (x : Int32) : zCt E mX12_count 0 0 0 (sg K N Rf I L) [.ref 100, .int x] (fun o σ' => σ' = (sg K N Rf I L) ∧ o = some (.int (cntS n m s p b f r x))) := by
  refine z_intro (by decide) (Nat.le_of_ble_eq_true rfl) (fun X hX => ?_)
  refine bk hX lkX12_ok (pc' := 1) [.iload_n 1] (by decide +kernel) (And.intro trivial ?_)
  rcases sw7 x with rfl | rfl | rfl | rfl | rfl | rfl | rfl | h7
  · refine z_tsw hX 44 (dflt := 78) (lo := 0) (hi := 6) (offs := #[43, 48, 53, 58, 63, 68, 73]) (len := 43) (off := 43) (by decide +kernel) (by decide) (by decide) ?_
    refine bk hX lkX12_ok (pc' := 48) [.aload_n 0, .getfield 7] (by decide +kernel) (And.intro trivial ?_)
    exact z_iret hX (by decide +kernel) rfl (rfl) (by decide) (by decide) (⟨rfl, by rw [h0]; rfl⟩)
  · refine z_tsw hX 49 (dflt := 78) (lo := 0) (hi := 6) (offs := #[43, 48, 53, 58, 63, 68, 73]) (len := 43) (off := 48) (by decide +kernel) (by decide) (by decide) ?_
    refine bk hX lkX12_ok (pc' := 53) [.aload_n 0, .getfield 35] (by decide +kernel) (And.intro trivial ?_)
    exact z_iret hX (by decide +kernel) rfl (rfl) (by decide) (by decide) (⟨rfl, by rw [h1]; rfl⟩)
  · refine z_tsw hX 54 (dflt := 78) (lo := 0) (hi := 6) (offs := #[43, 48, 53, 58, 63, 68, 73]) (len := 43) (off := 53) (by decide +kernel) (by decide) (by decide) ?_
    refine bk hX lkX12_ok (pc' := 58) [.aload_n 0, .getfield 114] (by decide +kernel) (And.intro trivial ?_)
    exact z_iret hX (by decide +kernel) rfl (rfl) (by decide) (by decide) (⟨rfl, by rw [h2]; rfl⟩)
  · refine z_tsw hX 59 (dflt := 78) (lo := 0) (hi := 6) (offs := #[43, 48, 53, 58, 63, 68, 73]) (len := 43) (off := 58) (by decide +kernel) (by decide) (by decide) ?_
    refine bk hX lkX12_ok (pc' := 63) [.aload_n 0, .getfield 126] (by decide +kernel) (And.intro trivial ?_)
    exact z_iret hX (by decide +kernel) rfl (rfl) (by decide) (by decide) (⟨rfl, by rw [h3]; rfl⟩)
  · refine z_tsw hX 64 (dflt := 78) (lo := 0) (hi := 6) (offs := #[43, 48, 53, 58, 63, 68, 73]) (len := 43) (off := 63) (by decide +kernel) (by decide) (by decide) ?_
    refine bk hX lkX12_ok (pc' := 68) [.aload_n 0, .getfield 129] (by decide +kernel) (And.intro trivial ?_)
    exact z_iret hX (by decide +kernel) rfl (rfl) (by decide) (by decide) (⟨rfl, by rw [h4]; rfl⟩)
  · refine z_tsw hX 69 (dflt := 78) (lo := 0) (hi := 6) (offs := #[43, 48, 53, 58, 63, 68, 73]) (len := 43) (off := 68) (by decide +kernel) (by decide) (by decide) ?_
    refine bk hX lkX12_ok (pc' := 73) [.aload_n 0, .getfield 41] (by decide +kernel) (And.intro trivial ?_)
    exact z_iret hX (by decide +kernel) rfl (rfl) (by decide) (by decide) (⟨rfl, by rw [h5]; rfl⟩)
  · refine z_tsw hX 74 (dflt := 78) (lo := 0) (hi := 6) (offs := #[43, 48, 53, 58, 63, 68, 73]) (len := 43) (off := 73) (by decide +kernel) (by decide) (by decide) ?_
    refine bk hX lkX12_ok (pc' := 78) [.aload_n 0, .getfield 205] (by decide +kernel) (And.intro trivial ?_)
    exact z_iret hX (by decide +kernel) rfl (rfl) (by decide) (by decide) (⟨rfl, by rw [h6]; rfl⟩)
  · refine z_tsw hX 79 (dflt := 78) (lo := 0) (hi := 6) (offs := #[43, 48, 53, 58, 63, 68, 73]) (len := 43) (off := 78) (by decide +kernel) (Or.inl ⟨sw_out h7 (by decide), rfl⟩) (by decide) ?_
    refine bk hX lkX12_ok (pc' := 81) [.bipush (Int.negSucc 1)] (by decide +kernel) (And.intro trivial ?_)
    exact z_iret hX (by decide +kernel) rfl (rfl) (by decide) (by decide) (⟨rfl, by unfold cntS; rw [if_neg h7]⟩)
