/-- two swap -/
def swG (g : Gv) (i j : Nat) : Gv := (gn g, gk g, gv g, (fun k => if k = j then gc g i else if k = i then gc g j else gc g k), gh g, gr g, ga g, gd g)
theorem gwf_sw {g : Gv} (hg : gwf g) {i j : Nat} (hi : i < gn g) (hj : j < gn g) : gwf (swG g i j) := by
  obtain ⟨a1, a2, a3⟩ := hg
  refine ⟨a1, fun p hp => ⟨(a2 p hp).1, (a2 p hp).2.1, ?_, (a2 p hp).2.2.2.1, (a2 p hp).2.2.2.2⟩, fun p q hp hq h => ?_⟩
  · show (if p = j then gc g i else if p = i then gc g j else gc g p) < gn g
    have h1 := (a2 i hi).2.2.1
    have h2 := (a2 j hj).2.2.1
    have h3 := (a2 p hp).2.2.1
    split
    · exact h1
    · split
      · exact h2
      · exact h3
  · have h' : (if p = j then gc g i else if p = i then gc g j else gc g p) = (if q = j then gc g i else if q = i then gc g j else gc g q) := h
    have hp' : p < gn g := hp
    have hq' : q < gn g := hq
    by_cases e1 : p = j <;> by_cases e2 : q = j <;> by_cases e3 : p = i <;> by_cases e4 : q = i <;> simp only [e1, e2, e3, e4, if_true, if_false] at h' <;> first | omega | (have := a3 _ _ (by omega) (by omega) h'; omega) | (split at h' <;> first | omega | (have := a3 _ _ (by omega) (by omega) h'; omega) | (split at h' <;> first | omega | (have := a3 _ _ (by omega) (by omega) h'; omega)))
theorem mG_sw {g : Gv} (hg : gwf g) {I : Nat → Nat → Int32} (hG : mG g I) {i j : Nat} (hi : i < gn g) (hj : j < gn g) : mG (swG g i j) (up2 (up2 I 106 i (I 106 j)) 106 j (I 106 i)) := by
  obtain ⟨a1, a2, a3, a4⟩ := hG
  have hne : ∀ q, q ≠ 106 → up2 (up2 I 106 i (I 106 j)) 106 j (I 106 i) q = I q := fun q h => by rw [up2_ne _ _ _ h, up2_ne _ _ _ h]
  refine ⟨?_, ?_, ?_, fun p hp => ?_⟩
  · rw [hne 100 (by decide)]; exact a1
  · rw [hne 100 (by decide)]; exact a2
  · rw [hne 100 (by decide)]; exact a3
  · obtain ⟨b1, b2, b3, b4, b5⟩ := a4 p hp
    refine ⟨?_, ?_, ?_, ?_, fun k hk => ?_⟩
    · rw [hne _ (by decide)]; exact b1
    · rw [hne _ (by decide)]; exact b2
    · show _ = nI (if p = j then gc g i else if p = i then gc g j else gc g p)
      rw [up2_at, up2_at]
      split
      · exact (a4 i hi).2.2.1
      · split
        · exact (a4 j hj).2.2.1
        · exact b3
    · rw [hne _ (by decide)]; exact b4
    · rw [hne _ (by decide)]; exact b5 k hk
theorem frA_sw {I : Nat → Nat → Int32} {i j : Nat} (hi : i < 6) (hj : j < 6) : frA I (up2 (up2 I 106 i (I 106 j)) 106 j (I 106 i)) := by
  have hne : ∀ q, q ≠ 106 → up2 (up2 I 106 i (I 106 j)) 106 j (I 106 i) q = I q := fun q h => by rw [up2_ne _ _ _ h, up2_ne _ _ _ h]
  refine ⟨fun q _ h _ _ _ => hne q h, fun k _ _ => by rw [hne 100 (by decide)], fun k hk => ⟨by rw [hne _ (by decide)], ?_⟩⟩
  rw [up2_at, up2_at, if_neg (by omega), if_neg (by omega)]
/-- the greatest number of holes of the first j cards -/
def mxN (g : Gv) : Nat → Nat
  | 0 => 0
  | j + 1 => if mxN g j < pcN (gh g j) 10 then pcN (gh g j) 10 else mxN g j
theorem mxN_le (g : Gv) : ∀ j, mxN g j ≤ 10
  | 0 => Nat.zero_le _
  | j + 1 => by
    have h1 := mxN_le g j
    have h2 := pcN_le (gh g j) 10
    show (if _ then _ else _) ≤ 10
    split <;> omega
def mhS (g : Gv) (r i j : Nat) : Nat := mxN (daysS r 20 (swG g i j)) (gn g)
theorem mHB_frA {w : Wk} {b : Nat} {I I1 : Nat → Nat → Int32} (hB : mHB w b I) (h2 : frA I I1) : mHB w b I1 := by
  obtain ⟨z1, z2, z3⟩ := h2
  refine mHB_eq hB (z2 9 (by decide) (by decide)) ?_ ?_ ?_ ?_ ?_ ?_ <;> exact z1 _ (by decide) (by decide) (by decide) (by decide) (by decide)
set_option maxHeartbeats 2000000 in
theorem c_M_mostHoles (E : zE) (K N : Nat → Nat) (Rf : Nat → Nat → Option Nat) (I : Nat → Nat → Int32) (L : Nat → Nat → Int64) {g : Gv} (hg : gwf g) (hG : mG g I) {w : Wk} {b : Nat} (hB : mHB w b I) (hd : gd g ≤ 90000) {i j : Nat} (hi : i < gn g) (hj : j < gn g) : zCt E mX12_mostHoles 5 0 0 (sg K N Rf I L) [.ref 100, .int (nI i), .int (nI j)] (fun r σ' => ∃ I', σ' = sg K N Rf I' L ∧ r = some (.int (nI (mhS g (rdS w) i j))) ∧ sE I I') := by
  have h6 := hg.1
  have hsv := sE_sv I
  have hgs := gwf_sw hg hi hj
  have hg2 := gwf_days hgs (rdS w) 20
  have hn2 : gn (daysS (rdS w) 20 (swG g i j)) = gn g := gn_days (rdS w) 20 (swG g i j)
  refine z_intro (by decide) (Nat.le_of_ble_eq_true rfl) (fun X hX => ?_)
  have hl : ∀ m c (I2 : Nat → Nat → Int32), c + m = gn g → mG (daysS (rdS w) 20 (swG g i j)) I2 → frA (svI I 6) I2 → zS X (sg K N Rf I2 L) 0 0 21 [(0, .ref 100), (3, .int (nI (mxN (daysS (rdS w) 20 (swG g i j)) c))), (4, .int (nI c))] [] := by
    intro m
    induction m with
    | zero =>
      intro c I2 hc h1 h2
      obtain rfl : c = gn g := by omega
      have e0 : I2 100 0 = nI (gn g) := by rw [h1.1, hn2]
      refine bk hX lkX12_ok (pc' := 27) [.iload 4, .aload_n 0, .getfield 7] (by decide +kernel) (And.intro trivial ?_)
      rw [e0]
      refine ic_ge hX (40) 67 (by decide +kernel) (by decide) (fun c_27 => ?_) (fun c => absurd (nI_le (by omega) (by omega)) c)
      refine bk hX lkX12_ok (pc' := 68) [.aload_n 0] (by decide +kernel) (And.intro trivial ?_)
      refine z_callV hX kw_X12_346 (c_M_putBack E K N Rf I2 L) rfl rfl rfl rfl rfl (by decide +kernel) (by decide) (by decide) (by decide) (by decide) (Nat.le_of_ble_eq_true rfl) ?_
      rintro _ _ ⟨rfl, rfl⟩
      refine bk hX lkX12_ok (pc' := 72) [.iload_n 3] (by decide +kernel) (And.intro trivial ?_)
      exact z_iret hX (by decide +kernel) rfl (rfl) (by decide) (by decide) (⟨_, rfl, rfl, ask_back h2⟩)
    | succ m ih =>
      intro c I2 hc h1 h2
      have e0 : I2 100 0 = nI (gn g) := by rw [h1.1, hn2]
      have hcn : c < gn (daysS (rdS w) 20 (swG g i j)) := by rw [hn2]; omega
      have hcl := (hg2.2.1 c hcn).2.2.2.1
      have hpc := pcN_le (gh (daysS (rdS w) 20 (swG g i j)) c) 10
      have hmx := mxN_le (daysS (rdS w) 20 (swG g i j)) c
      refine bk hX lkX12_ok (pc' := 27) [.iload 4, .aload_n 0, .getfield 7] (by decide +kernel) (And.intro trivial ?_)
      rw [e0]
      refine ic_ge hX (40) 67 (by decide +kernel) (by decide) (fun c => absurd c (nI_ge (by omega) (by omega))) (fun c_27 => ?_)
      refine bk hX lkX12_ok (pc' := 38) [.aload_n 0, .aload_n 0, .getfield 29, .iload 4, .iaload] (by decide +kernel) (And.intro (by exact vin 6 (by omega)) (And.intro trivial ?_))
      rw [cl (by omega), show I2 (101 + 6) c = _ from mG_gh h1 hcn]
      refine z_callV hX kw_X12_299 (c_M_bits E _ rfl hcl) rfl rfl rfl rfl rfl (by decide +kernel) (by decide) (by decide) (by decide) (by decide) (Nat.le_of_ble_eq_true rfl) ?_
      rintro _ _ ⟨rfl, rfl⟩
      refine bk hX lkX12_ok (pc' := 42) [.iload_n 3] (by decide +kernel) (And.intro trivial ?_)
      refine ic_le hX (17) 59 (by decide +kernel) (by decide) (fun cb => ?_) (fun cb => ?_)
      · refine bk hX lkX12_ok (pc' := 64) [.iload_n 3, .istore_n 3, .iinc 4 1] (by decide +kernel) (And.intro trivial ?_)
        refine gt_ hX (-43) 21 (by decide +kernel) (by decide) ?_
        refine z_lvk (lv' := [(0, _), (3, _), (4, _)]) [2, 1, 0] rfl ?_
        have hi2 := ih (c + 1) I2 (by omega) h1 h2
        rw [nI_add]
        rw [show mxN (daysS (rdS w) 20 (swG g i j)) (c + 1) = if mxN (daysS (rdS w) 20 (swG g i j)) c < pcN (gh (daysS (rdS w) 20 (swG g i j)) c) 10 then pcN (gh (daysS (rdS w) 20 (swG g i j)) c) 10 else mxN (daysS (rdS w) 20 (swG g i j)) c from rfl] at hi2
        first
          | (rw [if_neg (fun z => absurd (nI_lt z (by omega)) (i_nlt.mpr cb))] at hi2; exact hi2)
          | (rw [if_pos ((nI_ltI (by omega) (by omega)).mp (i_nle.mp cb))] at hi2; exact hi2)
      · refine bk hX lkX12_ok (pc' := 53) [.aload_n 0, .aload_n 0, .getfield 29, .iload 4, .iaload] (by decide +kernel) (And.intro (by exact vin 6 (by omega)) (And.intro trivial ?_))
        rw [cl (by omega), show I2 (101 + 6) c = _ from mG_gh h1 hcn]
        refine z_callV hX kw_X12_299 (c_M_bits E _ rfl hcl) rfl rfl rfl rfl rfl (by decide +kernel) (by decide) (by decide) (by decide) (by decide) (Nat.le_of_ble_eq_true rfl) ?_
        rintro _ _ ⟨rfl, rfl⟩
        refine gt_ hX (4) 60 (by decide +kernel) (by decide) ?_
        refine bk hX lkX12_ok (pc' := 64) [.istore_n 3, .iinc 4 1] (by decide +kernel) (And.intro trivial ?_)
        refine gt_ hX (-43) 21 (by decide +kernel) (by decide) ?_
        refine z_lvk (lv' := [(0, _), (3, _), (4, _)]) [2, 1, 0] rfl ?_
        have hi2 := ih (c + 1) I2 (by omega) h1 h2
        rw [nI_add]
        rw [show mxN (daysS (rdS w) 20 (swG g i j)) (c + 1) = if mxN (daysS (rdS w) 20 (swG g i j)) c < pcN (gh (daysS (rdS w) 20 (swG g i j)) c) 10 then pcN (gh (daysS (rdS w) 20 (swG g i j)) c) 10 else mxN (daysS (rdS w) 20 (swG g i j)) c from rfl] at hi2
        first
          | (rw [if_neg (fun z => absurd (nI_lt z (by omega)) (i_nlt.mpr cb))] at hi2; exact hi2)
          | (rw [if_pos ((nI_ltI (by omega) (by omega)).mp (i_nle.mp cb))] at hi2; exact hi2)
  refine bk hX lkX12_ok (pc' := 1) [.aload_n 0] (by decide +kernel) (And.intro trivial ?_)
  refine z_callV hX kw_X12_340 (c_M_save E K N Rf I L) rfl rfl rfl rfl rfl (by decide +kernel) (by decide) (by decide) (by decide) (by decide) (Nat.le_of_ble_eq_true rfl) ?_
  rintro _ _ ⟨rfl, rfl⟩
  refine bk hX lkX12_ok (pc' := 7) [.aload_n 0, .iload_n 1, .iload_n 2] (by decide +kernel) (And.intro trivial ?_)
  refine z_callV hX kw_X12_239 (c_M_swaps E K N Rf (svI I 6) L i j (by omega) (by omega)) rfl rfl rfl rfl rfl (by decide +kernel) (by decide) (by decide) (by decide) (by decide) (Nat.le_of_ble_eq_true rfl) ?_
  rintro _ _ ⟨rfl, rfl⟩
  refine bk hX lkX12_ok (pc' := 13) [.aload_n 0, .bipush 20] (by decide +kernel) (And.intro trivial ?_)
  refine z_callV hX kw_X12_337 (c_M_goDays E K N Rf _ L hgs (mG_sw hg (mG_sE hG hsv) hi hj) (mHB_frA (mHB_sE hB hsv) (frA_sw (by omega) (by omega))) (k := 20) (by show gd g + 20 ≤ _; omega) (by decide)) rfl rfl rfl rfl rfl (by decide +kernel) (by decide) (by decide) (by decide) (by decide) (Nat.le_of_ble_eq_true rfl) ?_
  rintro _ _ ⟨I2, rfl, rfl, h3, h4⟩
  refine bk hX lkX12_ok (pc' := 21) [.iconst 0, .istore_n 3, .iconst 0, .istore 4] (by decide +kernel) (And.intro trivial ?_)
  refine z_lvk (lv' := [(0, _), (3, _), (4, _)]) [2, 1, 0] rfl ?_
  exact hl (gn g) 0 I2 (by omega) h3 (frA_tr (frA_sw (by omega) (by omega)) (frA_D h6 h4))
/-- the trade: found, least -/
def trB (g : Gv) (r i : Nat) : Nat → Nat → Int32 × Nat → Int32 × Nat
  | 0, _, s => s
  | m + 1, j, s => trB g r i m (j + 1) (if mhS g r i j < s.2 then (nI (10 * i + j), mhS g r i j) else s)
def trA (g : Gv) (r : Nat) : Nat → Nat → Int32 × Nat → Int32 × Nat
  | 0, _, s => s
  | m + 1, i, s => trA g r m (i + 1) (trB g r i m (i + 1) s)
def trS (g : Gv) (r : Nat) : Int32 := if gn g = 0 then -nI 5 else (trA g r (gn g) 0 (-nI 5, mhS g r 0 0)).1
theorem mhS_le (g : Gv) (r i j : Nat) : mhS g r i j ≤ 10 := mxN_le _ _
theorem trB_s (g : Gv) (r i m j : Nat) (s : Int32 × Nat) : trB g r i (m + 1) j s = trB g r i m (j + 1) (if mhS g r i j < s.2 then (nI (10 * i + j), mhS g r i j) else s) := rfl
theorem trB_le (g : Gv) (r i : Nat) : ∀ m j s, s.2 ≤ 10 → (trB g r i m j s).2 ≤ 10
  | 0, _, _, h => h
  | m + 1, j, s, h => by
    rw [trB_s]
    refine trB_le g r i m (j + 1) _ ?_
    split
    · exact mhS_le g r i j
    · exact h
set_option maxHeartbeats 2000000 in
theorem c_M_tradeOf (E : zE) (K N : Nat → Nat) (Rf : Nat → Nat → Option Nat) (I : Nat → Nat → Int32) (L : Nat → Nat → Int64) {g : Gv} (hg : gwf g) (hG : mG g I) {w : Wk} {b : Nat} (hB : mHB w b I) (hd : gd g ≤ 90000) : zCt E mX12_tradeOf 6 0 0 (sg K N Rf I L) [.ref 100] (fun r σ' => ∃ I', σ' = sg K N Rf I' L ∧ r = some (.int (trS g (rdS w))) ∧ sE I I') := by
  have h6 := hg.1
  refine z_intro (by decide) (Nat.le_of_ble_eq_true rfl) (fun X hX => ?_)
  have hl2 : ∀ (i : Nat), i < gn g → ∀ m j (s : Int32 × Nat) (I1 : Nat → Nat → Int32), j + m = gn g → s.2 ≤ 10 → sE I I1 → (∀ (I2 : Nat → Nat → Int32), sE I I2 → zS X (sg K N Rf I2 L) 0 0 79 [(0, .ref 100), (1, .int (trB g (rdS w) i m j s).1), (2, .int (nI (trB g (rdS w) i m j s).2)), (3, .int (nI i))] []) → zS X (sg K N Rf I1 L) 0 0 35 [(0, .ref 100), (1, .int s.1), (2, .int (nI s.2)), (3, .int (nI i)), (4, .int (nI j))] [] := by
    intro i hi m
    induction m with
    | zero =>
      intro j s I1 hj hs h1 hk
      obtain rfl : j = gn g := by omega
      have e0 : I1 100 0 = nI (gn g) := (mG_sE hG h1).1
      refine bk hX lkX12_ok (pc' := 41) [.iload 4, .aload_n 0, .getfield 7] (by decide +kernel) (And.intro trivial ?_)
      rw [e0]
      refine ic_ge hX (38) 79 (by decide +kernel) (by decide) (fun c_41 => ?_) (fun c => absurd (nI_le (by omega) (by omega)) c)
      refine z_lvk (lv' := [(0, _), (1, _), (2, _), (3, _)]) [0, 1, 2, 3] rfl ?_
      exact hk I1 h1
    | succ m ih =>
      intro j s I1 hj hs h1 hk
      have e0 : I1 100 0 = nI (gn g) := (mG_sE hG h1).1
      have hml := mhS_le g (rdS w) i j
      refine bk hX lkX12_ok (pc' := 41) [.iload 4, .aload_n 0, .getfield 7] (by decide +kernel) (And.intro trivial ?_)
      rw [e0]
      refine ic_ge hX (38) 79 (by decide +kernel) (by decide) (fun c => absurd c (nI_ge (by omega) (by omega))) (fun c_41 => ?_)
      refine bk hX lkX12_ok (pc' := 48) [.aload_n 0, .iload_n 3, .iload 4] (by decide +kernel) (And.intro trivial ?_)
      refine z_callV hX kw_X12_349 (c_M_mostHoles E K N Rf I1 L hg (mG_sE hG h1) (mHB_sE hB h1) hd hi (j := j) (by omega)) rfl rfl rfl rfl rfl (by decide +kernel) (by decide) (by decide) (by decide) (by decide) (Nat.le_of_ble_eq_true rfl) ?_
      rintro _ _ ⟨I2, rfl, rfl, h3⟩
      refine bk hX lkX12_ok (pc' := 56) [.istore 5, .iload 5, .iload_n 2] (by decide +kernel) (And.intro trivial ?_)
      refine ic_lt hX (6) 62 (by decide +kernel) (by decide) (fun cb => ?_) (fun cb => ?_)
      · refine bk hX lkX12_ok (pc' := 76) [.bipush 10, .iload_n 3, .imul, .iload 4, .iadd, .istore_n 1, .iload 5, .istore_n 2, .iinc 4 1] (by decide +kernel) (And.intro trivial ?_)
        refine gt_ hX (-41) 35 (by decide +kernel) (by decide) ?_
        refine z_lvk (lv' := [(0, _), (1, _), (2, _), (3, _), (4, _)]) [4, 2, 1, 5, 0] rfl ?_
        rw [trB_s] at hk
        first
          | (rw [if_pos ((nI_ltI (by omega) (by omega)).mp cb)] at hk
             rw [pk_mul, nI_add, nI_add]
             exact ih (j + 1) (nI (10 * i + j), mhS g (rdS w) i j) I2 (by omega) hml (sE_tr h1 h3) hk)
          | (rw [if_neg (fun z => cb (nI_lt z (by omega)))] at hk
             rw [nI_add]
             exact ih (j + 1) s I2 (by omega) hs (sE_tr h1 h3) hk)
      · refine gt_ hX (14) 73 (by decide +kernel) (by decide) ?_
        refine bk hX lkX12_ok (pc' := 76) [.iinc 4 1] (by decide +kernel) (And.intro trivial ?_)
        refine gt_ hX (-41) 35 (by decide +kernel) (by decide) ?_
        refine z_lvk (lv' := [(0, _), (1, _), (2, _), (3, _), (4, _)]) [2, 3, 4, 5, 0] rfl ?_
        rw [trB_s] at hk
        first
          | (rw [if_pos ((nI_ltI (by omega) (by omega)).mp cb)] at hk
             rw [pk_mul, nI_add, nI_add]
             exact ih (j + 1) (nI (10 * i + j), mhS g (rdS w) i j) I2 (by omega) hml (sE_tr h1 h3) hk)
          | (rw [if_neg (fun z => cb (nI_lt z (by omega)))] at hk
             rw [nI_add]
             exact ih (j + 1) s I2 (by omega) hs (sE_tr h1 h3) hk)
  have hl : ∀ m i (s : Int32 × Nat) (I1 : Nat → Nat → Int32), i + m = gn g → s.2 ≤ 10 → sE I I1 → (trA g (rdS w) m i s).1 = trS g (rdS w) → zS X (sg K N Rf I1 L) 0 0 22 [(0, .ref 100), (1, .int s.1), (2, .int (nI s.2)), (3, .int (nI i))] [] := by
    intro m
    induction m with
    | zero =>
      intro i s I1 hj hs h1 hf
      obtain rfl : i = gn g := by omega
      have e0 : I1 100 0 = nI (gn g) := (mG_sE hG h1).1
      refine bk hX lkX12_ok (pc' := 27) [.iload_n 3, .aload_n 0, .getfield 7] (by decide +kernel) (And.intro trivial ?_)
      rw [e0]
      refine ic_ge hX (58) 85 (by decide +kernel) (by decide) (fun c_27 => ?_) (fun c => absurd (nI_le (by omega) (by omega)) c)
      refine bk hX lkX12_ok (pc' := 86) [.iload_n 1] (by decide +kernel) (And.intro trivial ?_)
      exact z_iret hX (by decide +kernel) rfl (rfl) (by decide) (by decide) (⟨I1, rfl, by rw [← hf]; rfl, h1⟩)
    | succ m ih =>
      intro i s I1 hj hs h1 hf
      have e0 : I1 100 0 = nI (gn g) := (mG_sE hG h1).1
      refine bk hX lkX12_ok (pc' := 27) [.iload_n 3, .aload_n 0, .getfield 7] (by decide +kernel) (And.intro trivial ?_)
      rw [e0]
      refine ic_ge hX (58) 85 (by decide +kernel) (by decide) (fun c => absurd c (nI_ge (by omega) (by omega))) (fun c_27 => ?_)
      refine bk hX lkX12_ok (pc' := 35) [.iload_n 3, .iconst 1, .iadd, .istore 4] (by decide +kernel) (And.intro trivial ?_)
      refine z_lvk (lv' := [(0, _), (1, _), (2, _), (3, _), (4, _)]) [1, 2, 3, 4, 0] rfl ?_
      rw [nI_add]
      refine hl2 i (by omega) m (i + 1) s I1 (by omega) hs h1 (fun I2 h2 => ?_)
      refine bk hX lkX12_ok (pc' := 82) [.iinc 3 1] (by decide +kernel) (And.intro trivial ?_)
      refine gt_ hX (-60) 22 (by decide +kernel) (by decide) ?_
      refine z_lvk (lv' := [(0, _), (1, _), (2, _), (3, _)]) [1, 2, 3, 0] rfl ?_
      rw [nI_add]
      exact ih (i + 1) _ I2 (by omega) (trB_le g (rdS w) i m (i + 1) s hs) h2 hf
  refine bk hX lkX12_ok (pc' := 4) [.aload_n 0, .getfield 7] (by decide +kernel) (And.intro trivial ?_)
  rw [hG.1]
  refine if_ne hX (6) 10 (by decide +kernel) (by decide) (fun c0 => ?_) (fun c0 => ?_)
  · have hn0 : ¬ gn g = 0 := fun z => c0 (by rw [z]; rfl)
    refine bk hX lkX12_ok (pc' := 16) [.bipush (Int.negSucc 4), .istore_n 1, .aload_n 0, .iconst 0, .iconst 0] (by decide +kernel) (And.intro trivial ?_)
    refine z_callV hX kw_X12_349 (c_M_mostHoles E K N Rf I L hg hG hB hd (i := 0) (j := 0) (by omega) (by omega)) rfl rfl rfl rfl rfl (by decide +kernel) (by decide) (by decide) (by decide) (by decide) (Nat.le_of_ble_eq_true rfl) ?_
    rintro _ _ ⟨I2, rfl, rfl, h3⟩
    refine bk hX lkX12_ok (pc' := 22) [.istore_n 2, .iconst 0, .istore_n 3] (by decide +kernel) (And.intro trivial ?_)
    refine z_lvk (lv' := [(0, _), (1, _), (2, _), (3, _)]) [3, 2, 1, 0] rfl ?_
    exact hl (gn g) 0 (-nI 5, mhS g (rdS w) 0 0) I2 (by omega) (mhS_le _ _ _ _) h3 (by unfold trS; rw [if_neg hn0])
  · refine bk hX lkX12_ok (pc' := 9) [.bipush (Int.negSucc 4)] (by decide +kernel) (And.intro trivial ?_)
    exact z_iret hX (by decide +kernel) rfl (rfl) (by decide) (by decide) (⟨I, rfl, by unfold trS; rw [if_pos (nI_inj (b := 0) (by omega) (by decide) c0)], sE_rf _⟩)
theorem sw7 (x : Int32) : x = nI 0 ∨ x = nI 1 ∨ x = nI 2 ∨ x = nI 3 ∨ x = nI 4 ∨ x = nI 5 ∨ x = nI 6 ∨ ¬ isIn x 7 = true := by
  by_cases h7 : isIn x 7 = true
  · obtain ⟨k, hk, rfl⟩ := (isIn_iff (by decide)).mp h7
    have hk7 : k = 0 ∨ k = 1 ∨ k = 2 ∨ k = 3 ∨ k = 4 ∨ k = 5 ∨ k = 6 := by omega
    rcases hk7 with rfl | rfl | rfl | rfl | rfl | rfl | rfl <;> simp
  · exact Or.inr (Or.inr (Or.inr (Or.inr (Or.inr (Or.inr (Or.inr h7))))))
theorem sw_out {x : Int32} {n : Nat} {hi : Int} (h : ¬ isIn x n = true) (e : hi + 1 = (n : Int)) : x.toInt < 0 ∨ hi < x.toInt := by
  unfold isIn at h
  rw [decide_eq_true_iff] at h
  omega
def toldS (g : Gv) (w : Wk) (x : Int32) : Int32 := if isIn (x - nI 10) (gn g) = true then nI (gh g (jx (x - nI 10))) else if isIn x 7 = true then (if jx x = 0 then nI (gd g) else if jx x = 1 then nI (rdS w) else if jx x = 2 then nI (ahN g (gn g)) else if jx x = 3 then atN g w (gn g) else if jx x = 4 then nI (swL (gc g) (gn g) 0 0 0) else if jx x = 5 then fsL (gc g) (gn g) 0 else trS g (rdS w)) else -nI 1001
theorem toldS_k {g : Gv} {w : Wk} {k : Nat} (hk : k < 7) (h10 : ¬ isIn (nI k - nI 10) (gn g) = true) : toldS g w (nI k) = (if k = 0 then nI (gd g) else if k = 1 then nI (rdS w) else if k = 2 then nI (ahN g (gn g)) else if k = 3 then atN g w (gn g) else if k = 4 then nI (swL (gc g) (gn g) 0 0 0) else if k = 5 then fsL (gc g) (gn g) 0 else trS g (rdS w)) := by
  unfold toldS
  rw [if_neg h10, if_pos (isIn_nI hk (by decide)), jx_nI (by omega)]
theorem c_M_told (E : zE) (K N : Nat → Nat) (Rf : Nat → Nat → Option Nat) (I : Nat → Nat → Int32) (L : Nat → Nat → Int64) {g : Gv} (hg : gwf g) (hG : mG g I) {w : Wk} {b : Nat} (hB : mHB w b I) (hd : gd g ≤ 90000) (x : Int32) : zCt E mX12_told 7 0 0 (sg K N Rf I L) [.ref 100, .int x] (fun r σ' => ∃ I', σ' = sg K N Rf I' L ∧ r = some (.int (toldS g w x)) ∧ sE I I') := by
  have h6 := hg.1
  have hd2 : gd g < 1000000 := by omega
  refine z_intro (by decide) (Nat.le_of_ble_eq_true rfl) (fun X hX => ?_)
  refine bk hX lkX12_ok (pc' := 11) [.aload_n 0, .iload_n 1, .bipush 10, .bipush 9, .aload_n 0, .getfield 7, .iadd] (by decide +kernel) (And.intro trivial ?_)
  refine z_callV hX kw_X12_228 (c_M_in E _ _ _ _ _) rfl rfl rfl rfl rfl (by decide +kernel) (by decide) (by decide) (by decide) (by decide) (Nat.le_of_ble_eq_true rfl) ?_
  rintro _ _ ⟨rfl, hh⟩
  rw [hG.1, show (nI 9 : Int32) = nI (10 - 1) from rfl, in10 10 (by omega) h6] at hh
  rcases hh with ⟨h10, rfl⟩ | ⟨h10, rfl⟩
  · refine if_eq hX (13) 27 (by decide +kernel) (by decide) (fun c => absurd c (by decide)) (fun c_14 => ?_)
    obtain ⟨-, -, e10, l10⟩ := d10_20 h6 h10
    refine bk hX lkX12_ok (pc' := 26) [.aload_n 0, .getfield 29, .iload_n 1, .bipush 10, .isub, .iaload] (by decide +kernel) (And.intro (by rw [e10]; exact vin 6 (by omega)) (And.intro trivial ?_))
    exact z_iret hX (by decide +kernel) rfl (rfl) (by decide) (by decide) (⟨I, rfl, by rw [e10, cl (by omega), show I (101 + 6) (jx (x - nI 10)) = _ from mG_gh hG l10]; unfold toldS; rw [if_pos h10], sE_rf _⟩)
  · refine if_eq hX (13) 27 (by decide +kernel) (by decide) (fun c_14 => ?_) (fun c => absurd (by decide) c)
    refine bk hX lkX12_ok (pc' := 28) [.iload_n 1] (by decide +kernel) (And.intro trivial ?_)
    rcases sw7 x with rfl | rfl | rfl | rfl | rfl | rfl | rfl | h7
    · have ht := toldS_k (w := w) (k := 0) (by decide) h10
      refine z_tsw hX 72 (dflt := 79) (lo := 0) (hi := 6) (offs := #[44, 49, 54, 59, 64, 69, 74]) (len := 44) (off := 44) (by decide +kernel) (by decide) (by decide) ?_
      refine bk hX lkX12_ok (pc' := 76) [.aload_n 0, .getfield 16] (by decide +kernel) (And.intro trivial ?_)
      exact z_iret hX (by decide +kernel) rfl (rfl) (by decide) (by decide) (⟨I, rfl, by rw [ht, hG.2.2.1]; rfl, sE_rf _⟩)
    · have ht := toldS_k (w := w) (k := 1) (by decide) h10
      refine z_tsw hX 77 (dflt := 79) (lo := 0) (hi := 6) (offs := #[44, 49, 54, 59, 64, 69, 74]) (len := 44) (off := 49) (by decide +kernel) (by decide) (by decide) ?_
      refine bk hX lkX12_ok (pc' := 78) [.aload_n 0] (by decide +kernel) (And.intro trivial ?_)
      refine z_callV hX kw_X12_328 (c_M_round E K N Rf I L hB) rfl rfl rfl rfl rfl (by decide +kernel) (by decide) (by decide) (by decide) (by decide) (Nat.le_of_ble_eq_true rfl) ?_
      rintro _ _ ⟨rfl, rfl⟩
      exact z_iret hX (by decide +kernel) rfl (rfl) (by decide) (by decide) (⟨I, rfl, by rw [ht]; rfl, sE_rf _⟩)
    · have ht := toldS_k (w := w) (k := 2) (by decide) h10
      refine z_tsw hX 82 (dflt := 79) (lo := 0) (hi := 6) (offs := #[44, 49, 54, 59, 64, 69, 74]) (len := 44) (off := 54) (by decide +kernel) (by decide) (by decide) ?_
      refine bk hX lkX12_ok (pc' := 83) [.aload_n 0] (by decide +kernel) (And.intro trivial ?_)
      refine z_callV hX kw_X12_343 (c_M_allHoles E K N Rf I L hg hG) rfl rfl rfl rfl rfl (by decide +kernel) (by decide) (by decide) (by decide) (by decide) (Nat.le_of_ble_eq_true rfl) ?_
      rintro _ _ ⟨rfl, rfl⟩
      exact z_iret hX (by decide +kernel) rfl (rfl) (by decide) (by decide) (⟨I, rfl, by rw [ht]; rfl, sE_rf _⟩)
    · have ht := toldS_k (w := w) (k := 3) (by decide) h10
      refine z_tsw hX 87 (dflt := 79) (lo := 0) (hi := 6) (offs := #[44, 49, 54, 59, 64, 69, 74]) (len := 44) (off := 59) (by decide +kernel) (by decide) (by decide) ?_
      refine bk hX lkX12_ok (pc' := 88) [.aload_n 0] (by decide +kernel) (And.intro trivial ?_)
      refine z_callV hX kw_X12_352 (c_M_allTemper E K N Rf I L hg hG hd2 hB) rfl rfl rfl rfl rfl (by decide +kernel) (by decide) (by decide) (by decide) (by decide) (Nat.le_of_ble_eq_true rfl) ?_
      rintro _ _ ⟨I2, rfl, q3, rfl⟩
      exact z_iret hX (by decide +kernel) rfl (rfl) (by decide) (by decide) (⟨I2, rfl, by rw [ht]; rfl, sE_pile q3⟩)
    · have ht := toldS_k (w := w) (k := 4) (by decide) h10
      refine z_tsw hX 92 (dflt := 79) (lo := 0) (hi := 6) (offs := #[44, 49, 54, 59, 64, 69, 74]) (len := 44) (off := 64) (by decide +kernel) (by decide) (by decide) ?_
      refine bk hX lkX12_ok (pc' := 93) [.aload_n 0] (by decide +kernel) (And.intro trivial ?_)
      refine z_callV hX kw_X12_355 (c_M_swapsOf E K N Rf I L hg hG) rfl rfl rfl rfl rfl (by decide +kernel) (by decide) (by decide) (by decide) (by decide) (Nat.le_of_ble_eq_true rfl) ?_
      rintro _ _ ⟨rfl, rfl⟩
      exact z_iret hX (by decide +kernel) rfl (rfl) (by decide) (by decide) (⟨I, rfl, by rw [ht]; rfl, sE_rf _⟩)
    · have ht := toldS_k (w := w) (k := 5) (by decide) h10
      refine z_tsw hX 97 (dflt := 79) (lo := 0) (hi := 6) (offs := #[44, 49, 54, 59, 64, 69, 74]) (len := 44) (off := 69) (by decide +kernel) (by decide) (by decide) ?_
      refine bk hX lkX12_ok (pc' := 98) [.aload_n 0] (by decide +kernel) (And.intro trivial ?_)
      refine z_callV hX kw_X12_358 (c_M_firstSwap E K N Rf I L hg hG) rfl rfl rfl rfl rfl (by decide +kernel) (by decide) (by decide) (by decide) (by decide) (Nat.le_of_ble_eq_true rfl) ?_
      rintro _ _ ⟨rfl, rfl⟩
      exact z_iret hX (by decide +kernel) rfl (rfl) (by decide) (by decide) (⟨I, rfl, by rw [ht]; rfl, sE_rf _⟩)
    · have ht := toldS_k (w := w) (k := 6) (by decide) h10
      refine z_tsw hX 102 (dflt := 79) (lo := 0) (hi := 6) (offs := #[44, 49, 54, 59, 64, 69, 74]) (len := 44) (off := 74) (by decide +kernel) (by decide) (by decide) ?_
      refine bk hX lkX12_ok (pc' := 103) [.aload_n 0] (by decide +kernel) (And.intro trivial ?_)
      refine z_callV hX kw_X12_361 (c_M_tradeOf E K N Rf I L hg hG hB hd) rfl rfl rfl rfl rfl (by decide +kernel) (by decide) (by decide) (by decide) (by decide) (Nat.le_of_ble_eq_true rfl) ?_
      rintro _ _ ⟨I2, rfl, rfl, h3⟩
      exact z_iret hX (by decide +kernel) rfl (rfl) (by decide) (by decide) (⟨I2, rfl, by rw [ht]; rfl, h3⟩)
    · refine z_tsw hX 107 (dflt := 79) (lo := 0) (hi := 6) (offs := #[44, 49, 54, 59, 64, 69, 74]) (len := 44) (off := 79) (by decide +kernel) (Or.inl ⟨sw_out h7 (by decide), rfl⟩) (by decide) ?_
      refine bk hX lkX12_ok (pc' := 110) [.sipush (Int.negSucc 1000)] (by decide +kernel) (And.intro trivial ?_)
      exact z_iret hX (by decide +kernel) rfl (rfl) (by decide) (by decide) (⟨I, rfl, by unfold toldS; rw [if_neg h10, if_neg h7], sE_rf _⟩)
def ofS (g : Gv) (w : Wk) (x what : Int32) : Int32 := if isIn x (gn g) = true then (if isIn (what - nI 10) (gn g) = true then tmS g w (jx x) (jx (what - nI 10)) else if isIn what 7 = true then (if jx what = 0 then nI (gk g (jx x)) else if jx what = 1 then nI (gv g (jx x)) else if jx what = 2 then b2i (atB (ga g) (jx x)) else if jx what = 3 then nI (gc g (jx x)) else if jx what = 4 then nI (rg (gc g) (jx x)) else if jx what = 5 then tmS g w (jx x) (gc g (jx x)) else nI (pn (gk g (jx x)) (gv g (jx x)) (gd g) (gh g (gc g (jx x))) (gr g (4 * jx x + gd g % 4)))) else -nI 1001) else -nI 1001
theorem ofS_k {g : Gv} {w : Wk} {p k : Nat} (hp : p < gn g) (h6 : gn g ≤ 6) (hk : k < 7) (h10 : ¬ isIn (nI k - nI 10) (gn g) = true) : ofS g w (nI p) (nI k) = (if k = 0 then nI (gk g p) else if k = 1 then nI (gv g p) else if k = 2 then b2i (atB (ga g) p) else if k = 3 then nI (gc g p) else if k = 4 then nI (rg (gc g) p) else if k = 5 then tmS g w p (gc g p) else nI (pn (gk g p) (gv g p) (gd g) (gh g (gc g p)) (gr g (4 * p + gd g % 4)))) := by
  unfold ofS
  rw [if_pos (isIn_nI hp (by omega)), if_neg h10, if_pos (isIn_nI hk (by decide)), jx_nI (by omega), jx_nI (by omega)]
theorem c_M_of (E : zE) (K N : Nat → Nat) (Rf : Nat → Nat → Option Nat) (I : Nat → Nat → Int32) (L : Nat → Nat → Int64) {g : Gv} (hg : gwf g) (hG : mG g I) {w : Wk} {b : Nat} (hB : mHB w b I) (hd : gd g ≤ 90000) (x what : Int32) : zCt E mX12_of 6 0 0 (sg K N Rf I L) [.ref 100, .int x, .int what] (fun r σ' => ∃ I', σ' = sg K N Rf I' L ∧ r = some (.int (ofS g w x what)) ∧ sE I I') := by
  have h6 := hg.1
  have hd2 : gd g < 1000000 := by omega
  refine z_intro (by decide) (Nat.le_of_ble_eq_true rfl) (fun X hX => ?_)
  refine bk hX lkX12_ok (pc' := 2) [.aload_n 0, .iload_n 1] (by decide +kernel) (And.intro trivial ?_)
  refine z_callV hX kw_X12_232 (c_M_isWorker E K N Rf I L _ hg.1 hG.1) rfl rfl rfl rfl rfl (by decide +kernel) (by decide) (by decide) (by decide) (by decide) (Nat.le_of_ble_eq_true rfl) ?_
  rintro _ _ ⟨rfl, hh⟩
  rw [← isIn_iff (by omega)] at hh
  rcases hh with ⟨hx, rfl⟩ | ⟨hx, rfl⟩
  · refine if_ne hX (7) 12 (by decide +kernel) (by decide) (fun c_5 => ?_) (fun c => absurd c (by decide))
    obtain ⟨p, hp, rfl⟩ := (isIn_iff (by omega)).mp hx
    have hjp : jx (nI p) = p := jx_nI (by omega)
    have hcp := (hg.2.1 p hp).2.2.1
    have cp : (nI p).toNatClampNeg = p := cl (by omega)
    have cc : (nI (gc g p)).toNatClampNeg = gc g p := cl (by omega)
    refine bk hX lkX12_ok (pc' := 23) [.aload_n 0, .iload_n 2, .bipush 10, .bipush 9, .aload_n 0, .getfield 7, .iadd] (by decide +kernel) (And.intro trivial ?_)
    refine z_callV hX kw_X12_228 (c_M_in E _ _ _ _ _) rfl rfl rfl rfl rfl (by decide +kernel) (by decide) (by decide) (by decide) (by decide) (Nat.le_of_ble_eq_true rfl) ?_
    rintro _ _ ⟨rfl, hh⟩
    rw [hG.1, show (nI 9 : Int32) = nI (10 - 1) from rfl, in10 10 (by omega) h6] at hh
    rcases hh with ⟨h10, rfl⟩ | ⟨h10, rfl⟩
    · refine if_eq hX (13) 39 (by decide +kernel) (by decide) (fun c => absurd c (by decide)) (fun c_26 => ?_)
      refine bk hX lkX12_ok (pc' := 35) [.aload_n 0, .iload_n 1, .iload_n 2, .bipush 10, .isub] (by decide +kernel) (And.intro trivial ?_)
      obtain ⟨-, -, e10, l10⟩ := d10_20 h6 h10
      rw [e10]
      refine z_callV hX kw_X12_313 (c_M_temper E K N Rf I L hg hG hd2 hB hp l10) rfl rfl rfl rfl rfl (by decide +kernel) (by decide) (by decide) (by decide) (by decide) (Nat.le_of_ble_eq_true rfl) ?_
      rintro _ _ ⟨I2, rfl, q3, rfl⟩
      exact z_iret hX (by decide +kernel) rfl (rfl) (by decide) (by decide) (⟨I2, rfl, by unfold ofS; rw [if_pos hx, if_pos h10, hjp], sE_pile q3⟩)
    · refine if_eq hX (13) 39 (by decide +kernel) (by decide) (fun c_26 => ?_) (fun c => absurd (by decide) c)
      refine bk hX lkX12_ok (pc' := 40) [.iload_n 2] (by decide +kernel) (And.intro trivial ?_)
      rcases sw7 what with rfl | rfl | rfl | rfl | rfl | rfl | rfl | h7
      · have ht := ofS_k (w := w) (k := 0) hp h6 (by decide) h10
        refine z_tsw hX 84 (dflt := 118) (lo := 0) (hi := 6) (offs := #[44, 51, 58, 76, 83, 89, 101]) (len := 44) (off := 44) (by decide +kernel) (by decide) (by decide) ?_
        refine bk hX lkX12_ok (pc' := 90) [.aload_n 0, .getfield 19, .iload_n 1, .iaload] (by decide +kernel) (And.intro (by exact vin 6 (by omega)) (And.intro trivial ?_))
        exact z_iret hX (by decide +kernel) rfl (rfl) (by decide) (by decide) (⟨I, rfl, by rw [ht, cp, show I (101 + 3) p = _ from (hG.2.2.2 p hp).1]; rfl, sE_rf _⟩)
      · have ht := ofS_k (w := w) (k := 1) hp h6 (by decide) h10
        refine z_tsw hX 91 (dflt := 118) (lo := 0) (hi := 6) (offs := #[44, 51, 58, 76, 83, 89, 101]) (len := 44) (off := 51) (by decide +kernel) (by decide) (by decide) ?_
        refine bk hX lkX12_ok (pc' := 97) [.aload_n 0, .getfield 23, .iload_n 1, .iaload] (by decide +kernel) (And.intro (by exact vin 6 (by omega)) (And.intro trivial ?_))
        exact z_iret hX (by decide +kernel) rfl (rfl) (by decide) (by decide) (⟨I, rfl, by rw [ht, cp, show I (101 + 4) p = _ from (hG.2.2.2 p hp).2.1]; rfl, sE_rf _⟩)
      · have ht := ofS_k (w := w) (k := 2) hp h6 (by decide) h10
        refine z_tsw hX 98 (dflt := 118) (lo := 0) (hi := 6) (offs := #[44, 51, 58, 76, 83, 89, 101]) (len := 44) (off := 58) (by decide +kernel) (by decide) (by decide) ?_
        refine bk hX lkX12_ok (pc' := 104) [.aload_n 0, .aload_n 0, .getfield 13, .iload_n 1] (by decide +kernel) (And.intro trivial ?_)
        refine z_callV hX kw_X12_224 (c_M_has E _ _ _ _) rfl rfl rfl rfl rfl (by decide +kernel) (by decide) (by decide) (by decide) (by decide) (Nat.le_of_ble_eq_true rfl) ?_
        rintro _ _ ⟨rfl, hh⟩
        rw [hG.2.1] at hh
        rcases hh with ⟨hb, rfl⟩ | ⟨hb, rfl⟩
        · refine if_eq hX (7) 114 (by decide +kernel) (by decide) (fun c => absurd c (by decide)) (fun c_107 => ?_)
          refine bk hX lkX12_ok (pc' := 111) [.iconst 1] (by decide +kernel) (And.intro trivial ?_)
          refine gt_ hX (4) 115 (by decide +kernel) (by decide) ?_
          exact z_iret hX (by decide +kernel) rfl (rfl) (by decide) (by decide) (⟨I, rfl, by rw [ht]; first | (rw [show atB (ga g) p = true from atB_t hb]; rfl) | (rw [show atB (ga g) p = false from Bool.eq_false_iff.mpr (atB_f hb)]; rfl), sE_rf _⟩)
        · refine if_eq hX (7) 114 (by decide +kernel) (by decide) (fun c_107 => ?_) (fun c => absurd (by decide) c)
          refine bk hX lkX12_ok (pc' := 115) [.iconst 0] (by decide +kernel) (And.intro trivial ?_)
          exact z_iret hX (by decide +kernel) rfl (rfl) (by decide) (by decide) (⟨I, rfl, by rw [ht]; first | (rw [show atB (ga g) p = true from atB_t hb]; rfl) | (rw [show atB (ga g) p = false from Bool.eq_false_iff.mpr (atB_f hb)]; rfl), sE_rf _⟩)
      · have ht := ofS_k (w := w) (k := 3) hp h6 (by decide) h10
        refine z_tsw hX 116 (dflt := 118) (lo := 0) (hi := 6) (offs := #[44, 51, 58, 76, 83, 89, 101]) (len := 44) (off := 76) (by decide +kernel) (by decide) (by decide) ?_
        refine bk hX lkX12_ok (pc' := 122) [.aload_n 0, .getfield 26, .iload_n 1, .iaload] (by decide +kernel) (And.intro (by exact vin 6 (by omega)) (And.intro trivial ?_))
        exact z_iret hX (by decide +kernel) rfl (rfl) (by decide) (by decide) (⟨I, rfl, by rw [ht, cp, show I (101 + 5) p = _ from (hG.2.2.2 p hp).2.2.1]; rfl, sE_rf _⟩)
      · have ht := ofS_k (w := w) (k := 4) hp h6 (by decide) h10
        refine z_tsw hX 123 (dflt := 118) (lo := 0) (hi := 6) (offs := #[44, 51, 58, 76, 83, 89, 101]) (len := 44) (off := 83) (by decide +kernel) (by decide) (by decide) ?_
        refine bk hX lkX12_ok (pc' := 125) [.aload_n 0, .iload_n 1] (by decide +kernel) (And.intro trivial ?_)
        refine z_callV hX kw_X12_319 (c_M_ring E K N Rf I L hg hG hp) rfl rfl rfl rfl rfl (by decide +kernel) (by decide) (by decide) (by decide) (by decide) (Nat.le_of_ble_eq_true rfl) ?_
        rintro _ _ ⟨rfl, rfl⟩
        exact z_iret hX (by decide +kernel) rfl (rfl) (by decide) (by decide) (⟨I, rfl, by rw [ht]; rfl, sE_rf _⟩)
      · have ht := ofS_k (w := w) (k := 5) hp h6 (by decide) h10
        refine z_tsw hX 129 (dflt := 118) (lo := 0) (hi := 6) (offs := #[44, 51, 58, 76, 83, 89, 101]) (len := 44) (off := 89) (by decide +kernel) (by decide) (by decide) ?_
        refine bk hX lkX12_ok (pc' := 137) [.aload_n 0, .iload_n 1, .aload_n 0, .getfield 26, .iload_n 1, .iaload] (by decide +kernel) (And.intro (by exact vin 6 (by omega)) (And.intro trivial ?_))
        rw [cp, show I (101 + 5) p = _ from (hG.2.2.2 p hp).2.2.1]
        refine z_callV hX kw_X12_313 (c_M_temper E K N Rf I L hg hG hd2 hB hp hcp) rfl rfl rfl rfl rfl (by decide +kernel) (by decide) (by decide) (by decide) (by decide) (Nat.le_of_ble_eq_true rfl) ?_
        rintro _ _ ⟨I2, rfl, q3, rfl⟩
        exact z_iret hX (by decide +kernel) rfl (rfl) (by decide) (by decide) (⟨I2, rfl, by rw [ht]; rfl, sE_pile q3⟩)
      · have ht := ofS_k (w := w) (k := 6) hp h6 (by decide) h10
        refine z_tsw hX 141 (dflt := 118) (lo := 0) (hi := 6) (offs := #[44, 51, 58, 76, 83, 89, 101]) (len := 44) (off := 101) (by decide +kernel) (by decide) (by decide) ?_
        refine bk hX lkX12_ok (pc' := 154) [.aload_n 0, .iload_n 1, .aload_n 0, .getfield 29, .aload_n 0, .getfield 26, .iload_n 1, .iaload, .iaload] (by decide +kernel) (And.intro (by exact vin 6 (by omega)) (And.intro (by rw [cp, show I (101 + 5) p = _ from (hG.2.2.2 p hp).2.2.1]; exact vin 6 (by omega)) (And.intro trivial ?_)))
        rw [cp, show I (101 + 5) p = _ from (hG.2.2.2 p hp).2.2.1, cc, show I (101 + 6) (gc g p) = _ from mG_gh hG hcp]
        refine z_callV hX kw_X12_325 (c_M_punches E K N Rf I L hg hG hd2 p hp (hg.2.1 _ hcp).2.2.2.1) rfl rfl rfl rfl rfl (by decide +kernel) (by decide) (by decide) (by decide) (by decide) (Nat.le_of_ble_eq_true rfl) ?_
        rintro _ _ ⟨rfl, rfl⟩
        exact z_iret hX (by decide +kernel) rfl (rfl) (by decide) (by decide) (⟨I, rfl, by rw [ht]; rfl, sE_rf _⟩)
      · refine z_tsw hX 158 (dflt := 118) (lo := 0) (hi := 6) (offs := #[44, 51, 58, 76, 83, 89, 101]) (len := 44) (off := 118) (by decide +kernel) (Or.inl ⟨sw_out h7 (by decide), rfl⟩) (by decide) ?_
        refine bk hX lkX12_ok (pc' := 161) [.sipush (Int.negSucc 1000)] (by decide +kernel) (And.intro trivial ?_)
        exact z_iret hX (by decide +kernel) rfl (rfl) (by decide) (by decide) (⟨I, rfl, by unfold ofS; rw [if_pos hx, if_neg h10, if_neg h7], sE_rf _⟩)
  · refine if_ne hX (7) 12 (by decide +kernel) (by decide) (fun c => absurd (by decide) c) (fun c_5 => ?_)
    refine bk hX lkX12_ok (pc' := 11) [.sipush (Int.negSucc 1000)] (by decide +kernel) (And.intro trivial ?_)
    exact z_iret hX (by decide +kernel) rfl (rfl) (by decide) (by decide) (⟨I, rfl, by unfold ofS; rw [if_neg hx], sE_rf _⟩)
