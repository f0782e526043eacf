theorem c_M_ring (E : zE) (K N : Nat → Nat) (Rf : Nat → Nat → Option Nat) (I : Nat → Nat → Int32) (L : Nat → Nat → Int64) {g : Gv} (hg : gwf g) (hG : mG g I) {p : Nat} (hp : p < gn g) : zCt E mX12_ring 0 0 0 (sg K N Rf I L) [.ref 100, .int (nI p)] (fun r σ' => σ' = (sg K N Rf I L) ∧ r = some (.int (nI (rg (gc g) p)))) := by
  have h6 := hg.1
  have hcl : ∀ p, p < gn g → gc g p < gn g := fun p hp => (hg.2.1 p hp).2.2.1
  have hcp := hcl p hp
  obtain ⟨k0, hk0, hr0⟩ := itN_ret hcl hg.2.2 hp
  refine z_intro (by decide) (Nat.le_of_ble_eq_true rfl) (fun X hX => ?_)
  have hl : ∀ k x n, x < gn g → n ≤ 100 → k + n ≤ 100 → itN (gc g) k x = p → rgL (gc g) p k x n = rg (gc g) p → zS X (sg K N Rf I L) 0 0 9 [(0, .ref 100), (1, .int (nI p)), (2, .int (nI n)), (3, .int (nI x))] [] := by
    intro k
    induction k with
    | zero =>
      intro x n hx hn hkn hit hrg
      have hxp : x = p := hit
      subst hxp
      refine bk hX lkX12_ok (pc' := 11) [.iload_n 3, .iload_n 1] (by decide +kernel) (And.intro trivial ?_)
      refine ic_eq hX (16) 27 (by decide +kernel) (by decide) (fun c_11 => ?_) (fun c => absurd (rfl) c)
      refine bk hX lkX12_ok (pc' := 28) [.iload_n 2] (by decide +kernel) (And.intro trivial ?_)
      exact z_iret hX (by decide +kernel) rfl (rfl) (by decide) (by decide) (by rw [← hrg]; exact ⟨rfl, rfl⟩)
    | succ k ih =>
      intro x n hx hn hkn hit hrg
      have hrg2 : (if x = p then n else rgL (gc g) p k (gc g x) (n + 1)) = rg (gc g) p := hrg
      refine bk hX lkX12_ok (pc' := 11) [.iload_n 3, .iload_n 1] (by decide +kernel) (And.intro trivial ?_)
      refine ic_eq hX (16) 27 (by decide +kernel) (by decide) (fun cx => ?_) (fun cx => ?_)
      · refine bk hX lkX12_ok (pc' := 28) [.iload_n 2] (by decide +kernel) (And.intro trivial ?_)
        exact z_iret hX (by decide +kernel) rfl (rfl) (by decide) (by decide) (by rw [← hrg2, if_pos (nI_inj (by omega) (by omega) cx)]; exact ⟨rfl, rfl⟩)
      · refine bk hX lkX12_ok (pc' := 24) [.aload_n 0, .getfield 26, .iload_n 3, .iaload, .istore_n 3, .iinc 2 1] (by decide +kernel) (And.intro (by exact vin 6 (by omega)) (And.intro trivial ?_))
        refine gt_ hX (-15) 9 (by decide +kernel) (by decide) ?_
        refine z_lvk (lv' := [(0, _), (1, _), (2, _), (3, _)]) [2, 3, 0, 1] rfl ?_
        rw [if_neg (fun z => cx (by rw [z]))] at hrg2
        rw [cl (by omega), show I (101 + 5) x = _ from (hG.2.2.2 x hx).2.2.1, nI_add]
        exact ih (gc g x) (n + 1) (hcl x hx) (by omega) (by omega) hit hrg2
  refine bk hX lkX12_ok (pc' := 9) [.iconst 1, .istore_n 2, .aload_n 0, .getfield 26, .iload_n 1, .iaload, .istore_n 3] (by decide +kernel) (And.intro (by exact vin 6 (by omega)) (And.intro trivial ?_))
  refine z_lvk (lv' := [(0, _), (1, _), (2, _), (3, _)]) [2, 3, 1, 0] rfl ?_
  rw [cl (by omega), show I (101 + 5) p = _ from (hG.2.2.2 p hp).2.2.1]
  exact hl k0 (gc g p) 1 hcp (by omega) (by omega) hr0 (rgL_of k0 6 _ 1 hr0 (by omega)).symm
theorem c_M_whoHas (E : zE) (K N : Nat → Nat) (Rf : Nat → Nat → Option Nat) (I : Nat → Nat → Int32) (L : Nat → Nat → Int64) {g : Gv} (hg : gwf g) (hG : mG g I) {c : Nat} (hc : c < gn g) : zCt E mX12_whoHas 0 0 0 (sg K N Rf I L) [.ref 100, .int (nI c)] (fun r σ' => σ' = (sg K N Rf I L) ∧ r = some (.int (nI (wh (gc g) c)))) := by
  have h6 := hg.1
  obtain ⟨hw1, hw2⟩ := wh_sp hg hc
  refine z_intro (by decide) (Nat.le_of_ble_eq_true rfl) (fun X hX => ?_)
  have hl : ∀ m p, p + m = 6 → p ≤ wh (gc g) c → whL (gc g) c m p = wh (gc g) c → zS X (sg K N Rf I L) 0 0 2 [(0, .ref 100), (1, .int (nI c)), (2, .int (nI p))] [] := by
    intro m
    induction m with
    | zero =>
      intro p hp hle hw
      omega
    | succ m ih =>
      intro p hp hle hw
      have hpn : p < gn g := by omega
      have hcpn := (hg.2.1 p hpn).2.2.1
      have hw' : (if gc g p = c then p else whL (gc g) c m (p + 1)) = wh (gc g) c := hw
      refine bk hX lkX12_ok (pc' := 9) [.aload_n 0, .getfield 26, .iload_n 2, .iaload, .iload_n 1] (by decide +kernel) (And.intro (by exact vin 6 (by omega)) (And.intro trivial ?_))
      rw [cl (by omega), show I (101 + 5) p = _ from (hG.2.2.2 p hpn).2.2.1]
      refine ic_eq hX (9) 18 (by decide +kernel) (by decide) (fun cx => ?_) (fun cx => ?_)
      · refine bk hX lkX12_ok (pc' := 19) [.iload_n 2] (by decide +kernel) (And.intro trivial ?_)
        exact z_iret hX (by decide +kernel) rfl (rfl) (by decide) (by decide) (by rw [← hw', if_pos (nI_inj (by omega) (by omega) cx)]; exact ⟨rfl, rfl⟩)
      · refine bk hX lkX12_ok (pc' := 15) [.iinc 2 1] (by decide +kernel) (And.intro trivial ?_)
        refine gt_ hX (-13) 2 (by decide +kernel) (by decide) ?_
        refine z_lvk (lv' := [(0, _), (1, _), (2, _)]) [1, 2, 0] rfl ?_
        have hne : ¬ gc g p = c := fun z => cx (by rw [z])
        rw [if_neg hne] at hw'
        rw [nI_add]
        refine ih (p + 1) (by omega) ?_ hw'
        rcases Nat.lt_or_ge p (wh (gc g) c) with z | z
        · exact z
        · have : p = wh (gc g) c := by omega
          rw [← this] at hw2
          exact absurd hw2 hne
  refine bk hX lkX12_ok (pc' := 2) [.iconst 0, .istore_n 2] (by decide +kernel) (And.intro trivial ?_)
  refine z_lvk (lv' := [(0, _), (1, _), (2, _)]) [1, 2, 0] rfl ?_
  exact hl 6 0 rfl (Nat.zero_le _) rfl
theorem c_M_firstSwap (E : zE) (K N : Nat → Nat) (Rf : Nat → Nat → Option Nat) (I : Nat → Nat → Int32) (L : Nat → Nat → Int64) {g : Gv} (hg : gwf g) (hG : mG g I) : zCt E mX12_firstSwap 1 0 0 (sg K N Rf I L) [.ref 100] (fun r σ' => σ' = (sg K N Rf I L) ∧ r = some (.int (fsL (gc g) (gn g) 0))) := by
  have h6 := hg.1
  refine z_intro (by decide) (Nat.le_of_ble_eq_true rfl) (fun X hX => ?_)
  have hl : ∀ m p, p + m = gn g → fsL (gc g) m p = fsL (gc g) (gn g) 0 → zS X (sg K N Rf I L) 0 0 2 [(0, .ref 100), (1, .int (nI p))] [] := by
    intro m
    induction m with
    | zero =>
      intro p hp hf
      obtain rfl : p = gn g := by omega
      refine bk hX lkX12_ok (pc' := 7) [.iload_n 1, .aload_n 0, .getfield 7] (by decide +kernel) (And.intro trivial ?_)
      rw [hG.1]
      refine ic_ge hX (30) 37 (by decide +kernel) (by decide) (fun c_7 => ?_) (fun c => absurd (nI_le (by omega) (by omega)) c)
      refine bk hX lkX12_ok (pc' := 39) [.bipush (Int.negSucc 4)] (by decide +kernel) (And.intro trivial ?_)
      exact z_iret hX (by decide +kernel) rfl (rfl) (by decide) (by decide) (by rw [← hf]; exact ⟨rfl, rfl⟩)
    | succ m ih =>
      intro p hp hf
      have hpn : p < gn g := by omega
      have hcpn := (hg.2.1 p hpn).2.2.1
      have hf' : (if gc g p = p then fsL (gc g) m (p + 1) else nI (10 * p + wh (gc g) p)) = fsL (gc g) (gn g) 0 := hf
      refine bk hX lkX12_ok (pc' := 7) [.iload_n 1, .aload_n 0, .getfield 7] (by decide +kernel) (And.intro trivial ?_)
      rw [hG.1]
      refine ic_ge hX (30) 37 (by decide +kernel) (by decide) (fun c => absurd c (nI_ge (by omega) (by omega))) (fun c_7 => ?_)
      refine bk hX lkX12_ok (pc' := 17) [.aload_n 0, .getfield 26, .iload_n 1, .iaload, .iload_n 1] (by decide +kernel) (And.intro (by exact vin 6 (by omega)) (And.intro trivial ?_))
      rw [cl (by omega), show I (101 + 5) p = _ from (hG.2.2.2 p hpn).2.2.1]
      refine ic_eq hX (14) 31 (by decide +kernel) (by decide) (fun cx => ?_) (fun cx => ?_)
      · refine bk hX lkX12_ok (pc' := 34) [.iinc 1 1] (by decide +kernel) (And.intro trivial ?_)
        refine gt_ hX (-32) 2 (by decide +kernel) (by decide) ?_
        refine z_lvk (lv' := [(0, _), (1, _)]) [1, 0] rfl ?_
        rw [if_pos (nI_inj (by omega) (by omega) cx)] at hf'
        rw [nI_add]
        exact ih (p + 1) (by omega) hf'
      · refine bk hX lkX12_ok (pc' := 26) [.bipush 10, .iload_n 1, .imul, .aload_n 0, .iload_n 1] (by decide +kernel) (And.intro trivial ?_)
        refine z_callV hX kw_X12_322 (c_M_whoHas E K N Rf I L hg hG hpn) rfl rfl rfl rfl rfl (by decide +kernel) (by decide) (by decide) (by decide) (by decide) (Nat.le_of_ble_eq_true rfl) ?_
        rintro _ _ ⟨rfl, rfl⟩
        refine bk hX lkX12_ok (pc' := 30) [.iadd] (by decide +kernel) (And.intro trivial ?_)
        exact z_iret hX (by decide +kernel) rfl (rfl) (by decide) (by decide) (by rw [← hf', if_neg (fun z => cx (by rw [z])), pk_mul, nI_add]; exact ⟨rfl, rfl⟩)
  refine bk hX lkX12_ok (pc' := 2) [.iconst 0, .istore_n 1] (by decide +kernel) (And.intro trivial ?_)
  refine z_lvk (lv' := [(0, _), (1, _)]) [1, 0] rfl ?_
  exact hl (gn g) 0 (by omega) rfl
theorem c_M_swapsOf (E : zE) (K N : Nat → Nat) (Rf : Nat → Nat → Option Nat) (I : Nat → Nat → Int32) (L : Nat → Nat → Int64) {g : Gv} (hg : gwf g) (hG : mG g I) : zCt E mX12_swapsOf 1 0 0 (sg K N Rf I L) [.ref 100] (fun r σ' => σ' = (sg K N Rf I L) ∧ r = some (.int (nI (swL (gc g) (gn g) 0 0 0)))) := by
  have h6 := hg.1
  have hcl : ∀ p, p < gn g → gc g p < gn g := fun p hp => (hg.2.1 p hp).2.2.1
  refine z_intro (by decide) (Nat.le_of_ble_eq_true rfl) (fun X hX => ?_)
  have hl2 : ∀ (p n : Nat) (k : Nat) (s x : Nat), s < 64 → x < gn g → ucN s (gn g) ≤ k → (∀ s', s' = mkL (gc g) k s x → s' < 64 → zS X (sg K N Rf I L) 0 0 68 [(0, .ref 100), (1, .int (nI n)), (2, .int (nI s')), (3, .int (nI p))] []) → zS X (sg K N Rf I L) 0 0 39 [(0, .ref 100), (1, .int (nI n)), (2, .int (nI s)), (3, .int (nI p)), (4, .int (nI x))] [] := by
    intro p n k
    induction k with
    | zero =>
      intro s x hs hx hu hk
      refine bk hX lkX12_ok (pc' := 43) [.aload_n 0, .iload_n 2, .iload 4] (by decide +kernel) (And.intro trivial ?_)
      refine z_callV hX kw_X12_224 (c_M_has E _ _ _ _) rfl rfl rfl rfl rfl (by decide +kernel) (by decide) (by decide) (by decide) (by decide) (Nat.le_of_ble_eq_true rfl) ?_
      rintro _ _ ⟨rfl, hh⟩
      rw [i_bit (by omega) (by omega)] at hh
      rcases hh with ⟨hb, rfl⟩ | ⟨hb, rfl⟩
      · refine if_ne hX (22) 68 (by decide +kernel) (by decide) (fun c_46 => ?_) (fun c => absurd c (by decide))
        refine z_lvk (lv' := [(0, _), (1, _), (2, _), (3, _)]) [0, 1, 2, 3] rfl ?_
        exact hk s rfl hs
      · refine if_ne hX (22) 68 (by decide +kernel) (by decide) (fun c => absurd (by decide) c) (fun c_46 => ?_)
        refine bk hX lkX12_ok (pc' := 65) [.iload_n 2, .iconst 1, .iload 4, .ishl, .ior, .istore_n 2, .aload_n 0, .getfield 26, .iload 4, .iaload, .istore 4] (by decide +kernel) (And.intro (by exact vin 6 (by omega)) (And.intro trivial ?_))
        refine gt_ hX (-26) 39 (by decide +kernel) (by decide) ?_
        refine z_lvk (lv' := [(0, _), (1, _), (2, _), (3, _), (4, _)]) [2, 3, 1, 4, 0] rfl ?_
        exact absurd (ucN_0 (by omega) x hx) hb
    | succ k ih =>
      intro s x hs hx hu hk
      refine bk hX lkX12_ok (pc' := 43) [.aload_n 0, .iload_n 2, .iload 4] (by decide +kernel) (And.intro trivial ?_)
      refine z_callV hX kw_X12_224 (c_M_has E _ _ _ _) rfl rfl rfl rfl rfl (by decide +kernel) (by decide) (by decide) (by decide) (by decide) (Nat.le_of_ble_eq_true rfl) ?_
      rintro _ _ ⟨rfl, hh⟩
      rw [i_bit (by omega) (by omega)] at hh
      rcases hh with ⟨hb, rfl⟩ | ⟨hb, rfl⟩
      · refine if_ne hX (22) 68 (by decide +kernel) (by decide) (fun c_46 => ?_) (fun c => absurd c (by decide))
        refine z_lvk (lv' := [(0, _), (1, _), (2, _), (3, _)]) [0, 1, 2, 3] rfl ?_
        exact hk s (by show s = (if s.testBit x = true then s else _); rw [if_pos hb]) hs
      · refine if_ne hX (22) 68 (by decide +kernel) (by decide) (fun c => absurd (by decide) c) (fun c_46 => ?_)
        refine bk hX lkX12_ok (pc' := 65) [.iload_n 2, .iconst 1, .iload 4, .ishl, .ior, .istore_n 2, .aload_n 0, .getfield 26, .iload 4, .iaload, .istore 4] (by decide +kernel) (And.intro (by exact vin 6 (by omega)) (And.intro trivial ?_))
        refine gt_ hX (-26) 39 (by decide +kernel) (by decide) ?_
        refine z_lvk (lv' := [(0, _), (1, _), (2, _), (3, _), (4, _)]) [2, 3, 1, 4, 0] rfl ?_
        rw [cl (by omega), show I (101 + 5) x = _ from (hG.2.2.2 x hx).2.2.1, i_1shl (by omega), i_or]
        have hu2 := ucN_or hb (gn g)
        rw [if_pos hx] at hu2
        refine ih (s ||| 2 ^ x) (gc g x) (Nat.or_lt_two_pow (n := 6) hs (Nat.pow_lt_pow_right (by decide) (by omega))) (hcl x hx) (by omega) (fun s' hs' hl' => hk s' ?_ hl')
        rw [hs']
        show _ = (if s.testBit x = true then s else mkL (gc g) k (s ||| 2 ^ x) (gc g x))
        rw [if_neg hb]
  have hl : ∀ m p s n, p + m = gn g → s < 64 → n ≤ 10 * p → swL (gc g) m p s n = swL (gc g) (gn g) 0 0 0 → zS X (sg K N Rf I L) 0 0 6 [(0, .ref 100), (1, .int (nI n)), (2, .int (nI s)), (3, .int (nI p))] [] := by
    intro m
    induction m with
    | zero =>
      intro p s n hp hs hn hf
      obtain rfl : p = gn g := by omega
      refine bk hX lkX12_ok (pc' := 11) [.iload_n 3, .aload_n 0, .getfield 7] (by decide +kernel) (And.intro trivial ?_)
      rw [hG.1]
      refine ic_ge hX (63) 74 (by decide +kernel) (by decide) (fun c_11 => ?_) (fun c => absurd (nI_le (by omega) (by omega)) c)
      refine bk hX lkX12_ok (pc' := 75) [.iload_n 1] (by decide +kernel) (And.intro trivial ?_)
      exact z_iret hX (by decide +kernel) rfl (rfl) (by decide) (by decide) (by rw [← hf]; exact ⟨rfl, rfl⟩)
    | succ m ih =>
      intro p s n hp hs hn hf
      have hpn : p < gn g := by omega
      have hf' : (if s.testBit p = true then swL (gc g) m (p + 1) s n else swL (gc g) m (p + 1) (mkL (gc g) 6 s p) (n + (rg (gc g) p - 1))) = swL (gc g) (gn g) 0 0 0 := hf
      have hrl : rg (gc g) p ≤ 7 := rgL_le 6 _ 1
      have hrg1 : 1 ≤ rg (gc g) p := rgL_ge 6 _ 1
      refine bk hX lkX12_ok (pc' := 11) [.iload_n 3, .aload_n 0, .getfield 7] (by decide +kernel) (And.intro trivial ?_)
      rw [hG.1]
      refine ic_ge hX (63) 74 (by decide +kernel) (by decide) (fun c => absurd c (nI_ge (by omega) (by omega))) (fun c_11 => ?_)
      refine bk hX lkX12_ok (pc' := 17) [.aload_n 0, .iload_n 2, .iload_n 3] (by decide +kernel) (And.intro trivial ?_)
      refine z_callV hX kw_X12_224 (c_M_has E _ _ _ _) rfl rfl rfl rfl rfl (by decide +kernel) (by decide) (by decide) (by decide) (by decide) (Nat.le_of_ble_eq_true rfl) ?_
      rintro _ _ ⟨rfl, hh⟩
      rw [i_bit (by omega) (by omega)] at hh
      rcases hh with ⟨hb, rfl⟩ | ⟨hb, rfl⟩
      · refine if_eq hX (6) 26 (by decide +kernel) (by decide) (fun c => absurd c (by decide)) (fun c_20 => ?_)
        refine gt_ hX (45) 68 (by decide +kernel) (by decide) ?_
        refine bk hX lkX12_ok (pc' := 71) [.iinc 3 1] (by decide +kernel) (And.intro trivial ?_)
        refine gt_ hX (-65) 6 (by decide +kernel) (by decide) ?_
        refine z_lvk (lv' := [(0, _), (1, _), (2, _), (3, _)]) [1, 2, 3, 0] rfl ?_
        rw [if_pos hb] at hf'
        rw [nI_add]
        exact ih (p + 1) s n (by omega) hs (by omega) hf'
      · refine if_eq hX (6) 26 (by decide +kernel) (by decide) (fun c_20 => ?_) (fun c => absurd (by decide) c)
        refine bk hX lkX12_ok (pc' := 29) [.iload_n 1, .aload_n 0, .iload_n 3] (by decide +kernel) (And.intro trivial ?_)
        refine z_callV hX kw_X12_319 (c_M_ring E K N Rf I L hg hG hpn) rfl rfl rfl rfl rfl (by decide +kernel) (by decide) (by decide) (by decide) (by decide) (Nat.le_of_ble_eq_true rfl) ?_
        rintro _ _ ⟨rfl, rfl⟩
        refine bk hX lkX12_ok (pc' := 39) [.iconst 1, .isub, .iadd, .istore_n 1, .iload_n 3, .istore 4] (by decide +kernel) (And.intro trivial ?_)
        refine z_lvk (lv' := [(0, _), (1, _), (2, _), (3, _), (4, _)]) [2, 1, 3, 4, 0] rfl ?_
        rw [if_neg hb] at hf'
        rw [i_m1 hrg1, nI_add]
        refine hl2 p (n + (rg (gc g) p - 1)) 6 s p hs hpn (Nat.le_trans (ucN_le s (gn g)) h6) (fun s' hs' hl' => ?_)
        subst hs'
        refine bk hX lkX12_ok (pc' := 71) [.iinc 3 1] (by decide +kernel) (And.intro trivial ?_)
        refine gt_ hX (-65) 6 (by decide +kernel) (by decide) ?_
        refine z_lvk (lv' := [(0, _), (1, _), (2, _), (3, _)]) [1, 2, 3, 0] rfl ?_
        rw [nI_add]
        exact ih (p + 1) _ _ (by omega) hl' (by omega) hf'
  refine bk hX lkX12_ok (pc' := 6) [.iconst 0, .istore_n 1, .iconst 0, .istore_n 2, .iconst 0, .istore_n 3] (by decide +kernel) (And.intro trivial ?_)
  refine z_lvk (lv' := [(0, _), (1, _), (2, _), (3, _)]) [3, 2, 1, 0] rfl ?_
  exact hl (gn g) 0 0 0 (by omega) (by decide) (by omega) rfl
