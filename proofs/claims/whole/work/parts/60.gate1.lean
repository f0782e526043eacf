theorem mk2_lt' {g : Gv} (hg : gwf g) : ∀ m s o, s < 64 → o < gn g → mk2 (gc g) m s o < 64
  | 0, s, o, hs, _ => hs
  | m + 1, s, o, hs, ho => mk2_lt' hg m _ (gc g o) (Nat.or_lt_two_pow (n := 6) hs (Nat.pow_lt_pow_right (by decide) (by have := hg.1; omega))) (hg.2.1 o ho).2.2.1
theorem c_G3_isAtHome (E : zE) (K N : Nat → Nat) (Rf : Nat → Nat → Option Nat) (I : Nat → Nat → Int32) (L : Nat → Nat → Int64) (p : Nat) : zCt E mX1_isAtHome 0 0 0 (sg K N Rf I L) [.ref 300, .int (nI p)] (fun r σ' => σ' = (sg K N Rf I L) ∧ ((atB (I 300 5) p = true ∧ r = some (.int 1)) ∨ (¬ (atB (I 300 5) p = true) ∧ r = some (.int 0)))) := by
  refine z_intro (by decide) (Nat.le_of_ble_eq_true rfl) (fun X hX => ?_)
  refine bk hX lkX1_ok (pc' := 8) [.aload_n 0, .getfield 60, .iload_n 1, .ishr, .iconst 1, .iand] (by decide +kernel) (And.intro trivial ?_)
  refine if_eq hX (7) 15 (by decide +kernel) (by decide) (fun c8 => ?_) (fun c8 => ?_)
  · refine bk hX lkX1_ok (pc' := 16) [.iconst 0] (by decide +kernel) (And.intro trivial ?_)
    exact z_iret hX (by decide +kernel) rfl (rfl) (by decide) (by decide) (by first | exact ⟨rfl, Or.inl ⟨atB_n0.mp c8, rfl⟩⟩ | exact ⟨rfl, Or.inr ⟨fun z => atB_n0.mpr z c8, rfl⟩⟩)
  · refine bk hX lkX1_ok (pc' := 12) [.iconst 1] (by decide +kernel) (And.intro trivial ?_)
    refine gt_ hX (4) 16 (by decide +kernel) (by decide) ?_
    exact z_iret hX (by decide +kernel) rfl (rfl) (by decide) (by decide) (by first | exact ⟨rfl, Or.inl ⟨atB_n0.mp c8, rfl⟩⟩ | exact ⟨rfl, Or.inr ⟨fun z => atB_n0.mpr z c8, rfl⟩⟩)
theorem c_G3_keepAtHome (E : zE) (K N : Nat → Nat) (Rf : Nat → Nat → Option Nat) (I : Nat → Nat → Int32) (L : Nat → Nat → Int64) (p is : Int32) : zCt E mX1_keepAtHome 0 0 0 (sg K N Rf I L) [.ref 300, .int p, .int is] (fun r σ' => σ' = sg K N Rf (up2 I 300 5 (rstS (I 300 5) p is)) L ∧ r = none) := by
  refine z_intro (by decide) (Nat.le_of_ble_eq_true rfl) (fun X hX => ?_)
  refine bk hX lkX1_ok (pc' := 2) [.aload_n 0, .iload_n 2] (by decide +kernel) (And.intro trivial ?_)
  refine if_eq hX (14) 16 (by decide +kernel) (by decide) (fun c1 => ?_) (fun c1 => ?_)
  · refine bk hX lkX1_ok (pc' := 29) [.aload_n 0, .getfield 60, .iconst 1, .iload_n 1, .ishl, .iconst (Int.negSucc 0), .ixor, .iand, .putfield 60] (by decide +kernel) (And.intro trivial ?_)
    exact z_vret hX (by decide +kernel) rfl (by decide) (by decide) (by first | (unfold rstS; rw [if_pos c1]; exact ⟨rfl, rfl⟩) | (unfold rstS; rw [if_neg c1]; exact ⟨rfl, rfl⟩))
  · refine bk hX lkX1_ok (pc' := 13) [.aload_n 0, .getfield 60, .iconst 1, .iload_n 1, .ishl, .ior] (by decide +kernel) (And.intro trivial ?_)
    refine gt_ hX (13) 26 (by decide +kernel) (by decide) ?_
    refine bk hX lkX1_ok (pc' := 29) [.putfield 60] (by decide +kernel) (And.intro trivial ?_)
    exact z_vret hX (by decide +kernel) rfl (by decide) (by decide) (by first | (unfold rstS; rw [if_pos c1]; exact ⟨rfl, rfl⟩) | (unfold rstS; rw [if_neg c1]; exact ⟨rfl, rfl⟩))
theorem c_G3_exchange (E : zE) (K N : Nat → Nat) (Rf : Nat → Nat → Option Nat) (I : Nat → Nat → Int32) (L : Nat → Nat → Int64) (i j : Nat) (hi : i < 6) (hj : j < 6) : zCt E mX1_exchange 0 0 0 (sg K N Rf I L) [.ref 300, .int (nI i), .int (nI j)] (fun r σ' => σ' = sg K N Rf (up2 (up2 I 303 i (I 303 j)) 303 j (I 303 i)) L ∧ r = none) := by
  have ei : (nI i).toNatClampNeg = i := nI_clamp (by omega)
  have ej : (nI j).toNatClampNeg = j := nI_clamp (by omega)
  refine z_intro (by decide) (Nat.le_of_ble_eq_true rfl) (fun X hX => ?_)
  refine bk hX lkX1_ok (pc' := 26) [.aload_n 0, .getfield 21, .iload_n 1, .iaload, .istore_n 3, .aload_n 0, .getfield 21, .iload_n 1, .aload_n 0, .getfield 21, .iload_n 2, .iaload, .iastore, .aload_n 0, .getfield 21, .iload_n 2, .iload_n 3, .iastore] (by decide +kernel) (And.intro (by exact vin 6 hi) (And.intro (by exact vin 6 hj) (And.intro (by exact vin 6 hi) (And.intro (by exact vin 6 hj) (And.intro trivial ?_)))))
  exact z_vret hX (by decide +kernel) rfl (by decide) (by decide) (by rw [ei, ej]; exact ⟨rfl, rfl⟩)
theorem c_G3_holder (E : zE) (K N : Nat → Nat) (Rf : Nat → Nat → Option Nat) (I : Nat → Nat → Int32) (L : Nat → Nat → Int64) {g : Gv} (hg : gwf g) (hG : xG 300 g K Rf I) {c : Nat} (hc : c < gn g) : zCt E mX1_holder 0 0 0 (sg K N Rf I L) [.ref 300, .int (nI c)] (fun r σ' => σ' = (sg K N Rf I L) ∧ r = some (.int (nI (wh (gc g) c)))) := by
  have h6 := hg.1
  obtain ⟨w1, w2⟩ := wh_sp hg hc
  refine z_intro (by decide) (Nat.le_of_ble_eq_true rfl) (fun X hX => ?_)
  have hl : ∀ m p, p + m = gn g → zS X (sg K N Rf I L) 0 0 4 [(0, .ref 300), (1, .int (nI c)), (2, .int (nI (if wh (gc g) c < p then wh (gc g) c else 0))), (3, .int (nI p))] [] := by
    intro m
    induction m with
    | zero =>
      intro p hp
      obtain rfl : p = gn g := by omega
      refine bk hX lkX1_ok (pc' := 9) [.iload_n 3, .aload_n 0, .getfield 56] (by decide +kernel) (And.intro trivial ?_)
      rw [hG.1]
      refine ic_ge hX (21) 30 (by decide +kernel) (by decide) (fun c_9 => ?_) (fun c => absurd (nI_le (Nat.le_refl _) (by omega)) c)
      refine bk hX lkX1_ok (pc' := 31) [.iload_n 2] (by decide +kernel) (And.intro trivial ?_)
      exact z_iret hX (by decide +kernel) rfl (rfl) (by decide) (by decide) (by rw [if_pos w1]; exact ⟨rfl, rfl⟩)
    | succ m ih =>
      intro p hp
      have hpn : p < gn g := by omega
      have ec : I 303 p = nI (gc g p) := (hG.2.2.2 p hpn).2.1
      have hcn := (hg.2.1 p hpn).2.2.1
      refine bk hX lkX1_ok (pc' := 9) [.iload_n 3, .aload_n 0, .getfield 56] (by decide +kernel) (And.intro trivial ?_)
      rw [hG.1]
      refine ic_ge hX (21) 30 (by decide +kernel) (by decide) (fun c => absurd c (nI_ge (by omega) (by omega))) (fun c_9 => ?_)
      refine bk hX lkX1_ok (pc' := 19) [.aload_n 0, .getfield 21, .iload_n 3, .iaload, .iload_n 1] (by decide +kernel) (And.intro (by exact vin 6 (by omega)) (And.intro trivial ?_))
      simp only [cl (show p < 2 ^ 31 by omega), ec]
      refine ic_ne hX (5) 24 (by decide +kernel) (by decide) (fun c19 => ?_) (fun c19 => ?_)
      · refine bk hX lkX1_ok (pc' := 27) [.iinc 3 1] (by decide +kernel) (And.intro trivial ?_)
        refine gt_ hX (-23) 4 (by decide +kernel) (by decide) ?_
        refine z_lvk (lv' := [(0, _), (1, _), (2, _), (3, _)]) [1, 2, 3, 0] rfl ?_
        rw [nI_add]
        first
          | (have e : gc g p = c := nI_inj (by omega) (by omega) c19
             have ep : p = wh (gc g) c := hg.2.2 _ _ hpn w1 (e.trans w2.symm)
             have e2 : p = (if wh (gc g) c < p + 1 then wh (gc g) c else 0) := by rw [if_pos (by omega)]; exact ep
             have K1 := ih (p + 1) (by omega)
             rw [← e2] at K1
             exact K1)
          | (have e : ¬ gc g p = c := fun z => c19 (by rw [z])
             have ep : ¬ wh (gc g) c = p := fun z => e (by rw [← z]; exact w2)
             have e2 : (if wh (gc g) c < p then wh (gc g) c else 0) = (if wh (gc g) c < p + 1 then wh (gc g) c else 0) := by
               by_cases z : wh (gc g) c < p
               · rw [if_pos z, if_pos (by omega)]
               · rw [if_neg z, if_neg (by omega)]
             rw [e2]
             exact ih (p + 1) (by omega))
      · refine bk hX lkX1_ok (pc' := 27) [.iload_n 3, .istore_n 2, .iinc 3 1] (by decide +kernel) (And.intro trivial ?_)
        refine gt_ hX (-23) 4 (by decide +kernel) (by decide) ?_
        refine z_lvk (lv' := [(0, _), (1, _), (2, _), (3, _)]) [2, 3, 1, 0] rfl ?_
        rw [nI_add]
        first
          | (have e : gc g p = c := nI_inj (by omega) (by omega) c19
             have ep : p = wh (gc g) c := hg.2.2 _ _ hpn w1 (e.trans w2.symm)
             have e2 : p = (if wh (gc g) c < p + 1 then wh (gc g) c else 0) := by rw [if_pos (by omega)]; exact ep
             have K1 := ih (p + 1) (by omega)
             rw [← e2] at K1
             exact K1)
          | (have e : ¬ gc g p = c := fun z => c19 (by rw [z])
             have ep : ¬ wh (gc g) c = p := fun z => e (by rw [← z]; exact w2)
             have e2 : (if wh (gc g) c < p then wh (gc g) c else 0) = (if wh (gc g) c < p + 1 then wh (gc g) c else 0) := by
               by_cases z : wh (gc g) c < p
               · rw [if_pos z, if_pos (by omega)]
               · rw [if_neg z, if_neg (by omega)]
             rw [e2]
             exact ih (p + 1) (by omega))
  refine bk hX lkX1_ok (pc' := 4) [.iconst 0, .istore_n 2, .iconst 0, .istore_n 3] (by decide +kernel) (And.intro trivial ?_)
  refine z_lvk (lv' := [(0, _), (1, _), (2, _), (3, _)]) [2, 3, 1, 0] rfl ?_
  have K1 := hl (gn g) 0 (by omega)
  rw [if_neg (Nat.not_lt_zero _)] at K1
  exact K1
theorem c_G3_ringOf (E : zE) (K N : Nat → Nat) (Rf : Nat → Nat → Option Nat) (I : Nat → Nat → Int32) (L : Nat → Nat → Int64) {g : Gv} (hg : gwf g) (hG : xG 300 g K Rf I) {p : Nat} (hp : p < gn g) : zCt E mX1_ringOf 0 0 0 (sg K N Rf I L) [.ref 300, .int (nI p)] (fun r σ' => σ' = (sg K N Rf I L) ∧ r = some (.int (nI (rg (gc g) p)))) := by
  have h6 := hg.1
  have hc : ∀ q, q < gn g → gc g q < gn g := fun q hq => (hg.2.1 q hq).2.2.1
  have ec : ∀ q, q < gn g → I 303 q = nI (gc g q) := fun q hq => (hG.2.2.2 q hq).2.1
  obtain ⟨k, hk, he⟩ := itN_ret hc hg.2.2 hp
  have ek : rg (gc g) p = rgL (gc g) p k (gc g p) 1 := rgL_of k 6 _ _ he (by omega)
  refine z_intro (by decide) (Nat.le_of_ble_eq_true rfl) (fun X hX => ?_)
  have hl : ∀ m o l, o < gn g → itN (gc g) m o = p → m + l ≤ gn g → rgL (gc g) p m o l = rg (gc g) p → zS X (sg K N Rf I L) 0 0 9 [(0, .ref 300), (1, .int (nI p)), (2, .int (nI l)), (3, .int (nI o))] [] := by
    intro m
    induction m with
    | zero =>
      intro o l ho hi hm hr
      obtain rfl : o = p := hi
      refine bk hX lkX1_ok (pc' := 11) [.iload_n 3, .iload_n 1] (by decide +kernel) (And.intro trivial ?_)
      refine ic_eq hX (24) 35 (by decide +kernel) (by decide) (fun c_11 => ?_) (fun c => absurd (rfl) c)
      refine bk hX lkX1_ok (pc' := 36) [.iload_n 2] (by decide +kernel) (And.intro trivial ?_)
      exact z_iret hX (by decide +kernel) rfl (rfl) (by decide) (by decide) (by rw [← hr]; exact ⟨rfl, rfl⟩)
    | succ m ih =>
      intro o l ho hi hm hr
      unfold rgL at hr
      refine bk hX lkX1_ok (pc' := 11) [.iload_n 3, .iload_n 1] (by decide +kernel) (And.intro trivial ?_)
      refine ic_eq hX (24) 35 (by decide +kernel) (by decide) (fun c11 => ?_) (fun c11 => ?_)
      · refine bk hX lkX1_ok (pc' := 36) [.iload_n 2] (by decide +kernel) (And.intro trivial ?_)
        exact z_iret hX (by decide +kernel) rfl (rfl) (by decide) (by decide) (by rw [← hr, if_pos (nI_inj (by omega) (by omega) c11)]; exact ⟨rfl, rfl⟩)
      · refine bk hX lkX1_ok (pc' := 19) [.iload_n 2, .aload_n 0, .getfield 56] (by decide +kernel) (And.intro trivial ?_)
        rw [hG.1]
        refine ic_ge hX (16) 35 (by decide +kernel) (by decide) (fun c => absurd c (nI_ge (by omega) (by omega))) (fun c_19 => ?_)
        refine bk hX lkX1_ok (pc' := 32) [.iinc 2 1, .aload_n 0, .getfield 21, .iload_n 3, .iaload, .istore_n 3] (by decide +kernel) (And.intro (by exact vin 6 (by omega)) (And.intro trivial ?_))
        refine gt_ hX (-23) 9 (by decide +kernel) (by decide) ?_
        refine z_lvk (lv' := [(0, _), (1, _), (2, _), (3, _)]) [2, 3, 1, 0] rfl ?_
        rw [if_neg (fun z => c11 (by rw [z]))] at hr
        rw [cl (show o < 2 ^ 31 by omega), show I (300 + 1 + 2) o = _ from ec o ho, nI_add]
        exact ih (gc g o) (l + 1) (hc o ho) hi (by omega) hr
  refine bk hX lkX1_ok (pc' := 9) [.iconst 1, .istore_n 2, .aload_n 0, .getfield 21, .iload_n 1, .iaload, .istore_n 3] (by decide +kernel) (And.intro (by exact vin 6 (by omega)) (And.intro trivial ?_))
  refine z_lvk (lv' := [(0, _), (1, _), (2, _), (3, _)]) [2, 3, 1, 0] rfl ?_
  rw [cl (show p < 2 ^ 31 by omega), show I (300 + 1 + 2) p = _ from ec p hp]
  exact hl k (gc g p) 1 (hc p hp) he (by omega) ek.symm
theorem c_G3_allHoles (E : zE) (K N : Nat → Nat) (Rf : Nat → Nat → Option Nat) (I : Nat → Nat → Int32) (L : Nat → Nat → Int64) {g : Gv} (hg : gwf g) (hG : xG 300 g K Rf I) : zCt E mX1_allHoles 1 0 0 (sg K N Rf I L) [.ref 300] (fun r σ' => σ' = (sg K N Rf I L) ∧ r = some (.int (nI (ahN g (gn g))))) := by
  have h6 := hg.1
  refine z_intro (by decide) (Nat.le_of_ble_eq_true rfl) (fun X hX => ?_)
  have hl : ∀ m j, j + m = gn g → zS X (sg K N Rf I L) 0 0 4 [(0, .ref 300), (1, .int (nI (ahN g j))), (2, .int (nI j))] [] := by
    intro m
    induction m with
    | zero =>
      intro j hj
      obtain rfl : j = gn g := by omega
      refine bk hX lkX1_ok (pc' := 9) [.iload_n 2, .aload_n 0, .getfield 56] (by decide +kernel) (And.intro trivial ?_)
      rw [hG.1]
      refine ic_ge hX (21) 30 (by decide +kernel) (by decide) (fun c_9 => ?_) (fun c => absurd (nI_le (Nat.le_refl _) (by omega)) c)
      refine bk hX lkX1_ok (pc' := 31) [.iload_n 1] (by decide +kernel) (And.intro trivial ?_)
      exact z_iret hX (by decide +kernel) rfl (rfl) (by decide) (by decide) (⟨rfl, rfl⟩)
    | succ m ih =>
      intro j hj
      have hjn : j < gn g := by omega
      have eh : I 302 j = nI (gh g j) := (hG.2.2.2 j hjn).2.2.1
      have hh := (hg.2.1 j hjn).2.2.2.1
      refine bk hX lkX1_ok (pc' := 9) [.iload_n 2, .aload_n 0, .getfield 56] (by decide +kernel) (And.intro trivial ?_)
      rw [hG.1]
      refine ic_ge hX (21) 30 (by decide +kernel) (by decide) (fun c => absurd c (nI_ge (by omega) (by omega))) (fun c_9 => ?_)
      refine bk hX lkX1_ok (pc' := 19) [.iload_n 1, .aload_n 0, .getfield 17, .iload_n 2, .iaload] (by decide +kernel) (And.intro (by exact vin 6 (by omega)) (And.intro trivial ?_))
      simp only [cl (show j < 2 ^ 31 by omega), eh]
      refine z_callS hX kw_X1_74 (c_J_bitCount E _ hh) rfl rfl (by decide +kernel) (by decide) (by decide) (by decide) (by decide) (Nat.le_of_ble_eq_true rfl) ?_
      rintro _ _ ⟨rfl, rfl⟩
      refine bk hX lkX1_ok (pc' := 27) [.iadd, .istore_n 1, .iinc 2 1] (by decide +kernel) (And.intro trivial ?_)
      refine gt_ hX (-23) 4 (by decide +kernel) (by decide) ?_
      refine z_lvk (lv' := [(0, _), (1, _), (2, _)]) [2, 1, 0] rfl ?_
      rw [nI_add, nI_add]
      exact ih (j + 1) (by omega)
  refine bk hX lkX1_ok (pc' := 4) [.iconst 0, .istore_n 1, .iconst 0, .istore_n 2] (by decide +kernel) (And.intro trivial ?_)
  refine z_lvk (lv' := [(0, _), (1, _), (2, _)]) [2, 1, 0] rfl ?_
  exact hl (gn g) 0 (by omega)
theorem c_G3_rowSlot (E : zE) (K N : Nat → Nat) (Rf : Nat → Nat → Option Nat) (I : Nat → Nat → Int32) (L : Nat → Nat → Int64) {g : Gv} (hg : gwf g) (hG : xG 300 g K Rf I) (hd : gd g < 2 ^ 30) {p : Nat} (hp : p < gn g) : zCt E mX1_rowSlot 0 0 0 (sg K N Rf I L) [.ref 300, .int (nI p)] (fun r σ' => σ' = (sg K N Rf I L) ∧ r = some (.int (nI (gr g (4 * p + gd g % 4))))) := by
  have h6 := hg.1
  have b4 : gd g % 4 < 4 := Nat.mod_lt _ (by decide)
  have m4 : nI (gd g) - nI (gd g) / nI 4 * nI 4 = nI (gd g % 4) := i_mod (by omega) (by decide) (by decide)
  have er : I 304 (4 * p + gd g % 4) = nI (gr g (4 * p + gd g % 4)) := (hG.2.2.2 p hp).2.2.2 _ b4
  have e6 : I 300 6 = nI (gd g) := hG.2.2.1
  refine z_intro (by decide) (Nat.le_of_ble_eq_true rfl) (fun X hX => ?_)
  refine bk hX lkX1_ok (pc' := 15) [.aload_n 0, .getfield 24, .iconst 4, .iload_n 1, .imul, .aload_n 0, .getfield 63, .iconst 4, .irem, .iadd, .iaload] (by decide +kernel) (And.intro (by decide) (And.intro (by simp only [e6, m4, pk_mul, nI_add]; exact vin 24 (by omega)) (And.intro trivial ?_)))
  exact z_iret hX (by decide +kernel) rfl (rfl) (by decide) (by decide) (by refine ⟨rfl, ?_⟩; simp only [e6, m4, pk_mul, nI_add, cl (show 4 * p + gd g % 4 < 2 ^ 31 by omega), er])
theorem c_G3_rings (E : zE) (K N : Nat → Nat) (Rf : Nat → Nat → Option Nat) (I : Nat → Nat → Int32) (L : Nat → Nat → Int64) {g : Gv} (hg : gwf g) (hG : xG 300 g K Rf I) : zCt E mX1_rings 1 0 0 (sg K N Rf I L) [.ref 300] (fun r σ' => σ' = (sg K N Rf I L) ∧ r = some (.int (nI (gn g - swL (gc g) (gn g) 0 0 0))) ∧ swL (gc g) (gn g) 0 0 0 ≤ gn g) := by
  have h6 := hg.1
  have hc : ∀ q, q < gn g → gc g q < gn g := fun q hq => (hg.2.1 q hq).2.2.1
  have ec : ∀ q, q < gn g → I 303 q = nI (gc g q) := fun q hq => (hG.2.2.2 q hq).2.1
  refine z_intro (by decide) (Nat.le_of_ble_eq_true rfl) (fun X hX => ?_)
  -- the marks of a ring
  have hl2 : ∀ (cnt p s : Nat), p < gn g → ∀ k s1 o, o < gn g → s1 < 64 → k ≤ 6 → zS X (sg K N Rf I L) 0 0 62 [(0, .ref 300), (1, .int (nI cnt)), (2, .int (nI (mk2 (gc g) k s1 o))), (3, .int (nI p))] [] → zS X (sg K N Rf I L) 0 0 35 [(0, .ref 300), (1, .int (nI cnt)), (2, .int (nI s1)), (3, .int (nI p)), (4, .int (nI o)), (5, .int (nI k))] [] := by
    intro cnt p s hp k
    induction k with
    | zero =>
      intro s1 o ho hs1 hk kk
      refine bk hX lkX1_ok (pc' := 37) [.iload 5] (by decide +kernel) (And.intro trivial ?_)
      refine if_le hX (25) 62 (by decide +kernel) (by decide) (fun c_37 => ?_) (fun c => absurd (by decide) c)
      refine z_lvk (lv' := [(0, _), (1, _), (2, _), (3, _)]) [0, 1, 2, 3] rfl ?_
      exact kk
    | succ k ih =>
      intro s1 o ho hs1 hk kk
      have hs2 : s1 ||| 2 ^ o < 64 := Nat.or_lt_two_pow (n := 6) hs1 (Nat.pow_lt_pow_right (by decide) (by omega))
      refine bk hX lkX1_ok (pc' := 37) [.iload 5] (by decide +kernel) (And.intro trivial ?_)
      refine if_le hX (25) 62 (by decide +kernel) (by decide) (fun c => absurd c (fun z => absurd ((nI_leI (a := k + 1) (b := 0) (by omega) (by decide)).mp z) (by omega))) (fun c_37 => ?_)
      refine bk hX lkX1_ok (pc' := 59) [.iload_n 2, .iconst 1, .iload 4, .ishl, .ior, .istore_n 2, .aload_n 0, .getfield 21, .iload 4, .iaload, .istore 4, .iinc 5 (Int.negSucc 0)] (by decide +kernel) (And.intro (by exact vin 6 (by omega)) (And.intro trivial ?_))
      refine gt_ hX (-24) 35 (by decide +kernel) (by decide) ?_
      refine z_lvk (lv' := [(0, _), (1, _), (2, _), (3, _), (4, _), (5, _)]) [3, 4, 2, 5, 1, 0] rfl ?_
      simp only [cl (show o < 2 ^ 31 by omega), ec o ho, i_1shl (show o < 10 by omega), i_or, i_m1' (show 1 ≤ k + 1 by omega), Nat.add_sub_cancel]
      exact ih (s1 ||| 2 ^ o) (gc g o) (hc o ho) hs2 (by omega) kk
  have hl : ∀ m p s acc cnt, p + m = gn g → s < 64 → (∀ o, o < gn g → (s.testBit (gc g o) = true ↔ s.testBit o = true)) → (∀ q, q < p → s.testBit q = true) → cnt + acc + ucN s (gn g) = gn g → swL (gc g) m p s acc = swL (gc g) (gn g) 0 0 0 → zS X (sg K N Rf I L) 0 0 6 [(0, .ref 300), (1, .int (nI cnt)), (2, .int (nI s)), (3, .int (nI p))] [] := by
    intro m
    induction m with
    | zero =>
      intro p s acc cnt hp hs hcl hall hsum hsw
      obtain rfl : p = gn g := by omega
      have hu : ∀ k, k ≤ gn g → ucN s k = 0 := by
        intro k
        induction k with
        | zero => intro _; rfl
        | succ k ihk =>
          intro hk
          show ucN s k + (if s.testBit k = true then 0 else 1) = 0
          rw [ihk (by omega), if_pos (hall k (by omega))]
      have hu0 := hu _ (Nat.le_refl _)
      have hsw' : acc = swL (gc g) (gn g) 0 0 0 := hsw
      refine bk hX lkX1_ok (pc' := 11) [.iload_n 3, .aload_n 0, .getfield 56] (by decide +kernel) (And.intro trivial ?_)
      rw [hG.1]
      refine ic_ge hX (57) 68 (by decide +kernel) (by decide) (fun c_11 => ?_) (fun c => absurd (nI_le (Nat.le_refl _) (by omega)) c)
      refine bk hX lkX1_ok (pc' := 69) [.iload_n 1] (by decide +kernel) (And.intro trivial ?_)
      exact z_iret hX (by decide +kernel) rfl (rfl) (by decide) (by decide) (by rw [← hsw']; exact ⟨rfl, by rw [show cnt = gn g - acc by omega], by omega⟩)
    | succ m ih =>
      intro p s acc cnt hp hs hcl hall hsum hsw
      have hpn : p < gn g := by omega
      have hsw : (if s.testBit p = true then swL (gc g) m (p + 1) s acc else swL (gc g) m (p + 1) (mkL (gc g) 6 s p) (acc + (rg (gc g) p - 1))) = swL (gc g) (gn g) 0 0 0 := hsw
      refine bk hX lkX1_ok (pc' := 11) [.iload_n 3, .aload_n 0, .getfield 56] (by decide +kernel) (And.intro trivial ?_)
      rw [hG.1]
      refine ic_ge hX (57) 68 (by decide +kernel) (by decide) (fun c => absurd c (nI_ge (by omega) (by omega))) (fun c_11 => ?_)
      refine bk hX lkX1_ok (pc' := 19) [.iload_n 2, .iload_n 3, .ishr, .iconst 1, .iand] (by decide +kernel) (And.intro trivial ?_)
      rw [show (nI s >>> (nI p &&& 31) &&& nI 1) = nI (s / 2 ^ p % 2) by rw [i_shr (by omega) (by omega), i_and1 (Nat.lt_of_le_of_lt (Nat.div_le_self _ _) (by omega))]]
      refine if_ne hX (43) 62 (by decide +kernel) (by decide) (fun c19 => ?_) (fun c19 => ?_)
      · refine bk hX lkX1_ok (pc' := 65) [.iinc 3 1] (by decide +kernel) (And.intro trivial ?_)
        refine gt_ hX (-59) 6 (by decide +kernel) (by decide) ?_
        refine z_lvk (lv' := [(0, _), (1, _), (2, _), (3, _)]) [1, 2, 3, 0] rfl ?_
        have hb : s.testBit p = true := by
          rw [Nat.testBit_eq_decide_div_mod_eq, decide_eq_true_iff]
          have : ¬ s / 2 ^ p % 2 = 0 := fun z => c19 (by rw [z]; rfl)
          omega
        rw [if_pos hb] at hsw
        rw [nI_add]
        refine ih (p + 1) s acc cnt (by omega) hs hcl (fun q hq => ?_) hsum hsw
        rcases Nat.lt_or_ge q p with y | y
        · exact hall q y
        · obtain rfl : q = p := by omega
          exact hb
      · refine bk hX lkX1_ok (pc' := 30) [.iinc 1 1, .iload_n 3, .istore 4, .aload_n 0, .iload_n 3] (by decide +kernel) (And.intro trivial ?_)
        refine z_callV hX kw_X1_70 (c_G3_ringOf E K N Rf I L hg hG hpn) rfl rfl rfl rfl rfl (by decide +kernel) (by decide) (by decide) (by decide) (by decide) (Nat.le_of_ble_eq_true rfl) ?_
        rintro _ _ ⟨rfl, rfl⟩
        refine bk hX lkX1_ok (pc' := 35) [.istore 5] (by decide +kernel) (And.intro trivial ?_)
        refine z_lvk (lv' := [(0, _), (1, _), (2, _), (3, _), (4, _), (5, _)]) [3, 2, 4, 5, 1, 0] rfl ?_
        have hb : ¬ s.testBit p = true := by
          intro z
          rw [Nat.testBit_eq_decide_div_mod_eq, decide_eq_true_iff] at z
          rw [z] at c19
          exact absurd c19 (by decide)
        rw [if_neg hb] at hsw
        obtain ⟨z1, z2, z3, z4⟩ := mk_ring hg hpn hcl hb
        obtain ⟨r1, r2, r3, r4⟩ := rg_sp hg hpn
        rw [z1] at hsw
        rw [nI_add]
        have hm64 := mk2_lt' hg (rg (gc g) p) s p hs hpn
        refine hl2 (cnt + 1) p s hpn (rg (gc g) p) s p hpn hs (by omega) ?_
        refine bk hX lkX1_ok (pc' := 65) [.iinc 3 1] (by decide +kernel) (And.intro trivial ?_)
        refine gt_ hX (-59) 6 (by decide +kernel) (by decide) ?_
        refine z_lvk (lv' := [(0, _), (1, _), (2, _), (3, _)]) [1, 2, 3, 0] rfl ?_
        rw [nI_add]
        refine ih (p + 1) _ (acc + (rg (gc g) p - 1)) (cnt + 1) (by omega) hm64 z4 (fun q hq => ?_) (by omega) hsw
        rcases Nat.lt_or_ge q p with y | y
        · exact (mk2_bit _ _ _ _ _).mpr (Or.inl (hall q y))
        · obtain rfl : q = p := by omega
          exact z3
  have hu : ∀ k, ucN 0 k = k := by
    intro k
    induction k with
    | zero => rfl
    | succ k ihk =>
      show ucN 0 k + (if (0 : Nat).testBit k = true then 0 else 1) = k + 1
      rw [ihk]
      simp
  refine bk hX lkX1_ok (pc' := 6) [.iconst 0, .istore_n 1, .iconst 0, .istore_n 2, .iconst 0, .istore_n 3] (by decide +kernel) (And.intro trivial ?_)
  refine z_lvk (lv' := [(0, _), (1, _), (2, _), (3, _)]) [3, 2, 1, 0] rfl ?_
  exact hl (gn g) 0 0 0 0 (by omega) (by decide) (fun o _ => by simp) (fun q hq => absurd hq (Nat.not_lt_zero _)) (by rw [hu]; omega) rfl
theorem c_G4_isAtHome (E : zE) (K N : Nat → Nat) (Rf : Nat → Nat → Option Nat) (I : Nat → Nat → Int32) (L : Nat → Nat → Int64) (p : Nat) : zCt E mX1_isAtHome 0 0 0 (sg K N Rf I L) [.ref 340, .int (nI p)] (fun r σ' => σ' = (sg K N Rf I L) ∧ ((atB (I 340 5) p = true ∧ r = some (.int 1)) ∨ (¬ (atB (I 340 5) p = true) ∧ r = some (.int 0)))) := by
  refine z_intro (by decide) (Nat.le_of_ble_eq_true rfl) (fun X hX => ?_)
  refine bk hX lkX1_ok (pc' := 8) [.aload_n 0, .getfield 60, .iload_n 1, .ishr, .iconst 1, .iand] (by decide +kernel) (And.intro trivial ?_)
  refine if_eq hX (7) 15 (by decide +kernel) (by decide) (fun c8 => ?_) (fun c8 => ?_)
  · refine bk hX lkX1_ok (pc' := 16) [.iconst 0] (by decide +kernel) (And.intro trivial ?_)
    exact z_iret hX (by decide +kernel) rfl (rfl) (by decide) (by decide) (by first | exact ⟨rfl, Or.inl ⟨atB_n0.mp c8, rfl⟩⟩ | exact ⟨rfl, Or.inr ⟨fun z => atB_n0.mpr z c8, rfl⟩⟩)
  · refine bk hX lkX1_ok (pc' := 12) [.iconst 1] (by decide +kernel) (And.intro trivial ?_)
    refine gt_ hX (4) 16 (by decide +kernel) (by decide) ?_
    exact z_iret hX (by decide +kernel) rfl (rfl) (by decide) (by decide) (by first | exact ⟨rfl, Or.inl ⟨atB_n0.mp c8, rfl⟩⟩ | exact ⟨rfl, Or.inr ⟨fun z => atB_n0.mpr z c8, rfl⟩⟩)
theorem c_G4_keepAtHome (E : zE) (K N : Nat → Nat) (Rf : Nat → Nat → Option Nat) (I : Nat → Nat → Int32) (L : Nat → Nat → Int64) (p is : Int32) : zCt E mX1_keepAtHome 0 0 0 (sg K N Rf I L) [.ref 340, .int p, .int is] (fun r σ' => σ' = sg K N Rf (up2 I 340 5 (rstS (I 340 5) p is)) L ∧ r = none) := by
  refine z_intro (by decide) (Nat.le_of_ble_eq_true rfl) (fun X hX => ?_)
  refine bk hX lkX1_ok (pc' := 2) [.aload_n 0, .iload_n 2] (by decide +kernel) (And.intro trivial ?_)
  refine if_eq hX (14) 16 (by decide +kernel) (by decide) (fun c1 => ?_) (fun c1 => ?_)
  · refine bk hX lkX1_ok (pc' := 29) [.aload_n 0, .getfield 60, .iconst 1, .iload_n 1, .ishl, .iconst (Int.negSucc 0), .ixor, .iand, .putfield 60] (by decide +kernel) (And.intro trivial ?_)
    exact z_vret hX (by decide +kernel) rfl (by decide) (by decide) (by first | (unfold rstS; rw [if_pos c1]; exact ⟨rfl, rfl⟩) | (unfold rstS; rw [if_neg c1]; exact ⟨rfl, rfl⟩))
  · refine bk hX lkX1_ok (pc' := 13) [.aload_n 0, .getfield 60, .iconst 1, .iload_n 1, .ishl, .ior] (by decide +kernel) (And.intro trivial ?_)
    refine gt_ hX (13) 26 (by decide +kernel) (by decide) ?_
    refine bk hX lkX1_ok (pc' := 29) [.putfield 60] (by decide +kernel) (And.intro trivial ?_)
    exact z_vret hX (by decide +kernel) rfl (by decide) (by decide) (by first | (unfold rstS; rw [if_pos c1]; exact ⟨rfl, rfl⟩) | (unfold rstS; rw [if_neg c1]; exact ⟨rfl, rfl⟩))
theorem c_G4_exchange (E : zE) (K N : Nat → Nat) (Rf : Nat → Nat → Option Nat) (I : Nat → Nat → Int32) (L : Nat → Nat → Int64) (i j : Nat) (hi : i < 6) (hj : j < 6) : zCt E mX1_exchange 0 0 0 (sg K N Rf I L) [.ref 340, .int (nI i), .int (nI j)] (fun r σ' => σ' = sg K N Rf (up2 (up2 I 343 i (I 343 j)) 343 j (I 343 i)) L ∧ r = none) := by
  have ei : (nI i).toNatClampNeg = i := nI_clamp (by omega)
  have ej : (nI j).toNatClampNeg = j := nI_clamp (by omega)
  refine z_intro (by decide) (Nat.le_of_ble_eq_true rfl) (fun X hX => ?_)
  refine bk hX lkX1_ok (pc' := 26) [.aload_n 0, .getfield 21, .iload_n 1, .iaload, .istore_n 3, .aload_n 0, .getfield 21, .iload_n 1, .aload_n 0, .getfield 21, .iload_n 2, .iaload, .iastore, .aload_n 0, .getfield 21, .iload_n 2, .iload_n 3, .iastore] (by decide +kernel) (And.intro (by exact vin 6 hi) (And.intro (by exact vin 6 hj) (And.intro (by exact vin 6 hi) (And.intro (by exact vin 6 hj) (And.intro trivial ?_)))))
  exact z_vret hX (by decide +kernel) rfl (by decide) (by decide) (by rw [ei, ej]; exact ⟨rfl, rfl⟩)
theorem c_G4_holder (E : zE) (K N : Nat → Nat) (Rf : Nat → Nat → Option Nat) (I : Nat → Nat → Int32) (L : Nat → Nat → Int64) {g : Gv} (hg : gwf g) (hG : xG 340 g K Rf I) {c : Nat} (hc : c < gn g) : zCt E mX1_holder 0 0 0 (sg K N Rf I L) [.ref 340, .int (nI c)] (fun r σ' => σ' = (sg K N Rf I L) ∧ r = some (.int (nI (wh (gc g) c)))) := by
  have h6 := hg.1
  obtain ⟨w1, w2⟩ := wh_sp hg hc
  refine z_intro (by decide) (Nat.le_of_ble_eq_true rfl) (fun X hX => ?_)
  have hl : ∀ m p, p + m = gn g → zS X (sg K N Rf I L) 0 0 4 [(0, .ref 340), (1, .int (nI c)), (2, .int (nI (if wh (gc g) c < p then wh (gc g) c else 0))), (3, .int (nI p))] [] := by
    intro m
    induction m with
    | zero =>
      intro p hp
      obtain rfl : p = gn g := by omega
      refine bk hX lkX1_ok (pc' := 9) [.iload_n 3, .aload_n 0, .getfield 56] (by decide +kernel) (And.intro trivial ?_)
      rw [hG.1]
      refine ic_ge hX (21) 30 (by decide +kernel) (by decide) (fun c_9 => ?_) (fun c => absurd (nI_le (Nat.le_refl _) (by omega)) c)
      refine bk hX lkX1_ok (pc' := 31) [.iload_n 2] (by decide +kernel) (And.intro trivial ?_)
      exact z_iret hX (by decide +kernel) rfl (rfl) (by decide) (by decide) (by rw [if_pos w1]; exact ⟨rfl, rfl⟩)
    | succ m ih =>
      intro p hp
      have hpn : p < gn g := by omega
      have ec : I 343 p = nI (gc g p) := (hG.2.2.2 p hpn).2.1
      have hcn := (hg.2.1 p hpn).2.2.1
      refine bk hX lkX1_ok (pc' := 9) [.iload_n 3, .aload_n 0, .getfield 56] (by decide +kernel) (And.intro trivial ?_)
      rw [hG.1]
      refine ic_ge hX (21) 30 (by decide +kernel) (by decide) (fun c => absurd c (nI_ge (by omega) (by omega))) (fun c_9 => ?_)
      refine bk hX lkX1_ok (pc' := 19) [.aload_n 0, .getfield 21, .iload_n 3, .iaload, .iload_n 1] (by decide +kernel) (And.intro (by exact vin 6 (by omega)) (And.intro trivial ?_))
      simp only [cl (show p < 2 ^ 31 by omega), ec]
      refine ic_ne hX (5) 24 (by decide +kernel) (by decide) (fun c19 => ?_) (fun c19 => ?_)
      · refine bk hX lkX1_ok (pc' := 27) [.iinc 3 1] (by decide +kernel) (And.intro trivial ?_)
        refine gt_ hX (-23) 4 (by decide +kernel) (by decide) ?_
        refine z_lvk (lv' := [(0, _), (1, _), (2, _), (3, _)]) [1, 2, 3, 0] rfl ?_
        rw [nI_add]
        first
          | (have e : gc g p = c := nI_inj (by omega) (by omega) c19
             have ep : p = wh (gc g) c := hg.2.2 _ _ hpn w1 (e.trans w2.symm)
             have e2 : p = (if wh (gc g) c < p + 1 then wh (gc g) c else 0) := by rw [if_pos (by omega)]; exact ep
             have K1 := ih (p + 1) (by omega)
             rw [← e2] at K1
             exact K1)
          | (have e : ¬ gc g p = c := fun z => c19 (by rw [z])
             have ep : ¬ wh (gc g) c = p := fun z => e (by rw [← z]; exact w2)
             have e2 : (if wh (gc g) c < p then wh (gc g) c else 0) = (if wh (gc g) c < p + 1 then wh (gc g) c else 0) := by
               by_cases z : wh (gc g) c < p
               · rw [if_pos z, if_pos (by omega)]
               · rw [if_neg z, if_neg (by omega)]
             rw [e2]
             exact ih (p + 1) (by omega))
      · refine bk hX lkX1_ok (pc' := 27) [.iload_n 3, .istore_n 2, .iinc 3 1] (by decide +kernel) (And.intro trivial ?_)
        refine gt_ hX (-23) 4 (by decide +kernel) (by decide) ?_
        refine z_lvk (lv' := [(0, _), (1, _), (2, _), (3, _)]) [2, 3, 1, 0] rfl ?_
        rw [nI_add]
        first
          | (have e : gc g p = c := nI_inj (by omega) (by omega) c19
             have ep : p = wh (gc g) c := hg.2.2 _ _ hpn w1 (e.trans w2.symm)
             have e2 : p = (if wh (gc g) c < p + 1 then wh (gc g) c else 0) := by rw [if_pos (by omega)]; exact ep
             have K1 := ih (p + 1) (by omega)
             rw [← e2] at K1
             exact K1)
          | (have e : ¬ gc g p = c := fun z => c19 (by rw [z])
             have ep : ¬ wh (gc g) c = p := fun z => e (by rw [← z]; exact w2)
             have e2 : (if wh (gc g) c < p then wh (gc g) c else 0) = (if wh (gc g) c < p + 1 then wh (gc g) c else 0) := by
               by_cases z : wh (gc g) c < p
               · rw [if_pos z, if_pos (by omega)]
               · rw [if_neg z, if_neg (by omega)]
             rw [e2]
             exact ih (p + 1) (by omega))
  refine bk hX lkX1_ok (pc' := 4) [.iconst 0, .istore_n 2, .iconst 0, .istore_n 3] (by decide +kernel) (And.intro trivial ?_)
  refine z_lvk (lv' := [(0, _), (1, _), (2, _), (3, _)]) [2, 3, 1, 0] rfl ?_
  have K1 := hl (gn g) 0 (by omega)
  rw [if_neg (Nat.not_lt_zero _)] at K1
  exact K1
theorem c_G4_ringOf (E : zE) (K N : Nat → Nat) (Rf : Nat → Nat → Option Nat) (I : Nat → Nat → Int32) (L : Nat → Nat → Int64) {g : Gv} (hg : gwf g) (hG : xG 340 g K Rf I) {p : Nat} (hp : p < gn g) : zCt E mX1_ringOf 0 0 0 (sg K N Rf I L) [.ref 340, .int (nI p)] (fun r σ' => σ' = (sg K N Rf I L) ∧ r = some (.int (nI (rg (gc g) p)))) := by
  have h6 := hg.1
  have hc : ∀ q, q < gn g → gc g q < gn g := fun q hq => (hg.2.1 q hq).2.2.1
  have ec : ∀ q, q < gn g → I 343 q = nI (gc g q) := fun q hq => (hG.2.2.2 q hq).2.1
  obtain ⟨k, hk, he⟩ := itN_ret hc hg.2.2 hp
  have ek : rg (gc g) p = rgL (gc g) p k (gc g p) 1 := rgL_of k 6 _ _ he (by omega)
  refine z_intro (by decide) (Nat.le_of_ble_eq_true rfl) (fun X hX => ?_)
  have hl : ∀ m o l, o < gn g → itN (gc g) m o = p → m + l ≤ gn g → rgL (gc g) p m o l = rg (gc g) p → zS X (sg K N Rf I L) 0 0 9 [(0, .ref 340), (1, .int (nI p)), (2, .int (nI l)), (3, .int (nI o))] [] := by
    intro m
    induction m with
    | zero =>
      intro o l ho hi hm hr
      obtain rfl : o = p := hi
      refine bk hX lkX1_ok (pc' := 11) [.iload_n 3, .iload_n 1] (by decide +kernel) (And.intro trivial ?_)
      refine ic_eq hX (24) 35 (by decide +kernel) (by decide) (fun c_11 => ?_) (fun c => absurd (rfl) c)
      refine bk hX lkX1_ok (pc' := 36) [.iload_n 2] (by decide +kernel) (And.intro trivial ?_)
      exact z_iret hX (by decide +kernel) rfl (rfl) (by decide) (by decide) (by rw [← hr]; exact ⟨rfl, rfl⟩)
    | succ m ih =>
      intro o l ho hi hm hr
      unfold rgL at hr
      refine bk hX lkX1_ok (pc' := 11) [.iload_n 3, .iload_n 1] (by decide +kernel) (And.intro trivial ?_)
      refine ic_eq hX (24) 35 (by decide +kernel) (by decide) (fun c11 => ?_) (fun c11 => ?_)
      · refine bk hX lkX1_ok (pc' := 36) [.iload_n 2] (by decide +kernel) (And.intro trivial ?_)
        exact z_iret hX (by decide +kernel) rfl (rfl) (by decide) (by decide) (by rw [← hr, if_pos (nI_inj (by omega) (by omega) c11)]; exact ⟨rfl, rfl⟩)
      · refine bk hX lkX1_ok (pc' := 19) [.iload_n 2, .aload_n 0, .getfield 56] (by decide +kernel) (And.intro trivial ?_)
        rw [hG.1]
        refine ic_ge hX (16) 35 (by decide +kernel) (by decide) (fun c => absurd c (nI_ge (by omega) (by omega))) (fun c_19 => ?_)
        refine bk hX lkX1_ok (pc' := 32) [.iinc 2 1, .aload_n 0, .getfield 21, .iload_n 3, .iaload, .istore_n 3] (by decide +kernel) (And.intro (by exact vin 6 (by omega)) (And.intro trivial ?_))
        refine gt_ hX (-23) 9 (by decide +kernel) (by decide) ?_
        refine z_lvk (lv' := [(0, _), (1, _), (2, _), (3, _)]) [2, 3, 1, 0] rfl ?_
        rw [if_neg (fun z => c11 (by rw [z]))] at hr
        rw [cl (show o < 2 ^ 31 by omega), show I (340 + 1 + 2) o = _ from ec o ho, nI_add]
        exact ih (gc g o) (l + 1) (hc o ho) hi (by omega) hr
  refine bk hX lkX1_ok (pc' := 9) [.iconst 1, .istore_n 2, .aload_n 0, .getfield 21, .iload_n 1, .iaload, .istore_n 3] (by decide +kernel) (And.intro (by exact vin 6 (by omega)) (And.intro trivial ?_))
  refine z_lvk (lv' := [(0, _), (1, _), (2, _), (3, _)]) [2, 3, 1, 0] rfl ?_
  rw [cl (show p < 2 ^ 31 by omega), show I (340 + 1 + 2) p = _ from ec p hp]
  exact hl k (gc g p) 1 (hc p hp) he (by omega) ek.symm
theorem c_G4_allHoles (E : zE) (K N : Nat → Nat) (Rf : Nat → Nat → Option Nat) (I : Nat → Nat → Int32) (L : Nat → Nat → Int64) {g : Gv} (hg : gwf g) (hG : xG 340 g K Rf I) : zCt E mX1_allHoles 1 0 0 (sg K N Rf I L) [.ref 340] (fun r σ' => σ' = (sg K N Rf I L) ∧ r = some (.int (nI (ahN g (gn g))))) := by
  have h6 := hg.1
  refine z_intro (by decide) (Nat.le_of_ble_eq_true rfl) (fun X hX => ?_)
  have hl : ∀ m j, j + m = gn g → zS X (sg K N Rf I L) 0 0 4 [(0, .ref 340), (1, .int (nI (ahN g j))), (2, .int (nI j))] [] := by
    intro m
    induction m with
    | zero =>
      intro j hj
      obtain rfl : j = gn g := by omega
      refine bk hX lkX1_ok (pc' := 9) [.iload_n 2, .aload_n 0, .getfield 56] (by decide +kernel) (And.intro trivial ?_)
      rw [hG.1]
      refine ic_ge hX (21) 30 (by decide +kernel) (by decide) (fun c_9 => ?_) (fun c => absurd (nI_le (Nat.le_refl _) (by omega)) c)
      refine bk hX lkX1_ok (pc' := 31) [.iload_n 1] (by decide +kernel) (And.intro trivial ?_)
      exact z_iret hX (by decide +kernel) rfl (rfl) (by decide) (by decide) (⟨rfl, rfl⟩)
    | succ m ih =>
      intro j hj
      have hjn : j < gn g := by omega
      have eh : I 342 j = nI (gh g j) := (hG.2.2.2 j hjn).2.2.1
      have hh := (hg.2.1 j hjn).2.2.2.1
      refine bk hX lkX1_ok (pc' := 9) [.iload_n 2, .aload_n 0, .getfield 56] (by decide +kernel) (And.intro trivial ?_)
      rw [hG.1]
      refine ic_ge hX (21) 30 (by decide +kernel) (by decide) (fun c => absurd c (nI_ge (by omega) (by omega))) (fun c_9 => ?_)
      refine bk hX lkX1_ok (pc' := 19) [.iload_n 1, .aload_n 0, .getfield 17, .iload_n 2, .iaload] (by decide +kernel) (And.intro (by exact vin 6 (by omega)) (And.intro trivial ?_))
      simp only [cl (show j < 2 ^ 31 by omega), eh]
      refine z_callS hX kw_X1_74 (c_J_bitCount E _ hh) rfl rfl (by decide +kernel) (by decide) (by decide) (by decide) (by decide) (Nat.le_of_ble_eq_true rfl) ?_
      rintro _ _ ⟨rfl, rfl⟩
      refine bk hX lkX1_ok (pc' := 27) [.iadd, .istore_n 1, .iinc 2 1] (by decide +kernel) (And.intro trivial ?_)
      refine gt_ hX (-23) 4 (by decide +kernel) (by decide) ?_
      refine z_lvk (lv' := [(0, _), (1, _), (2, _)]) [2, 1, 0] rfl ?_
      rw [nI_add, nI_add]
      exact ih (j + 1) (by omega)
  refine bk hX lkX1_ok (pc' := 4) [.iconst 0, .istore_n 1, .iconst 0, .istore_n 2] (by decide +kernel) (And.intro trivial ?_)
  refine z_lvk (lv' := [(0, _), (1, _), (2, _)]) [2, 1, 0] rfl ?_
  exact hl (gn g) 0 (by omega)
theorem c_G4_mostHoles (E : zE) (K N : Nat → Nat) (Rf : Nat → Nat → Option Nat) (I : Nat → Nat → Int32) (L : Nat → Nat → Int64) {g : Gv} (hg : gwf g) (hG : xG 340 g K Rf I) : zCt E mX1_mostHoles 1 0 0 (sg K N Rf I L) [.ref 340] (fun r σ' => σ' = (sg K N Rf I L) ∧ r = some (.int (nI (mxN g (gn g))))) := by
  have h6 := hg.1
  refine z_intro (by decide) (Nat.le_of_ble_eq_true rfl) (fun X hX => ?_)
  have hl : ∀ m j, j + m = gn g → zS X (sg K N Rf I L) 0 0 4 [(0, .ref 340), (1, .int (nI (mxN g j))), (2, .int (nI j))] [] := by
    intro m
    induction m with
    | zero =>
      intro j hj
      obtain rfl : j = gn g := by omega
      refine bk hX lkX1_ok (pc' := 9) [.iload_n 2, .aload_n 0, .getfield 56] (by decide +kernel) (And.intro trivial ?_)
      rw [hG.1]
      refine ic_ge hX (23) 32 (by decide +kernel) (by decide) (fun c_9 => ?_) (fun c => absurd (nI_le (Nat.le_refl _) (by omega)) c)
      refine bk hX lkX1_ok (pc' := 33) [.iload_n 1] (by decide +kernel) (And.intro trivial ?_)
      exact z_iret hX (by decide +kernel) rfl (rfl) (by decide) (by decide) (⟨rfl, rfl⟩)
    | succ m ih =>
      intro j hj
      have hjn : j < gn g := by omega
      have eh : I 342 j = nI (gh g j) := (hG.2.2.2 j hjn).2.2.1
      have hh := (hg.2.1 j hjn).2.2.2.1
      refine bk hX lkX1_ok (pc' := 9) [.iload_n 2, .aload_n 0, .getfield 56] (by decide +kernel) (And.intro trivial ?_)
      rw [hG.1]
      refine ic_ge hX (23) 32 (by decide +kernel) (by decide) (fun c => absurd c (nI_ge (by omega) (by omega))) (fun c_9 => ?_)
      refine bk hX lkX1_ok (pc' := 19) [.iload_n 1, .aload_n 0, .getfield 17, .iload_n 2, .iaload] (by decide +kernel) (And.intro (by exact vin 6 (by omega)) (And.intro trivial ?_))
      simp only [cl (show j < 2 ^ 31 by omega), eh]
      refine z_callS hX kw_X1_74 (c_J_bitCount E _ hh) rfl rfl (by decide +kernel) (by decide) (by decide) (by decide) (by decide) (Nat.le_of_ble_eq_true rfl) ?_
      rintro _ _ ⟨rfl, rfl⟩
      refine z_mmax hX km_X1_79 (by decide) (Nat.le_of_ble_eq_true rfl) (by decide) (by decide) (by decide +kernel) ?_
      refine bk hX lkX1_ok (pc' := 29) [.istore_n 1, .iinc 2 1] (by decide +kernel) (And.intro trivial ?_)
      refine gt_ hX (-25) 4 (by decide +kernel) (by decide) ?_
      refine z_lvk (lv' := [(0, _), (1, _), (2, _)]) [2, 1, 0] rfl ?_
      rw [nI_add]
      have hx := mxN_le g j
      have hx2 := pcN_le (gh g j) 10
      have e2 : (if nI (mxN g j) < nI (pcN (gh g j) 10) then nI (pcN (gh g j) 10) else nI (mxN g j)) = nI (mxN g (j + 1)) := by
        show _ = nI (if mxN g j < pcN (gh g j) 10 then pcN (gh g j) 10 else mxN g j)
        by_cases z : mxN g j < pcN (gh g j) 10
        · rw [if_pos z, if_pos ((nI_ltI (by omega) (by omega)).mpr z)]
        · rw [if_neg z, if_neg (fun y => z ((nI_ltI (by omega) (by omega)).mp y))]
      rw [e2]
      exact ih (j + 1) (by omega)
  refine bk hX lkX1_ok (pc' := 4) [.iconst 0, .istore_n 1, .iconst 0, .istore_n 2] (by decide +kernel) (And.intro trivial ?_)
  refine z_lvk (lv' := [(0, _), (1, _), (2, _)]) [2, 1, 0] rfl ?_
  exact hl (gn g) 0 (by omega)
theorem c_G4_rowSlot (E : zE) (K N : Nat → Nat) (Rf : Nat → Nat → Option Nat) (I : Nat → Nat → Int32) (L : Nat → Nat → Int64) {g : Gv} (hg : gwf g) (hG : xG 340 g K Rf I) (hd : gd g < 2 ^ 30) {p : Nat} (hp : p < gn g) : zCt E mX1_rowSlot 0 0 0 (sg K N Rf I L) [.ref 340, .int (nI p)] (fun r σ' => σ' = (sg K N Rf I L) ∧ r = some (.int (nI (gr g (4 * p + gd g % 4))))) := by
  have h6 := hg.1
  have b4 : gd g % 4 < 4 := Nat.mod_lt _ (by decide)
  have m4 : nI (gd g) - nI (gd g) / nI 4 * nI 4 = nI (gd g % 4) := i_mod (by omega) (by decide) (by decide)
  have er : I 344 (4 * p + gd g % 4) = nI (gr g (4 * p + gd g % 4)) := (hG.2.2.2 p hp).2.2.2 _ b4
  have e6 : I 340 6 = nI (gd g) := hG.2.2.1
  refine z_intro (by decide) (Nat.le_of_ble_eq_true rfl) (fun X hX => ?_)
  refine bk hX lkX1_ok (pc' := 15) [.aload_n 0, .getfield 24, .iconst 4, .iload_n 1, .imul, .aload_n 0, .getfield 63, .iconst 4, .irem, .iadd, .iaload] (by decide +kernel) (And.intro (by decide) (And.intro (by simp only [e6, m4, pk_mul, nI_add]; exact vin 24 (by omega)) (And.intro trivial ?_)))
  exact z_iret hX (by decide +kernel) rfl (rfl) (by decide) (by decide) (by refine ⟨rfl, ?_⟩; simp only [e6, m4, pk_mul, nI_add, cl (show 4 * p + gd g % 4 < 2 ^ 31 by omega), er])
