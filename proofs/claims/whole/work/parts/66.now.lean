/-! ===== the class's calls that touch what is now ===== -/
def nfr (n : Nat) (I I' : Nat → Nat → Int32) : Prop := (∀ q, q ≠ 300 → q ≠ 302 → q ≠ 303 → q ≠ 304 → I' q = I q) ∧ (∀ k, k ≠ 4 → k ≠ 5 → k ≠ 6 → I' 300 k = I 300 k) ∧ (∀ k, n ≤ k → I' 302 k = I 302 k) ∧ (∀ k, 4 * n ≤ k → I' 304 k = I 304 k)
theorem nfr_rf (n : Nat) (I : Nat → Nat → Int32) : nfr n I I := ⟨fun _ _ _ _ _ => rfl, fun _ _ _ _ => rfl, fun _ _ => rfl, fun _ _ => rfl⟩
theorem nfr_g {n : Nat} {I I' : Nat → Nat → Int32} (h : gfr 300 n I I') : nfr n I I' := ⟨fun q h0 h2 h3 _ => h.1 q h0 h2 h3, fun k _ h5 h6 => h.2.1 k h5 h6, h.2.2, fun k _ => by rw [h.1 304 (by decide) (by decide) (by decide)]⟩
theorem c_X_set (E : zE) (K N : Nat → Nat) (Rf : Nat → Nat → Option Nat) (I : Nat → Nat → Int32) (L : Nat → Nat → Int64) {g : Gv} (hg : gwf g) (hG : xG 300 g K Rf I) (c h : Int32) : zCt E mX11_set 1 0 0 (sg K N Rf I L) [.ref 200, .int c, .int h] (fun r σ' => ∃ I', σ' = sg K N Rf I' L ∧ r = some (.int (setS g c h).1) ∧ xG 300 (setS g c h).2 K Rf I' ∧ nfr (gn g) I I') := by
  have h6 := hg.1
  refine z_intro (by decide) (Nat.le_of_ble_eq_true rfl) (fun X hX => ?_)
  refine bk hX lkX11_ok (pc' := 2) [.aload_n 0, .iload_n 1] (by decide +kernel) (And.intro trivial ?_)
  refine z_callV hX kw_X11_77 (c_X_isWorker E K N Rf _ L _ hg.1 hG.1) rfl rfl rfl rfl rfl (by decide +kernel) (by decide) (by decide) (by decide) (by decide) (Nat.le_of_ble_eq_true rfl) ?_
  rintro _ _ ⟨rfl, hh⟩
  rcases hh with ⟨hw, rfl⟩ | ⟨hw, rfl⟩
  · refine if_ne hX (5) 10 (by decide +kernel) (by decide) (fun c_5 => ?_) (fun c => absurd c (by decide))
    refine bk hX lkX11_ok (pc' := 11) [.iload_n 2] (by decide +kernel) (And.intro trivial ?_)
    refine z_callS hX kw_X11_120 (c_X_areHoles E _ _) rfl rfl (by decide +kernel) (by decide) (by decide) (by decide) (by decide) (Nat.le_of_ble_eq_true rfl) ?_
    rintro _ _ ⟨rfl, hh⟩
    rcases hh with ⟨hh1, rfl⟩ | ⟨hh1, rfl⟩
    · refine if_ne hX (6) 20 (by decide +kernel) (by decide) (fun c_14 => ?_) (fun c => absurd c (by decide))
      obtain ⟨i, hi, rfl⟩ := isIn_ex hw (by omega)
      obtain ⟨j, hj, rfl⟩ := isIn_ex hh1 (by decide)
      have ci : (nI i).toNatClampNeg = i := cl (by omega)
      have eh : I 302 i = nI (gh g i) := (hG.2.2.2 i hi).2.2.1
      refine bk hX lkX11_ok (pc' := 41) [.aload_n 0, .getfield 12, .getfield 110, .iload_n 1, .iaload, .istore_n 3, .aload_n 0, .getfield 12, .getfield 110, .iload_n 1, .iload_n 2, .iastore, .iload_n 3] (by decide +kernel) (And.intro (by exact vin 6 (by omega)) (And.intro (by exact vin 6 (by omega)) (And.intro trivial ?_)))
      exact z_iret hX (by decide +kernel) rfl (rfl) (by decide) (by decide) (by
  rw [show setS g (nI i) (nI j) = (nI (gh g i), (gn g, gk g, gv g, gc g, upN (gh g) i j, gr g, ga g, gd g)) by rw [setS, if_pos hw, if_pos hh1, jx_nI (by omega), jx_nI (by omega)]]
  simp only [ci]
  refine ⟨up2 I 302 i (nI j), rfl, congrArg some (congrArg Value.int eh), ?_, ?_⟩
  · refine xG_mk hG (by rw [up2_ne _ _ _ (by decide)]) (by rw [up2_ne _ _ _ (by decide)]; exact hG.2.1) (by rw [up2_ne _ _ _ (by decide)]; exact hG.2.2.1) (fun q hq => up2_ne _ _ _ (by omega)) (up2_ne _ _ _ (by decide)) (fun q hq => by rw [up2_ne _ _ _ (by decide)]; exact (hG.2.2.2 q hq).2.1) (fun q hq => ?_)
    rw [up2_at]
    unfold upN
    split
    · rfl
    · exact (hG.2.2.2 q hq).2.2.1
  · exact ⟨fun q _ h2 _ _ => up2_ne _ _ _ h2, fun k _ _ _ => by rw [up2_ne _ _ _ (by decide)], fun k hk => by rw [up2_at, if_neg (by omega)], fun k _ => by rw [up2_ne _ _ _ (by decide)]⟩)
    · refine if_ne hX (6) 20 (by decide +kernel) (by decide) (fun c => absurd (by decide) c) (fun c_14 => ?_)
      refine bk hX lkX11_ok (pc' := 19) [.bipush (Int.negSucc 1)] (by decide +kernel) (And.intro trivial ?_)
      exact z_iret hX (by decide +kernel) rfl (rfl) (by decide) (by decide) (by
  rw [show setS g c h = (-nI 2, g) by simp [setS, hw, hh1]]
  exact ⟨I, rfl, rfl, hG, nfr_rf _ _⟩)
  · refine if_ne hX (5) 10 (by decide +kernel) (by decide) (fun c => absurd (by decide) c) (fun c_5 => ?_)
    refine bk hX lkX11_ok (pc' := 9) [.iconst (Int.negSucc 0)] (by decide +kernel) (And.intro trivial ?_)
    exact z_iret hX (by decide +kernel) rfl (rfl) (by decide) (by decide) (by
  rw [show setS g c h = (-nI 1, g) by simp [setS, hw]]
  exact ⟨I, rfl, rfl, hG, nfr_rf _ _⟩)
theorem c_X_swap (E : zE) (K N : Nat → Nat) (Rf : Nat → Nat → Option Nat) (I : Nat → Nat → Int32) (L : Nat → Nat → Int64) {g : Gv} (hg : gwf g) (hG : xG 300 g K Rf I) (x y : Int32) : zCt E mX11_swap 1 0 0 (sg K N Rf I L) [.ref 200, .int x, .int y] (fun r σ' => ∃ I', σ' = sg K N Rf I' L ∧ r = some (.int (swpS g x y).1) ∧ xG 300 (swpS g x y).2 K Rf I' ∧ nfr (gn g) I I') := by
  have h6 := hg.1
  refine z_intro (by decide) (Nat.le_of_ble_eq_true rfl) (fun X hX => ?_)
  refine bk hX lkX11_ok (pc' := 2) [.aload_n 0, .iload_n 1] (by decide +kernel) (And.intro trivial ?_)
  refine z_callV hX kw_X11_77 (c_X_isWorker E K N Rf _ L _ hg.1 hG.1) rfl rfl rfl rfl rfl (by decide +kernel) (by decide) (by decide) (by decide) (by decide) (Nat.le_of_ble_eq_true rfl) ?_
  rintro _ _ ⟨rfl, hh⟩
  rcases hh with ⟨hw, rfl⟩ | ⟨hw, rfl⟩
  · refine if_eq hX (11) 16 (by decide +kernel) (by decide) (fun c => absurd c (by decide)) (fun c_5 => ?_)
    refine bk hX lkX11_ok (pc' := 10) [.aload_n 0, .iload_n 2] (by decide +kernel) (And.intro trivial ?_)
    refine z_callV hX kw_X11_77 (c_X_isWorker E K N Rf _ L _ hg.1 hG.1) rfl rfl rfl rfl rfl (by decide +kernel) (by decide) (by decide) (by decide) (by decide) (Nat.le_of_ble_eq_true rfl) ?_
    rintro _ _ ⟨rfl, hh⟩
    rcases hh with ⟨hw2, rfl⟩ | ⟨hw2, rfl⟩
    · refine if_ne hX (5) 18 (by decide +kernel) (by decide) (fun c_13 => ?_) (fun c => absurd c (by decide))
      refine bk hX lkX11_ok (pc' := 20) [.iload_n 1, .iload_n 2] (by decide +kernel) (And.intro trivial ?_)
      refine ic_ne hX (6) 26 (by decide +kernel) (by decide) (fun c20 => ?_) (fun c20 => ?_)
      · obtain ⟨i, hi, rfl⟩ := isIn_ex hw (by omega)
        obtain ⟨j, hj, rfl⟩ := isIn_ex hw2 (by omega)
        have ci : (nI i).toNatClampNeg = i := cl (by omega)
        have hij : i ≠ j := fun z => c20 (by rw [z])
        have eh : I 303 j = nI (gc g j) := (hG.2.2.2 j hj).2.1
        refine bk hX lkX11_ok (pc' := 32) [.aload_n 0, .getfield 12, .iload_n 1, .iload_n 2] (by decide +kernel) (And.intro trivial ?_)
        refine z_callV hX kw_X11_123 (c_G3_exchange E K N Rf I L i j (by omega) (by omega)) rfl rfl rfl rfl rfl (by decide +kernel) (by decide) (by decide) (by decide) (by decide) (Nat.le_of_ble_eq_true rfl) ?_
        rintro _ _ ⟨rfl, rfl⟩
        refine bk hX lkX11_ok (pc' := 44) [.aload_n 0, .getfield 12, .getfield 84, .iload_n 1, .iaload] (by decide +kernel) (And.intro (by exact vin 6 (by omega)) (And.intro trivial ?_))
        exact z_iret hX (by decide +kernel) rfl (rfl) (by decide) (by decide) (by
  rw [show swpS g (nI i) (nI j) = (nI (gc g j), swG g i j) by rw [swpS, if_pos ⟨hw, hw2⟩, if_neg c20, jx_nI (by omega), jx_nI (by omega)]]
  refine ⟨_, rfl, ?_, xG_sw (b := 300) (by decide) hG hi hj, nfr_g (gfr_sw (b := 300) i j _ _)⟩
  congr 2
  rw [ci]
  show up2 (up2 I 303 i (I 303 j)) 303 j (I 303 i) 303 i = _
  rw [up2_at, if_neg hij, up2_self]
  exact eh)
      · refine bk hX lkX11_ok (pc' := 25) [.bipush (Int.negSucc 1)] (by decide +kernel) (And.intro trivial ?_)
        exact z_iret hX (by decide +kernel) rfl (rfl) (by decide) (by decide) (by
  rw [show swpS g x y = (-nI 2, g) by rw [swpS, if_pos ⟨hw, hw2⟩, if_pos c20]]
  exact ⟨I, rfl, rfl, hG, nfr_rf _ _⟩)
    · refine if_ne hX (5) 18 (by decide +kernel) (by decide) (fun c => absurd (by decide) c) (fun c_13 => ?_)
      refine bk hX lkX11_ok (pc' := 17) [.iconst (Int.negSucc 0)] (by decide +kernel) (And.intro trivial ?_)
      exact z_iret hX (by decide +kernel) rfl (rfl) (by decide) (by decide) (by
  have e : ¬ (isIn x (gn g) = true ∧ isIn y (gn g) = true) := by
    first
      | exact fun z => hw z.1
      | exact fun z => hw2 z.2
  rw [show swpS g x y = (-nI 1, g) by rw [swpS, if_neg e]]
  exact ⟨I, rfl, rfl, hG, nfr_rf _ _⟩)
  · refine if_eq hX (11) 16 (by decide +kernel) (by decide) (fun c_5 => ?_) (fun c => absurd (by decide) c)
    refine bk hX lkX11_ok (pc' := 17) [.iconst (Int.negSucc 0)] (by decide +kernel) (And.intro trivial ?_)
    exact z_iret hX (by decide +kernel) rfl (rfl) (by decide) (by decide) (by
  have e : ¬ (isIn x (gn g) = true ∧ isIn y (gn g) = true) := by
    first
      | exact fun z => hw z.1
      | exact fun z => hw2 z.2
  rw [show swpS g x y = (-nI 1, g) by rw [swpS, if_neg e]]
  exact ⟨I, rfl, rfl, hG, nfr_rf _ _⟩)
theorem c_X_stay (E : zE) (K N : Nat → Nat) (Rf : Nat → Nat → Option Nat) (I : Nat → Nat → Int32) (L : Nat → Nat → Int64) {g : Gv} (hg : gwf g) (hG : xG 300 g K Rf I) (x is : Int32) : zCt E mX11_stay 1 0 0 (sg K N Rf I L) [.ref 200, .int x, .int is] (fun r σ' => ∃ I', σ' = sg K N Rf I' L ∧ r = some (.int (stayS g x is).1) ∧ xG 300 (stayS g x is).2 K Rf I' ∧ nfr (gn g) I I') := by
  have h6 := hg.1
  refine z_intro (by decide) (Nat.le_of_ble_eq_true rfl) (fun X hX => ?_)
  refine bk hX lkX11_ok (pc' := 2) [.aload_n 0, .iload_n 1] (by decide +kernel) (And.intro trivial ?_)
  refine z_callV hX kw_X11_77 (c_X_isWorker E K N Rf _ L _ hg.1 hG.1) rfl rfl rfl rfl rfl (by decide +kernel) (by decide) (by decide) (by decide) (by decide) (Nat.le_of_ble_eq_true rfl) ?_
  rintro _ _ ⟨rfl, hh⟩
  rcases hh with ⟨hw, rfl⟩ | ⟨hw, rfl⟩
  · refine if_ne hX (5) 10 (by decide +kernel) (by decide) (fun c_5 => ?_) (fun c => absurd c (by decide))
    obtain ⟨i, hi, rfl⟩ := isIn_ex hw (by omega)
    refine bk hX lkX11_ok (pc' := 15) [.aload_n 0, .getfield 12, .iload_n 1] (by decide +kernel) (And.intro trivial ?_)
    refine z_callV hX kw_X11_96 (c_G3_isAtHome E K N Rf I L i) rfl rfl rfl rfl rfl (by decide +kernel) (by decide) (by decide) (by decide) (by decide) (Nat.le_of_ble_eq_true rfl) ?_
    rintro _ _ ⟨rfl, hh⟩
    rw [hG.2.1] at hh
    rcases hh with ⟨hb, rfl⟩ | ⟨hb, rfl⟩
    · refine if_eq hX (7) 25 (by decide +kernel) (by decide) (fun c => absurd c (by decide)) (fun c_18 => ?_)
      refine bk hX lkX11_ok (pc' := 22) [.iconst 1] (by decide +kernel) (And.intro trivial ?_)
      refine gt_ hX (4) 26 (by decide +kernel) (by decide) ?_
      refine bk hX lkX11_ok (pc' := 33) [.istore_n 3, .aload_n 0, .getfield 12, .iload_n 1, .iload_n 2] (by decide +kernel) (And.intro trivial ?_)
      refine z_callV hX kw_X11_127 (c_G3_keepAtHome E K N Rf I L (nI i) is) rfl rfl rfl rfl rfl (by decide +kernel) (by decide) (by decide) (by decide) (by decide) (Nat.le_of_ble_eq_true rfl) ?_
      rintro _ _ ⟨rfl, rfl⟩
      refine bk hX lkX11_ok (pc' := 37) [.iload_n 3] (by decide +kernel) (And.intro trivial ?_)
      exact z_iret hX (by decide +kernel) rfl (rfl) (by decide) (by decide) (by
  rw [show stayS g (nI i) is = (b2i (atB (ga g) i), homG g (nI i) is) by rw [stayS, if_pos hw, jx_nI (by omega)]]
  refine ⟨_, rfl, ?_, xG_home (b := 300) (by decide) hG (nI i) is, nfr_g (gfr_home (b := 300) _)⟩
  first
    | (rw [hb]; rfl)
    | (rw [Bool.eq_false_iff.mpr hb]; rfl))
    · refine if_eq hX (7) 25 (by decide +kernel) (by decide) (fun c_18 => ?_) (fun c => absurd (by decide) c)
      refine bk hX lkX11_ok (pc' := 33) [.iconst 0, .istore_n 3, .aload_n 0, .getfield 12, .iload_n 1, .iload_n 2] (by decide +kernel) (And.intro trivial ?_)
      refine z_callV hX kw_X11_127 (c_G3_keepAtHome E K N Rf I L (nI i) is) rfl rfl rfl rfl rfl (by decide +kernel) (by decide) (by decide) (by decide) (by decide) (Nat.le_of_ble_eq_true rfl) ?_
      rintro _ _ ⟨rfl, rfl⟩
      refine bk hX lkX11_ok (pc' := 37) [.iload_n 3] (by decide +kernel) (And.intro trivial ?_)
      exact z_iret hX (by decide +kernel) rfl (rfl) (by decide) (by decide) (by
  rw [show stayS g (nI i) is = (b2i (atB (ga g) i), homG g (nI i) is) by rw [stayS, if_pos hw, jx_nI (by omega)]]
  refine ⟨_, rfl, ?_, xG_home (b := 300) (by decide) hG (nI i) is, nfr_g (gfr_home (b := 300) _)⟩
  first
    | (rw [hb]; rfl)
    | (rw [Bool.eq_false_iff.mpr hb]; rfl))
  · refine if_ne hX (5) 10 (by decide +kernel) (by decide) (fun c => absurd (by decide) c) (fun c_5 => ?_)
    refine bk hX lkX11_ok (pc' := 9) [.iconst (Int.negSucc 0)] (by decide +kernel) (And.intro trivial ?_)
    exact z_iret hX (by decide +kernel) rfl (rfl) (by decide) (by decide) (by
  rw [show stayS g x is = (-nI 1, g) by simp [stayS, hw]]
  exact ⟨I, rfl, rfl, hG, nfr_rf _ _⟩)
theorem c_X_row (E : zE) (K N : Nat → Nat) (Rf : Nat → Nat → Option Nat) (I : Nat → Nat → Int32) (L : Nat → Nat → Int64) {g : Gv} (hg : gwf g) (hG : xG 300 g K Rf I) (x pt n : Int32) : zCt E mX11_row 1 0 0 (sg K N Rf I L) [.ref 200, .int x, .int pt, .int n] (fun r σ' => ∃ I', σ' = sg K N Rf I' L ∧ r = some (.int (rowS g x pt n).1) ∧ xG 300 (rowS g x pt n).2 K Rf I' ∧ nfr (gn g) I I') := by
  have h6 := hg.1
  refine z_intro (by decide) (Nat.le_of_ble_eq_true rfl) (fun X hX => ?_)
  refine bk hX lkX11_ok (pc' := 2) [.aload_n 0, .iload_n 1] (by decide +kernel) (And.intro trivial ?_)
  refine z_callV hX kw_X11_77 (c_X_isWorker E K N Rf _ L _ hg.1 hG.1) rfl rfl rfl rfl rfl (by decide +kernel) (by decide) (by decide) (by decide) (by decide) (Nat.le_of_ble_eq_true rfl) ?_
  rintro _ _ ⟨rfl, hh⟩
  rcases hh with ⟨hw, rfl⟩ | ⟨hw, rfl⟩
  · refine if_eq hX (12) 17 (by decide +kernel) (by decide) (fun c => absurd c (by decide)) (fun c_5 => ?_)
    refine bk hX lkX11_ok (pc' := 9) [.iload_n 2] (by decide +kernel) (And.intro trivial ?_)
    refine if_lt hX (8) 17 (by decide +kernel) (by decide) (fun c9 => ?_) (fun c9 => ?_)
    · refine bk hX lkX11_ok (pc' := 18) [.iconst (Int.negSucc 0)] (by decide +kernel) (And.intro trivial ?_)
      exact z_iret hX (by decide +kernel) rfl (rfl) (by decide) (by decide) (by
  have e : ¬ (isIn x (gn g) = true ∧ isIn pt 4 = true) := by
    first
      | exact fun z => hw z.1
      | exact fun z => isIn_f1 c9 z.2
      | exact fun z => isIn_ge (n := 4) (i_nlt.mp c14) (by decide) z.2
  rw [show rowS g x pt n = (-nI 1, g) by rw [rowS, if_neg e]]
  exact ⟨I, rfl, rfl, hG, nfr_rf _ _⟩)
    · refine bk hX lkX11_ok (pc' := 14) [.iload_n 2, .iconst 4] (by decide +kernel) (And.intro trivial ?_)
      refine ic_lt hX (5) 19 (by decide +kernel) (by decide) (fun c14 => ?_) (fun c14 => ?_)
      · have hpt : isIn pt 4 = true := isIn_lt c9 (i_nle.mpr c14) (by decide)
        refine bk hX lkX11_ok (pc' := 20) [.iload_n 3] (by decide +kernel) (And.intro trivial ?_)
        refine z_callS hX kw_X11_62 (c_X_isDigit E _ _) rfl rfl (by decide +kernel) (by decide) (by decide) (by decide) (by decide) (Nat.le_of_ble_eq_true rfl) ?_
        rintro _ _ ⟨rfl, hh⟩
        rcases hh with ⟨hd, rfl⟩ | ⟨hd, rfl⟩
        · refine if_ne hX (6) 29 (by decide +kernel) (by decide) (fun c_23 => ?_) (fun c => absurd c (by decide))
          obtain ⟨i, hi, rfl⟩ := isIn_ex hw (by omega)
          obtain ⟨p, hp, rfl⟩ := isIn_ex hpt (by decide)
          obtain ⟨v, hv, rfl⟩ := isIn_ex hd (by decide)
          have ci : (nI i).toNatClampNeg = i := cl (by omega)
          obtain ⟨⟨h, hr, hh⟩, -⟩ := hG.2.2.2 i hi
          have hks : (sg K N Rf I L).1 h = hci (gk g i) + 1 := by rw [← hh.2.1]; exact kF_hi K hh.1
          have hk6 := (hg.2.1 i hi).1
          have er : I 304 (4 * i + p) = nI (gr g (4 * i + p)) := (hG.2.2.2 i hi).2.2.2 p hp
          have cip : (nI (4 * i + p)).toNatClampNeg = 4 * i + p := cl (by omega)
          refine bk hX lkX11_ok (pc' := 37) [.aload_n 0, .getfield 12, .getfield 80, .iload_n 1] (by decide +kernel) (And.intro trivial ?_)
          refine z_aald hX (q := h) (rfl) (vin 6 (by omega)) (by rw [ci]; exact hr) (by decide +kernel) ?_
          refine vc_kind_X11 hX rfl hk6 hks (by decide +kernel) (by decide) (by decide) (by decide) (Nat.le_of_ble_eq_true rfl) ?_
          refine bk hX lkX11_ok (pc' := 43) [.bipush 6] (by decide +kernel) (And.intro trivial ?_)
          refine ic_eq hX (6) 49 (by decide +kernel) (by decide) (fun c43 => ?_) (fun c43 => ?_)
          · refine bk hX lkX11_ok (pc' := 81) [.iconst 4, .iload_n 1, .imul, .iload_n 2, .iadd, .istore 4, .aload_n 0, .getfield 12, .getfield 131, .iload 4, .iaload, .istore 5, .aload_n 0, .getfield 12, .getfield 131, .iload 4, .iload_n 3, .iastore, .iload 5] (by decide +kernel) (And.intro (by rw [pk_mul, nI_add]; exact vin 24 (show 4 * i + p < 24 by omega)) (And.intro (by rw [pk_mul, nI_add]; exact vin 24 (show 4 * i + p < 24 by omega)) (And.intro trivial ?_)))
            exact z_iret hX (by decide +kernel) rfl (rfl) (by decide) (by decide) (by
  have e : gk g i = 6 := nI_inj (by omega) (by decide) c43
  rw [show rowS g (nI i) (nI p) (nI v) = (nI (gr g (4 * i + p)), (gn g, gk g, gv g, gc g, gh g, upN (gr g) (4 * i + p) v, ga g, gd g)) by rw [rowS, if_pos ⟨hw, hpt⟩, if_pos hd, jx_nI (by omega), if_pos e, jx_nI (by omega), jx_nI (by omega)]]
  simp only [pk_mul, nI_add, cip]
  refine ⟨up2 I 304 (4 * i + p) (nI v), rfl, congrArg some (congrArg Value.int er), ?_, ?_⟩
  · obtain ⟨g1, g2, g3, g4⟩ := hG
    refine ⟨by rw [up2_ne _ _ _ (by decide)]; exact g1, by rw [up2_ne _ _ _ (by decide)]; exact g2, by rw [up2_ne _ _ _ (by decide)]; exact g3, fun q hq => ?_⟩
    obtain ⟨⟨hx, k1, k2⟩, k3, k4, k5⟩ := g4 q hq
    refine ⟨⟨hx, k1, xHd_I k2 (fun z hz => up2_ne _ _ _ (by omega))⟩, by rw [up2_ne _ _ _ (by decide)]; exact k3, by rw [up2_ne _ _ _ (by decide)]; exact k4, fun j hj => ?_⟩
    show up2 I 304 (4 * i + p) (nI v) 304 (4 * q + j) = nI (upN (gr g) (4 * i + p) v (4 * q + j))
    rw [up2_at]
    unfold upN
    split
    · rfl
    · exact k5 j hj
  · exact ⟨fun q _ _ _ h4 => up2_ne _ _ _ h4, fun k _ _ _ => by rw [up2_ne _ _ _ (by decide)], fun k _ => by rw [up2_ne _ _ _ (by decide)], fun k hk => by rw [up2_at, if_neg (by omega)]⟩)
          · refine bk hX lkX11_ok (pc' := 48) [.bipush (Int.negSucc 2)] (by decide +kernel) (And.intro trivial ?_)
            exact z_iret hX (by decide +kernel) rfl (rfl) (by decide) (by decide) (by
  have e : ¬ gk g i = 6 := fun z => c43 (by rw [z])
  rw [show rowS g (nI i) (nI p) (nI v) = (-nI 3, g) by rw [rowS, if_pos ⟨hw, hpt⟩, if_pos hd, jx_nI (by omega), if_neg e]]
  exact ⟨I, rfl, rfl, hG, nfr_rf _ _⟩)
        · refine if_ne hX (6) 29 (by decide +kernel) (by decide) (fun c => absurd (by decide) c) (fun c_23 => ?_)
          refine bk hX lkX11_ok (pc' := 28) [.bipush (Int.negSucc 1)] (by decide +kernel) (And.intro trivial ?_)
          exact z_iret hX (by decide +kernel) rfl (rfl) (by decide) (by decide) (by
  rw [show rowS g x pt n = (-nI 2, g) by simp [rowS, hw, hpt, hd]]
  exact ⟨I, rfl, rfl, hG, nfr_rf _ _⟩)
      · refine bk hX lkX11_ok (pc' := 18) [.iconst (Int.negSucc 0)] (by decide +kernel) (And.intro trivial ?_)
        exact z_iret hX (by decide +kernel) rfl (rfl) (by decide) (by decide) (by
  have e : ¬ (isIn x (gn g) = true ∧ isIn pt 4 = true) := by
    first
      | exact fun z => hw z.1
      | exact fun z => isIn_f1 c9 z.2
      | exact fun z => isIn_ge (n := 4) (i_nlt.mp c14) (by decide) z.2
  rw [show rowS g x pt n = (-nI 1, g) by rw [rowS, if_neg e]]
  exact ⟨I, rfl, rfl, hG, nfr_rf _ _⟩)
  · refine if_eq hX (12) 17 (by decide +kernel) (by decide) (fun c_5 => ?_) (fun c => absurd (by decide) c)
    refine bk hX lkX11_ok (pc' := 18) [.iconst (Int.negSucc 0)] (by decide +kernel) (And.intro trivial ?_)
    exact z_iret hX (by decide +kernel) rfl (rfl) (by decide) (by decide) (by
  have e : ¬ (isIn x (gn g) = true ∧ isIn pt 4 = true) := by
    first
      | exact fun z => hw z.1
      | exact fun z => isIn_f1 c9 z.2
      | exact fun z => isIn_ge (n := 4) (i_nlt.mp c14) (by decide) z.2
  rw [show rowS g x pt n = (-nI 1, g) by rw [rowS, if_neg e]]
  exact ⟨I, rfl, rfl, hG, nfr_rf _ _⟩)
theorem c_X_pass (E : zE) (K N : Nat → Nat) (Rf : Nat → Nat → Option Nat) (I : Nat → Nat → Int32) (L : Nat → Nat → Int64) {g : Gv} (hg : gwf g) (hG : xG 300 g K Rf I) {w : Wk} (hw0 : wok w) (hH : xH 300 w K N Rf I) (hd : gd g ≤ 9999) (x : Int32) : zCt E mX11_pass 6 0 0 (sg K N Rf I L) [.ref 200, .int x] (fun r σ' => ∃ I', σ' = sg K N Rf I' L ∧ r = some (.int (passS g (rdS w) x).1) ∧ xG 300 (passS g (rdS w) x).2 K Rf I' ∧ nfr (gn g) I I') := by
  have h6 := hg.1
  refine z_intro (by decide) (Nat.le_of_ble_eq_true rfl) (fun X hX => ?_)
  refine bk hX lkX11_ok (pc' := 1) [.iload_n 1] (by decide +kernel) (And.intro trivial ?_)
  refine z_callS hX kw_X11_177 (c_X_areDays E _ _) rfl rfl (by decide +kernel) (by decide) (by decide) (by decide) (by decide) (Nat.le_of_ble_eq_true rfl) ?_
  rintro _ _ ⟨rfl, hh⟩
  rcases hh with ⟨hw, rfl⟩ | ⟨hw, rfl⟩
  · refine if_ne hX (6) 10 (by decide +kernel) (by decide) (fun c_4 => ?_) (fun c => absurd c (by decide))
    obtain ⟨k, hk, rfl⟩ := isIn_ex hw (by decide)
    refine bk hX lkX11_ok (pc' := 22) [.aload_n 0, .getfield 12, .getfield 107, .sipush 9999, .iload_n 1, .isub] (by decide +kernel) (And.intro trivial ?_)
    rw [hG.2.2.1, show nI 9999 - nI k = nI (9999 - k) from pk_sub (by omega)]
    refine ic_le hX (6) 28 (by decide +kernel) (by decide) (fun c22 => ?_) (fun c22 => ?_)
    · have hle : gd g + k ≤ 9999 := by
        have := (nI_leI (by omega) (by omega)).mp c22
        omega
      refine bk hX lkX11_ok (pc' := 33) [.aload_n 0, .getfield 12, .iload_n 1] (by decide +kernel) (And.intro trivial ?_)
      refine z_callV hX kw_X11_180 (c_G3_goDays E K N Rf I L hg hG hw0 hH (k := k) (by omega) (by omega)) rfl rfl rfl rfl rfl (by decide +kernel) (by decide) (by decide) (by decide) (by decide) (Nat.le_of_ble_eq_true rfl) ?_
      rintro _ _ ⟨I2, rfl, rfl, y1, y2⟩
      refine bk hX lkX11_ok (pc' := 43) [.aload_n 0, .getfield 12, .getfield 107] (by decide +kernel) (And.intro trivial ?_)
      exact z_iret hX (by decide +kernel) rfl (rfl) (by decide) (by decide) (by
  rw [show passS g (rdS w) (nI k) = (nI (gd g + k), daysS (rdS w) k g) by rw [passS, if_pos hw, jx_nI (by omega), if_pos hle]]
  refine ⟨I2, rfl, ?_, y1, nfr_g y2⟩
  have := y1.2.2.1
  rw [gd_days] at this
  exact congrArg some (congrArg Value.int this))
    · refine bk hX lkX11_ok (pc' := 27) [.bipush (Int.negSucc 2)] (by decide +kernel) (And.intro trivial ?_)
      exact z_iret hX (by decide +kernel) rfl (rfl) (by decide) (by decide) (by
  have e : ¬ gd g + k ≤ 9999 := fun z => c22 (nI_le (by omega) (by omega))
  rw [show passS g (rdS w) (nI k) = (-nI 3, g) by rw [passS, if_pos hw, jx_nI (by omega), if_neg e]]
  exact ⟨I, rfl, rfl, hG, nfr_rf _ _⟩)
  · refine if_ne hX (6) 10 (by decide +kernel) (by decide) (fun c => absurd (by decide) c) (fun c_4 => ?_)
    refine bk hX lkX11_ok (pc' := 9) [.bipush (Int.negSucc 1)] (by decide +kernel) (And.intro trivial ?_)
    exact z_iret hX (by decide +kernel) rfl (rfl) (by decide) (by decide) (by
  rw [show passS g (rdS w) x = (-nI 2, g) by simp [passS, hw]]
  exact ⟨I, rfl, rfl, hG, nfr_rf _ _⟩)
def xTx (t : List Nat) (I : Nat → Nat → Int32) : Prop := I 200 5 = nI t.length ∧ t.length ≤ 100 ∧ ∀ k, k < t.length → I 205 k = nI (t.getD k 0)
def frY (Ps Fs : List Nat) (I I' : Nat → Nat → Int32) : Prop := (∀ q, q ∉ Ps → q ≠ 200 → I' q = I q) ∧ (∀ k, k ∉ Fs → I' 200 k = I 200 k)
theorem frY_rf (Ps Fs : List Nat) (I : Nat → Nat → Int32) : frY Ps Fs I I := ⟨fun _ _ _ => rfl, fun _ _ => rfl⟩
theorem ch_ok : ∀ j, j < 128 → vp_nar .char (((nI j).toUInt32 % 65536).toInt32) = nI j := by decide +kernel
theorem c_X_feed (E : zE) (K N : Nat → Nat) (Rf : Nat → Nat → Option Nat) (I : Nat → Nat → Int32) (L : Nat → Nat → Int64) {t : List Nat} (ht : xTx t I) (x : Int32) : zCt E mX11_feed 0 0 0 (sg K N Rf I L) [.ref 200, .int x] (fun r σ' => ∃ I', σ' = sg K N Rf I' L ∧ r = some (.int (feedS t x).1) ∧ xTx (feedS t x).2 I' ∧ frY [205] [5] I I') := by
  obtain ⟨t1, t2, t3⟩ := ht
  refine z_intro (by decide) (Nat.le_of_ble_eq_true rfl) (fun X hX => ?_)
  refine bk hX lkX11_ok (pc' := 1) [.iload_n 1] (by decide +kernel) (And.intro trivial ?_)
  refine if_lt hX (9) 10 (by decide +kernel) (by decide) (fun c1 => ?_) (fun c1 => ?_)
  · refine bk hX lkX11_ok (pc' := 12) [.bipush (Int.negSucc 1)] (by decide +kernel) (And.intro trivial ?_)
    exact z_iret hX (by decide +kernel) rfl (rfl) (by decide) (by decide) (by
  have e : ¬ isIn x 128 = true := by
    first
      | exact isIn_f1 c1
      | exact isIn_gt 127 (i_nle.mp c7)
  rw [show feedS t x = (-nI 2, t) by rw [feedS, if_neg e]]
  exact ⟨I, rfl, rfl, ⟨t1, t2, t3⟩, frY_rf _ _ _⟩)
  · refine bk hX lkX11_ok (pc' := 7) [.iload_n 1, .bipush 127] (by decide +kernel) (And.intro trivial ?_)
    refine ic_le hX (6) 13 (by decide +kernel) (by decide) (fun c7 => ?_) (fun c7 => ?_)
    · have hx : isIn x 128 = true := isIn_le 127 c1 (i_nlt.mpr c7)
      obtain ⟨j, hj, rfl⟩ := isIn_ex hx (by decide)
      refine bk hX lkX11_ok (pc' := 19) [.aload_n 0, .getfield 134, .bipush 100] (by decide +kernel) (And.intro trivial ?_)
      rw [t1]
      refine ic_lt hX (6) 25 (by decide +kernel) (by decide) (fun c19 => ?_) (fun c19 => ?_)
      · have hl : t.length < 100 := Nat.lt_of_not_le (fun z => absurd c19 (i_nlt.mpr (nI_le z (by omega))))
        have ct : (nI t.length).toNatClampNeg = t.length := cl (by omega)
        refine bk hX lkX11_ok (pc' := 50) [.aload_n 0, .getfield 24, .aload_n 0, .getfield 134, .iload_n 1, .i2c, .castore, .aload_n 0, .dup, .getfield 134, .iconst 1, .iadd, .putfield 134, .aload_n 0, .getfield 134] (by decide +kernel) (And.intro (by rw [t1]; exact vin 100 hl) (And.intro trivial ?_))
        exact z_iret hX (by decide +kernel) rfl (rfl) (by decide) (by decide) (by
  rw [show feedS t (nI j) = (nI (t.length + 1), t ++ [j]) by rw [feedS, if_pos hx, if_neg (by omega), jx_nI (by omega)]]
  simp only [t1, ct, ch_ok j hj]
  have e1 : up2 I 205 t.length (nI j) 200 5 = nI t.length := by rw [up2_ne _ _ _ (by decide)]; exact t1
  refine ⟨up2 (up2 I 205 t.length (nI j)) 200 5 (nI (t.length + 1)), ?_, ?_, ⟨by rw [up2_self]; simp, by simp; omega, fun k hk => ?_⟩, fun q hq h0 => ?_, fun k hk => ?_⟩
  · show ((kF K, nF N, up2 (up2 I 205 t.length (nI j)) 200 5 (up2 I 205 t.length (nI j) 200 5 + nI 1), L, rF Rf) : Sg) = _
    rw [e1, nI_add]
  · show some (Value.int (up2 (up2 I 205 t.length (nI j)) 200 5 (up2 I 205 t.length (nI j) 200 5 + nI 1) 200 5)) = _
    rw [e1, nI_add, up2_self]
  · rw [up2_ne _ _ _ (by decide), up2_at]
    rw [List.length_append] at hk
    by_cases e : k = t.length
    · rw [if_pos e, e]; simp
    · have hk2 : k < t.length := by simp at hk; omega
      rw [if_neg e, t3 k hk2, List.getD_eq_getElem?_getD, List.getD_eq_getElem?_getD, List.getElem?_append_left hk2]
  · rw [up2_ne _ _ _ h0, up2_ne _ _ _ (fun z => hq (by rw [z]; decide))]
  · rw [up2_at, if_neg (fun z => hk (by rw [z]; decide)), up2_ne _ _ _ (by decide)])
      · refine bk hX lkX11_ok (pc' := 24) [.bipush (Int.negSucc 3)] (by decide +kernel) (And.intro trivial ?_)
        exact z_iret hX (by decide +kernel) rfl (rfl) (by decide) (by decide) (by
  have e : t.length = 100 := Nat.le_antisymm t2 (Nat.le_of_not_lt (fun z => c19 (nI_lt (b := 100) z (by decide))))
  rw [show feedS t (nI j) = (-nI 4, t) by rw [feedS, if_pos hx, if_pos e]]
  exact ⟨I, rfl, rfl, ⟨t1, t2, t3⟩, frY_rf _ _ _⟩)
    · refine bk hX lkX11_ok (pc' := 12) [.bipush (Int.negSucc 1)] (by decide +kernel) (And.intro trivial ?_)
      exact z_iret hX (by decide +kernel) rfl (rfl) (by decide) (by decide) (by
  have e : ¬ isIn x 128 = true := by
    first
      | exact isIn_f1 c1
      | exact isIn_gt 127 (i_nle.mp c7)
  rw [show feedS t x = (-nI 2, t) by rw [feedS, if_neg e]]
  exact ⟨I, rfl, rfl, ⟨t1, t2, t3⟩, frY_rf _ _ _⟩)
theorem c_X_looked (E : zE) (K N : Nat → Nat) (Rf : Nat → Nat → Option Nat) (I : Nat → Nat → Int32) (L : Nat → Nat → Int64) {g : Gv} (hg : gwf g) (hG : xG 300 g K Rf I) {s : Rw} (hs : xBk 318 s I) (h8 : s.1 ≤ 8) (hws : wBk s g) : zCt E mX11_looked 0 0 0 (sg K N Rf I L) [.ref 200] (fun r σ' => σ' = (sg K N Rf I L) ∧ r = some (.int (lokL g s s.1 0))) := by
  have h6 := hg.1
  refine z_intro (by decide) (Nat.le_of_ble_eq_true rfl) (fun X hX => ?_)
  have hl : ∀ m k, k + m = s.1 → lokL g s m k = lokL g s s.1 0 → zS X (sg K N Rf I L) 0 0 10 [(0, .ref 200), (1, .ref 318), (2, .int (nI k))] [] := by
    intro m
    induction m with
    | zero =>
      intro k hk hf
      obtain rfl : k = s.1 := by omega
      refine bk hX lkX11_ok (pc' := 15) [.iload_n 2, .aload_n 1, .getfield 206] (by decide +kernel) (And.intro trivial ?_)
      rw [hs.1]
      refine ic_ge hX (34) 49 (by decide +kernel) (by decide) (fun c_15 => ?_) (fun c => absurd (nI_le (Nat.le_refl _) (by omega)) c)
      refine bk hX lkX11_ok (pc' := 51) [.bipush (Int.negSucc 4)] (by decide +kernel) (And.intro trivial ?_)
      exact z_iret hX (by decide +kernel) rfl (rfl) (by decide) (by decide) (by rw [← hf]; exact ⟨rfl, rfl⟩)
    | succ m ih =>
      intro k hk hf
      have hkn : k < s.1 := by omega
      have hf' : (if gh g (s.2.1 k) = s.2.2.1 k then lokL g s m (k + 1) else nI k) = lokL g s s.1 0 := hf
      obtain ⟨w1, w2⟩ := hws k hkn
      have ck : (nI k).toNatClampNeg = k := cl (by omega)
      have e1 : I 319 k = nI (s.2.1 k) := (hs.2 k hkn).1
      have e2 : I 320 k = nI (s.2.2.1 k) := (hs.2 k hkn).2
      have c1 : (nI (s.2.1 k)).toNatClampNeg = s.2.1 k := cl (by omega)
      have eh : I 302 (s.2.1 k) = nI (gh g (s.2.1 k)) := (hG.2.2.2 _ w1).2.2.1
      have hhl := (hg.2.1 _ w1).2.2.2.1
      refine bk hX lkX11_ok (pc' := 15) [.iload_n 2, .aload_n 1, .getfield 206] (by decide +kernel) (And.intro trivial ?_)
      rw [hs.1]
      refine ic_ge hX (34) 49 (by decide +kernel) (by decide) (fun c => absurd c (nI_ge (by omega) (by omega))) (fun c_15 => ?_)
      refine bk hX lkX11_ok (pc' := 38) [.aload_n 0, .getfield 12, .getfield 110, .aload_n 1, .getfield 227, .iload_n 2, .iaload, .iaload, .aload_n 1, .getfield 230, .iload_n 2, .iaload] (by decide +kernel) (And.intro (by exact vin 8 (by omega)) (And.intro (by simp only [ck, e1]; exact vin 6 (by omega)) (And.intro (by exact vin 8 (by omega)) (And.intro trivial ?_))))
      simp only [ck, e1, c1, eh, e2]
      refine ic_eq hX (5) 43 (by decide +kernel) (by decide) (fun c38 => ?_) (fun c38 => ?_)
      · refine bk hX lkX11_ok (pc' := 46) [.iinc 2 1] (by decide +kernel) (And.intro trivial ?_)
        refine gt_ hX (-36) 10 (by decide +kernel) (by decide) ?_
        refine z_lvk (lv' := [(0, _), (1, _), (2, _)]) [1, 2, 0] rfl ?_
        rw [nI_add]
        rw [if_pos (nI_inj (by omega) (by omega) c38)] at hf'
        exact ih (k + 1) (by omega) hf'
      · refine bk hX lkX11_ok (pc' := 42) [.iload_n 2] (by decide +kernel) (And.intro trivial ?_)
        exact z_iret hX (by decide +kernel) rfl (rfl) (by decide) (by decide) (by rw [← hf', if_neg (fun z => c38 (by rw [z]))]; exact ⟨rfl, rfl⟩)
  refine bk hX lkX11_ok (pc' := 10) [.aload_n 0, .getfield 12, .getfield 236, .astore_n 1, .iconst 0, .istore_n 2] (by decide +kernel) (And.intro trivial ?_)
  refine z_lvk (lv' := [(0, _), (1, _), (2, _)]) [2, 1, 0] rfl ?_
  exact hl s.1 0 (by omega) rfl
