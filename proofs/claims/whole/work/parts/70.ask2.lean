theorem sw8 (x : Int32) : x = nI 0 ∨ x = nI 1 ∨ x = nI 2 ∨ x = nI 3 ∨ x = nI 4 ∨ x = nI 5 ∨ x = nI 6 ∨ ¬ isIn x 7 = true := by
  by_cases h : isIn x 7 = true
  · obtain ⟨j, hj, rfl⟩ := isIn_ex h (by decide)
    rcases (show j = 0 ∨ j = 1 ∨ j = 2 ∨ j = 3 ∨ j = 4 ∨ j = 5 ∨ j = 6 by omega) with rfl | rfl | rfl | rfl | rfl | rfl | rfl <;> simp
  · exact Or.inr (Or.inr (Or.inr (Or.inr (Or.inr (Or.inr (Or.inr h))))))
theorem isIn_out {x : Int32} {n : Nat} (h : ¬ isIn x (n + 1) = true) : x.toInt < 0 ∨ (n : Int) < x.toInt := by
  unfold isIn at h
  rw [decide_eq_true_iff] at h
  omega
set_option maxHeartbeats 1000000 in
theorem c_X_told (E : zE) (K N : Nat → Nat) (Rf : Nat → Nat → Option Nat) (I : Nat → Nat → Int32) (L : Nat → Nat → Int64) {g : Gv} (hg : gwf g) {w : Wk} (hw0 : wok w) (hd : gd g ≤ 90000) (hN : xN g w K N Rf I) (x : Int32) : zCt E mX11_told 8 0 0 (sg K N Rf I L) [.ref 200, .int x] (fun r σ' => ∃ Rf' I', σ' = sg K N Rf' I' L ∧ r = some (.int (toldS g w x)) ∧ aR Rf Rf' ∧ aE I I') := by
  have h6 := hg.1
  have hG := hN.1
  refine z_intro (by decide) (Nat.le_of_ble_eq_true rfl) (fun X hX => ?_)
  refine bk hX lkX11_ok (pc' := 1) [.iload_n 1] (by decide +kernel) (And.intro trivial ?_)
  rcases sw8 x with rfl | rfl | rfl | rfl | rfl | rfl | rfl | h7
  · refine z_tsw hX 44 (dflt := 101) (lo := 0) (hi := 6) (offs := #[43, 51, 59, 67, 75, 91, 96]) (len := 43) (off := 43) (by decide +kernel) (by decide) (by decide) ?_
    refine bk hX lkX11_ok (pc' := 51) [.aload_n 0, .getfield 12, .getfield 107] (by decide +kernel) (And.intro trivial ?_)
    exact z_iret hX (by decide +kernel) rfl (rfl) (by decide) (by decide) (⟨Rf, I, rfl, by rw [show toldS g w (nI 0) = nI (gd g) by simp [toldS, isIn_f1 (n := gn g) (show nI 0 - nI 10 < 0 by decide), show isIn (nI 0) 7 = true by decide, show jx (nI 0) = 0 by decide]]; exact congrArg some (congrArg Value.int hG.2.2.1), aR_rf _, aE_rf _⟩)
  · refine z_tsw hX 52 (dflt := 101) (lo := 0) (hi := 6) (offs := #[43, 51, 59, 67, 75, 91, 96]) (len := 43) (off := 51) (by decide +kernel) (by decide) (by decide) ?_
    refine bk hX lkX11_ok (pc' := 56) [.aload_n 0, .getfield 12] (by decide +kernel) (And.intro trivial ?_)
    refine z_callV hX kw_X11_159 (c_G3_round E K N Rf I L hw0 hN.2.1) rfl rfl rfl rfl rfl (by decide +kernel) (by decide) (by decide) (by decide) (by decide) (Nat.le_of_ble_eq_true rfl) ?_
    rintro _ _ ⟨rfl, rfl⟩
    exact z_iret hX (by decide +kernel) rfl (rfl) (by decide) (by decide) (⟨Rf, I, rfl, by rw [show toldS g w (nI 1) = nI (rdS w) by simp [toldS, isIn_f1 (n := gn g) (show nI 1 - nI 10 < 0 by decide), show isIn (nI 1) 7 = true by decide, show jx (nI 1) = 1 by decide]], aR_rf _, aE_rf _⟩)
  · refine z_tsw hX 60 (dflt := 101) (lo := 0) (hi := 6) (offs := #[43, 51, 59, 67, 75, 91, 96]) (len := 43) (off := 59) (by decide +kernel) (by decide) (by decide) ?_
    refine bk hX lkX11_ok (pc' := 64) [.aload_n 0, .getfield 12] (by decide +kernel) (And.intro trivial ?_)
    refine z_callV hX kw_X11_162 (c_G3_allHoles E K N Rf I L hg hG) rfl rfl rfl rfl rfl (by decide +kernel) (by decide) (by decide) (by decide) (by decide) (Nat.le_of_ble_eq_true rfl) ?_
    rintro _ _ ⟨rfl, rfl⟩
    exact z_iret hX (by decide +kernel) rfl (rfl) (by decide) (by decide) (⟨Rf, I, rfl, by rw [show toldS g w (nI 2) = nI (ahN g (gn g)) by simp [toldS, isIn_f1 (n := gn g) (show nI 2 - nI 10 < 0 by decide), show isIn (nI 2) 7 = true by decide, show jx (nI 2) = 2 by decide]], aR_rf _, aE_rf _⟩)
  · refine z_tsw hX 68 (dflt := 101) (lo := 0) (hi := 6) (offs := #[43, 51, 59, 67, 75, 91, 96]) (len := 43) (off := 67) (by decide +kernel) (by decide) (by decide) ?_
    refine bk hX lkX11_ok (pc' := 72) [.aload_n 0, .getfield 12] (by decide +kernel) (And.intro trivial ?_)
    refine z_callV hX kw_X11_165 (c_G3_allTemper E K N Rf I L hg hG (by omega) hw0 hN.2.1) rfl rfl rfl rfl rfl (by decide +kernel) (by decide) (by decide) (by decide) (by decide) (Nat.le_of_ble_eq_true rfl) ?_
    rintro _ _ ⟨rfl, rfl⟩
    exact z_iret hX (by decide +kernel) rfl (rfl) (by decide) (by decide) (⟨Rf, I, rfl, by rw [show toldS g w (nI 3) = atN g w (gn g) by simp [toldS, isIn_f1 (n := gn g) (show nI 3 - nI 10 < 0 by decide), show isIn (nI 3) 7 = true by decide, show jx (nI 3) = 3 by decide]], aR_rf _, aE_rf _⟩)
  · refine z_tsw hX 76 (dflt := 101) (lo := 0) (hi := 6) (offs := #[43, 51, 59, 67, 75, 91, 96]) (len := 43) (off := 75) (by decide +kernel) (by decide) (by decide) ?_
    refine bk hX lkX11_ok (pc' := 87) [.aload_n 0, .getfield 12, .getfield 65, .aload_n 0, .getfield 12] (by decide +kernel) (And.intro trivial ?_)
    refine z_callV hX kw_X11_168 (c_G3_rings E K N Rf I L hg hG) rfl rfl rfl rfl rfl (by decide +kernel) (by decide) (by decide) (by decide) (by decide) (Nat.le_of_ble_eq_true rfl) ?_
    rintro _ _ ⟨rfl, rfl, hsw⟩
    refine bk hX lkX11_ok (pc' := 91) [.isub] (by decide +kernel) (And.intro trivial ?_)
    exact z_iret hX (by decide +kernel) rfl (rfl) (by decide) (by decide) (⟨Rf, I, rfl, by rw [show toldS g w (nI 4) = nI (swL (gc g) (gn g) 0 0 0) by simp [toldS, isIn_f1 (n := gn g) (show nI 4 - nI 10 < 0 by decide), show isIn (nI 4) 7 = true by decide, show jx (nI 4) = 4 by decide], show I 300 4 = _ from hG.1, pk_sub (by omega), show gn g - (gn g - swL (gc g) (gn g) 0 0 0) = swL (gc g) (gn g) 0 0 0 by omega], aR_rf _, aE_rf _⟩)
  · refine z_tsw hX 92 (dflt := 101) (lo := 0) (hi := 6) (offs := #[43, 51, 59, 67, 75, 91, 96]) (len := 43) (off := 91) (by decide +kernel) (by decide) (by decide) ?_
    refine bk hX lkX11_ok (pc' := 93) [.aload_n 0] (by decide +kernel) (And.intro trivial ?_)
    refine z_callV hX kw_X11_171 (c_X_firstSwap E K N Rf I L hg hw0 hd hN) rfl rfl rfl rfl rfl (by decide +kernel) (by decide) (by decide) (by decide) (by decide) (Nat.le_of_ble_eq_true rfl) ?_
    rintro _ _ ⟨rfl, rfl⟩
    exact z_iret hX (by decide +kernel) rfl (rfl) (by decide) (by decide) (⟨Rf, I, rfl, by rw [show toldS g w (nI 5) = fsL (gc g) (gn g) 0 by simp [toldS, isIn_f1 (n := gn g) (show nI 5 - nI 10 < 0 by decide), show isIn (nI 5) 7 = true by decide, show jx (nI 5) = 5 by decide]], aR_rf _, aE_rf _⟩)
  · refine z_tsw hX 97 (dflt := 101) (lo := 0) (hi := 6) (offs := #[43, 51, 59, 67, 75, 91, 96]) (len := 43) (off := 96) (by decide +kernel) (by decide) (by decide) ?_
    refine bk hX lkX11_ok (pc' := 98) [.aload_n 0] (by decide +kernel) (And.intro trivial ?_)
    refine z_callV hX kw_X11_174 (c_X_sparingSwap E K N Rf I L hg hw0 hd hN) rfl rfl rfl rfl rfl (by decide +kernel) (by decide) (by decide) (by decide) (by decide) (Nat.le_of_ble_eq_true rfl) ?_
    rintro _ _ ⟨R2, I2, rfl, rfl, z1, z2⟩
    exact z_iret hX (by decide +kernel) rfl (rfl) (by decide) (by decide) (⟨R2, I2, rfl, by rw [show toldS g w (nI 6) = trS g (rdS w) by simp [toldS, isIn_f1 (n := gn g) (show nI 6 - nI 10 < 0 by decide), show isIn (nI 6) 7 = true by decide, show jx (nI 6) = 6 by decide]], z1, z2⟩)
  · refine z_tsw hX 102 (dflt := 101) (lo := 0) (hi := 6) (offs := #[43, 51, 59, 67, 75, 91, 96]) (len := 43) (off := 101) (by decide +kernel) (Or.inl ⟨isIn_out (n := 6) h7, rfl⟩) (by decide) ?_
    refine bk hX lkX11_ok (pc' := 107) [.aload_n 0, .iload_n 1, .bipush 10, .isub] (by decide +kernel) (And.intro trivial ?_)
    refine z_callV hX kw_X11_77 (c_X_isWorker E K N _ _ L _ hg.1 hN.1.1) rfl rfl rfl rfl rfl (by decide +kernel) (by decide) (by decide) (by decide) (by decide) (Nat.le_of_ble_eq_true rfl) ?_
    rintro _ _ ⟨rfl, hh⟩
    rcases hh with ⟨hw, rfl⟩ | ⟨hw, rfl⟩
    · refine if_eq hX (18) 128 (by decide +kernel) (by decide) (fun c => absurd c (by decide)) (fun c_110 => ?_)
      obtain ⟨i, hi, he⟩ := isIn_ex hw (by omega)
      have ci : (nI i).toNatClampNeg = i := cl (by omega)
      have eh : I 302 i = nI (gh g i) := (hG.2.2.2 i hi).2.2.1
      refine bk hX lkX11_ok (pc' := 125) [.aload_n 0, .getfield 12, .getfield 110, .iload_n 1, .bipush 10, .isub, .iaload] (by decide +kernel) (And.intro (by rw [he]; exact vin 6 (by omega)) (And.intro trivial ?_))
      refine gt_ hX (6) 131 (by decide +kernel) (by decide) ?_
      exact z_iret hX (by decide +kernel) rfl (rfl) (by decide) (by decide) (by
  first
    | (refine ⟨Rf, I, rfl, ?_, aR_rf _, aE_rf _⟩
       rw [show toldS g w x = nI (gh g i) by rw [toldS, if_pos hw, he, jx_nI (by omega)], he, ci]
       exact congrArg some (congrArg Value.int eh))
    | (refine ⟨Rf, I, rfl, ?_, aR_rf _, aE_rf _⟩
       rw [show toldS g w x = -nI 1001 by rw [toldS, if_neg hw, if_neg h7]]))
    · refine if_eq hX (18) 128 (by decide +kernel) (by decide) (fun c_110 => ?_) (fun c => absurd (by decide) c)
      refine bk hX lkX11_ok (pc' := 131) [.sipush (Int.negSucc 1000)] (by decide +kernel) (And.intro trivial ?_)
      exact z_iret hX (by decide +kernel) rfl (rfl) (by decide) (by decide) (by
  first
    | (refine ⟨Rf, I, rfl, ?_, aR_rf _, aE_rf _⟩
       rw [show toldS g w x = nI (gh g i) by rw [toldS, if_pos hw, he, jx_nI (by omega)], he, ci]
       exact congrArg some (congrArg Value.int eh))
    | (refine ⟨Rf, I, rfl, ?_, aR_rf _, aE_rf _⟩
       rw [show toldS g w x = -nI 1001 by rw [toldS, if_neg hw, if_neg h7]]))
set_option maxHeartbeats 1000000 in
theorem c_X_of (E : zE) (K N : Nat → Nat) (Rf : Nat → Nat → Option Nat) (I : Nat → Nat → Int32) (L : Nat → Nat → Int64) {g : Gv} (hg : gwf g) {w : Wk} (hw0 : wok w) (hd : gd g ≤ 90000) (hN : xN g w K N Rf I) (x what : Int32) : zCt E mX11_of 4 0 0 (sg K N Rf I L) [.ref 200, .int x, .int what] (fun r σ' => ∃ Rf' I', σ' = sg K N Rf' I' L ∧ r = some (.int (ofS g w x what)) ∧ aR Rf Rf' ∧ aE I I') := by
  have h6 := hg.1
  have hG := hN.1
  refine z_intro (by decide) (Nat.le_of_ble_eq_true rfl) (fun X hX => ?_)
  refine bk hX lkX11_ok (pc' := 2) [.aload_n 0, .iload_n 1] (by decide +kernel) (And.intro trivial ?_)
  refine z_callV hX kw_X11_77 (c_X_isWorker E K N _ _ L _ hg.1 hN.1.1) rfl rfl rfl rfl rfl (by decide +kernel) (by decide) (by decide) (by decide) (by decide) (Nat.le_of_ble_eq_true rfl) ?_
  rintro _ _ ⟨rfl, hh⟩
  rcases hh with ⟨hw, rfl⟩ | ⟨hw, rfl⟩
  · refine if_ne hX (7) 12 (by decide +kernel) (by decide) (fun c_5 => ?_) (fun c => absurd c (by decide))
    obtain ⟨i, hi, rfl⟩ := isIn_ex hw (by omega)
    have ci : (nI i).toNatClampNeg = i := cl (by omega)
    obtain ⟨⟨h, hr, hh⟩, ec, -, er⟩ := hG.2.2.2 i hi
    have hks : (sg K N Rf I L).1 h = hci (gk g i) + 1 := by rw [← hh.2.1]; exact kF_hi K hh.1
    have hk6 := (hg.2.1 i hi).1
    have hcn := (hg.2.1 i hi).2.2.1
    have ec : I 303 i = nI (gc g i) := ec
    have eh : I 302 (gc g i) = nI (gh g (gc g i)) := (hG.2.2.2 _ hcn).2.2.1
    have hhl := (hg.2.1 _ hcn).2.2.2.1
    have hr9 : gr g (4 * i + gd g % 4) ≤ 9 := (hg.2.1 i hi).2.2.2.2 _ (Nat.mod_lt _ (by decide))
    refine bk hX lkX11_ok (pc' := 20) [.aload_n 0, .getfield 12, .getfield 80, .iload_n 1] (by decide +kernel) (And.intro trivial ?_)
    refine z_aald hX (q := h) (rfl) (vin 6 (by omega)) (by rw [ci]; exact hr) (by decide +kernel) ?_
    refine bk hX lkX11_ok (pc' := 33) [.astore_n 3, .aload_n 0, .getfield 12, .getfield 84, .iload_n 1, .iaload, .istore 4] (by decide +kernel) (And.intro (by exact vin 6 (by omega)) (And.intro trivial ?_))
    simp only [ci, ec]
    refine bk hX lkX11_ok (pc' := 34) [.iload_n 2] (by decide +kernel) (And.intro trivial ?_)
    rcases sw8 what with rfl | rfl | rfl | rfl | rfl | rfl | rfl | h7
    · refine z_tsw hX 76 (dflt := 122) (lo := 0) (hi := 6) (offs := #[42, 47, 52, 69, 72, 81, 92]) (len := 42) (off := 42) (by decide +kernel) (by decide) (by decide) ?_
      refine bk hX lkX11_ok (pc' := 77) [.aload_n 3] (by decide +kernel) (And.intro trivial ?_)
      refine vc_kind_X11 hX rfl hk6 hks (by decide +kernel) (by decide) (by decide) (by decide) (Nat.le_of_ble_eq_true rfl) ?_
      exact z_iret hX (by decide +kernel) rfl (rfl) (by decide) (by decide) (⟨Rf, I, rfl, by rw [show ofS g w (nI i) (nI 0) = nI (gk g i) by simp [ofS, hw, isIn_f1 (n := gn g) (show nI 0 - nI 10 < 0 by decide), show isIn (nI 0) 7 = true by decide, show jx (nI 0) = 0 by decide, jx_nI (show i < 2 ^ 31 by omega)]], aR_rf _, aE_rf _⟩)
    · refine z_tsw hX 81 (dflt := 122) (lo := 0) (hi := 6) (offs := #[42, 47, 52, 69, 72, 81, 92]) (len := 42) (off := 47) (by decide +kernel) (by decide) (by decide) ?_
      refine bk hX lkX11_ok (pc' := 82) [.aload_n 3] (by decide +kernel) (And.intro trivial ?_)
      refine z_gIe hX (fh_X11_93 (gk g i) hk6) (hks) (by decide +kernel) ?_
      exact z_iret hX (by decide +kernel) rfl (rfl) (by decide) (by decide) (⟨Rf, I, rfl, by rw [show ofS g w (nI i) (nI 1) = nI (gv g i) by simp [ofS, hw, isIn_f1 (n := gn g) (show nI 1 - nI 10 < 0 by decide), show isIn (nI 1) 7 = true by decide, show jx (nI 1) = 1 by decide, jx_nI (show i < 2 ^ 31 by omega)]]; exact congrArg some (congrArg Value.int hh.2.2.2), aR_rf _, aE_rf _⟩)
    · refine z_tsw hX 86 (dflt := 122) (lo := 0) (hi := 6) (offs := #[42, 47, 52, 69, 72, 81, 92]) (len := 42) (off := 52) (by decide +kernel) (by decide) (by decide) ?_
      refine bk hX lkX11_ok (pc' := 91) [.aload_n 0, .getfield 12, .iload_n 1] (by decide +kernel) (And.intro trivial ?_)
      refine z_callV hX kw_X11_96 (c_G3_isAtHome E K N Rf I L i) rfl rfl rfl rfl rfl (by decide +kernel) (by decide) (by decide) (by decide) (by decide) (Nat.le_of_ble_eq_true rfl) ?_
      rintro _ _ ⟨rfl, hh⟩
      rw [hG.2.1] at hh
      rcases hh with ⟨hb, rfl⟩ | ⟨hb, rfl⟩
      · refine if_eq hX (7) 101 (by decide +kernel) (by decide) (fun c => absurd c (by decide)) (fun c_94 => ?_)
        refine bk hX lkX11_ok (pc' := 98) [.iconst 1] (by decide +kernel) (And.intro trivial ?_)
        refine gt_ hX (4) 102 (by decide +kernel) (by decide) ?_
        exact z_iret hX (by decide +kernel) rfl (rfl) (by decide) (by decide) (by
  refine ⟨Rf, I, rfl, ?_, aR_rf _, aE_rf _⟩
  rw [show ofS g w (nI i) (nI 2) = b2i (atB (ga g) i) by simp [ofS, hw, isIn_f1 (n := gn g) (show nI 2 - nI 10 < 0 by decide), show isIn (nI 2) 7 = true by decide, show jx (nI 2) = 2 by decide, jx_nI (show i < 2 ^ 31 by omega)]]
  first
    | (rw [hb]; rfl)
    | (rw [Bool.eq_false_iff.mpr hb]; rfl))
      · refine if_eq hX (7) 101 (by decide +kernel) (by decide) (fun c_94 => ?_) (fun c => absurd (by decide) c)
        refine bk hX lkX11_ok (pc' := 102) [.iconst 0] (by decide +kernel) (And.intro trivial ?_)
        exact z_iret hX (by decide +kernel) rfl (rfl) (by decide) (by decide) (by
  refine ⟨Rf, I, rfl, ?_, aR_rf _, aE_rf _⟩
  rw [show ofS g w (nI i) (nI 2) = b2i (atB (ga g) i) by simp [ofS, hw, isIn_f1 (n := gn g) (show nI 2 - nI 10 < 0 by decide), show isIn (nI 2) 7 = true by decide, show jx (nI 2) = 2 by decide, jx_nI (show i < 2 ^ 31 by omega)]]
  first
    | (rw [hb]; rfl)
    | (rw [Bool.eq_false_iff.mpr hb]; rfl))
    · refine z_tsw hX 103 (dflt := 122) (lo := 0) (hi := 6) (offs := #[42, 47, 52, 69, 72, 81, 92]) (len := 42) (off := 69) (by decide +kernel) (by decide) (by decide) ?_
      refine bk hX lkX11_ok (pc' := 105) [.iload 4] (by decide +kernel) (And.intro trivial ?_)
      exact z_iret hX (by decide +kernel) rfl (rfl) (by decide) (by decide) (⟨Rf, I, rfl, by rw [show ofS g w (nI i) (nI 3) = nI (gc g i) by simp [ofS, hw, isIn_f1 (n := gn g) (show nI 3 - nI 10 < 0 by decide), show isIn (nI 3) 7 = true by decide, show jx (nI 3) = 3 by decide, jx_nI (show i < 2 ^ 31 by omega)]], aR_rf _, aE_rf _⟩)
    · refine z_tsw hX 106 (dflt := 122) (lo := 0) (hi := 6) (offs := #[42, 47, 52, 69, 72, 81, 92]) (len := 42) (off := 72) (by decide +kernel) (by decide) (by decide) ?_
      refine bk hX lkX11_ok (pc' := 111) [.aload_n 0, .getfield 12, .iload_n 1] (by decide +kernel) (And.intro trivial ?_)
      refine z_callV hX kw_X11_99 (c_G3_ringOf E K N Rf I L hg hG hi) rfl rfl rfl rfl rfl (by decide +kernel) (by decide) (by decide) (by decide) (by decide) (Nat.le_of_ble_eq_true rfl) ?_
      rintro _ _ ⟨rfl, rfl⟩
      exact z_iret hX (by decide +kernel) rfl (rfl) (by decide) (by decide) (⟨Rf, I, rfl, by rw [show ofS g w (nI i) (nI 4) = nI (rg (gc g) i) by simp [ofS, hw, isIn_f1 (n := gn g) (show nI 4 - nI 10 < 0 by decide), show isIn (nI 4) 7 = true by decide, show jx (nI 4) = 4 by decide, jx_nI (show i < 2 ^ 31 by omega)]], aR_rf _, aE_rf _⟩)
    · refine z_tsw hX 115 (dflt := 122) (lo := 0) (hi := 6) (offs := #[42, 47, 52, 69, 72, 81, 92]) (len := 42) (off := 81) (by decide +kernel) (by decide) (by decide) ?_
      refine bk hX lkX11_ok (pc' := 122) [.aload_n 0, .getfield 12, .iload_n 1, .iload 4] (by decide +kernel) (And.intro trivial ?_)
      refine z_callV hX kw_X11_103 (c_G3_temper E K N Rf I L hg hG (by omega) hw0 hN.2.1 hi hcn) rfl rfl rfl rfl rfl (by decide +kernel) (by decide) (by decide) (by decide) (by decide) (Nat.le_of_ble_eq_true rfl) ?_
      rintro _ _ ⟨rfl, rfl⟩
      exact z_iret hX (by decide +kernel) rfl (rfl) (by decide) (by decide) (⟨Rf, I, rfl, by rw [show ofS g w (nI i) (nI 5) = tmS g w i (gc g i) by simp [ofS, hw, isIn_f1 (n := gn g) (show nI 5 - nI 10 < 0 by decide), show isIn (nI 5) 7 = true by decide, show jx (nI 5) = 5 by decide, jx_nI (show i < 2 ^ 31 by omega)]], aR_rf _, aE_rf _⟩)
    · refine z_tsw hX 126 (dflt := 122) (lo := 0) (hi := 6) (offs := #[42, 47, 52, 69, 72, 81, 92]) (len := 42) (off := 92) (by decide +kernel) (by decide) (by decide) ?_
      refine bk hX lkX11_ok (pc' := 144) [.aload_n 3, .aload_n 0, .getfield 12, .getfield 107, .aload_n 0, .getfield 12, .getfield 110, .iload 4, .iaload] (by decide +kernel) (And.intro (by exact vin 6 (by omega)) (And.intro trivial ?_))
      simp only [cl (show gc g i < 2 ^ 31 by omega), eh, show I 300 6 = nI (gd g) from hG.2.2.1]
      refine bk hX lkX11_ok (pc' := 149) [.aload_n 0, .getfield 12, .iload_n 1] (by decide +kernel) (And.intro trivial ?_)
      refine z_callV hX kw_X11_113 (c_G3_rowSlot E K N Rf I L hg hG (by omega) hi) rfl rfl rfl rfl rfl (by decide +kernel) (by decide) (by decide) (by decide) (by decide) (Nat.le_of_ble_eq_true rfl) ?_
      rintro _ _ ⟨rfl, rfl⟩
      refine vc_punches_X11 hX rfl hk6 hks hh.2.2.2 (hg.2.1 i hi).2.1 (by omega) hhl hr9 (by decide +kernel) (by decide) (by decide) (by decide) (Nat.le_of_ble_eq_true rfl) ?_
      exact z_iret hX (by decide +kernel) rfl (rfl) (by decide) (by decide) (⟨Rf, I, rfl, by rw [show ofS g w (nI i) (nI 6) = nI (pn (gk g i) (gv g i) (gd g) (gh g (gc g i)) (gr g (4 * i + gd g % 4))) by simp [ofS, hw, isIn_f1 (n := gn g) (show nI 6 - nI 10 < 0 by decide), show isIn (nI 6) 7 = true by decide, show jx (nI 6) = 6 by decide, jx_nI (show i < 2 ^ 31 by omega)]], aR_rf _, aE_rf _⟩)
    · refine z_tsw hX 156 (dflt := 122) (lo := 0) (hi := 6) (offs := #[42, 47, 52, 69, 72, 81, 92]) (len := 42) (off := 122) (by decide +kernel) (Or.inl ⟨isIn_out (n := 6) h7, rfl⟩) (by decide) ?_
      refine bk hX lkX11_ok (pc' := 161) [.aload_n 0, .iload_n 2, .bipush 10, .isub] (by decide +kernel) (And.intro trivial ?_)
      refine z_callV hX kw_X11_77 (c_X_isWorker E K N _ _ L _ hg.1 hN.1.1) rfl rfl rfl rfl rfl (by decide +kernel) (by decide) (by decide) (by decide) (by decide) (Nat.le_of_ble_eq_true rfl) ?_
      rintro _ _ ⟨rfl, hh⟩
      rcases hh with ⟨hw2, rfl⟩ | ⟨hw2, rfl⟩
      · refine if_eq hX (18) 182 (by decide +kernel) (by decide) (fun c => absurd c (by decide)) (fun c_164 => ?_)
        obtain ⟨j, hj, he⟩ := isIn_ex hw2 (by omega)
        refine bk hX lkX11_ok (pc' := 176) [.aload_n 0, .getfield 12, .iload_n 1, .iload_n 2, .bipush 10, .isub] (by decide +kernel) (And.intro trivial ?_)
        rw [he]
        refine z_callV hX kw_X11_103 (c_G3_temper E K N Rf I L hg hG (by omega) hw0 hN.2.1 hi hj) rfl rfl rfl rfl rfl (by decide +kernel) (by decide) (by decide) (by decide) (by decide) (Nat.le_of_ble_eq_true rfl) ?_
        rintro _ _ ⟨rfl, rfl⟩
        refine gt_ hX (6) 185 (by decide +kernel) (by decide) ?_
        exact z_iret hX (by decide +kernel) rfl (rfl) (by decide) (by decide) (by
  first
    | (refine ⟨Rf, I, rfl, ?_, aR_rf _, aE_rf _⟩
       rw [show ofS g w (nI i) what = tmS g w i j by rw [ofS, if_pos hw, if_pos hw2, he, jx_nI (by omega), jx_nI (by omega)]])
    | (refine ⟨Rf, I, rfl, ?_, aR_rf _, aE_rf _⟩
       rw [show ofS g w (nI i) what = -nI 1001 by rw [ofS, if_pos hw, if_neg hw2, if_neg h7]]))
      · refine if_eq hX (18) 182 (by decide +kernel) (by decide) (fun c_164 => ?_) (fun c => absurd (by decide) c)
        refine bk hX lkX11_ok (pc' := 185) [.sipush (Int.negSucc 1000)] (by decide +kernel) (And.intro trivial ?_)
        exact z_iret hX (by decide +kernel) rfl (rfl) (by decide) (by decide) (by
  first
    | (refine ⟨Rf, I, rfl, ?_, aR_rf _, aE_rf _⟩
       rw [show ofS g w (nI i) what = tmS g w i j by rw [ofS, if_pos hw, if_pos hw2, he, jx_nI (by omega), jx_nI (by omega)]])
    | (refine ⟨Rf, I, rfl, ?_, aR_rf _, aE_rf _⟩
       rw [show ofS g w (nI i) what = -nI 1001 by rw [ofS, if_pos hw, if_neg hw2, if_neg h7]]))
  · refine if_ne hX (7) 12 (by decide +kernel) (by decide) (fun c => absurd (by decide) c) (fun c_5 => ?_)
    refine bk hX lkX11_ok (pc' := 11) [.sipush (Int.negSucc 1000)] (by decide +kernel) (And.intro trivial ?_)
    exact z_iret hX (by decide +kernel) rfl (rfl) (by decide) (by decide) (⟨Rf, I, rfl, by rw [ofS, if_neg hw], aR_rf _, aE_rf _⟩)
set_option maxHeartbeats 1000000 in
theorem c_X_on (E : zE) (K N : Nat → Nat) (Rf : Nat → Nat → Option Nat) (I : Nat → Nat → Int32) (L : Nat → Nat → Int64) {g : Gv} (hg : gwf g) {w : Wk} (hw0 : wok w) (hd : gd g ≤ 90000) (hN : xN g w K N Rf I) (x what : Int32) : zCt E mX11_on 6 0 0 (sg K N Rf I L) [.ref 200, .int x, .int what] (fun r σ' => ∃ Rf' I', σ' = sg K N Rf' I' L ∧ r = some (.int (onS g (rdS w) x what)) ∧ aR Rf Rf' ∧ aE I I') := by
  have h6 := hg.1
  have hG := hN.1
  have z10 : isIn (0 - nI 10) (gn g) = true → False := isIn_f1 (by decide)
  have z20 : isIn (0 - nI 20) (gn g) = true → False := isIn_f1 (by decide)
  refine z_intro (by decide) (Nat.le_of_ble_eq_true rfl) (fun X hX => ?_)
  refine bk hX lkX11_ok (pc' := 5) [.aload_n 0, .iload_n 2, .bipush 10, .isub] (by decide +kernel) (And.intro trivial ?_)
  refine z_callV hX kw_X11_77 (c_X_isWorker E K N _ _ L _ hg.1 hN.1.1) rfl rfl rfl rfl rfl (by decide +kernel) (by decide) (by decide) (by decide) (by decide) (Nat.le_of_ble_eq_true rfl) ?_
  rintro _ _ ⟨rfl, hh⟩
  rcases hh with ⟨ha, rfl⟩ | ⟨ha, rfl⟩
  · refine bk hX lkX11_ok (pc' := 14) [.istore_n 3, .aload_n 0, .iload_n 2, .bipush 20, .isub] (by decide +kernel) (And.intro trivial ?_)
    refine z_callV hX kw_X11_77 (c_X_isWorker E K N _ _ L _ hg.1 hN.1.1) rfl rfl rfl rfl rfl (by decide +kernel) (by decide) (by decide) (by decide) (by decide) (Nat.le_of_ble_eq_true rfl) ?_
    rintro _ _ ⟨rfl, hh⟩
    rcases hh with ⟨hb, rfl⟩ | ⟨hb, rfl⟩
    · refine bk hX lkX11_ok (pc' := 20) [.istore 4, .iload_n 2] (by decide +kernel) (And.intro trivial ?_)
      refine if_eq hX (14) 34 (by decide +kernel) (by decide) (fun c20 => ?_) (fun c20 => ?_)
      · have hok : what = 0 ∨ isIn (what - nI 10) (gn g) = true ∨ isIn (what - nI 20) (gn g) = true := by first | exact Or.inl c20 | exact Or.inr (Or.inl ha) | exact Or.inr (Or.inr hb)
        refine bk hX lkX11_ok (pc' := 35) [.iload_n 1] (by decide +kernel) (And.intro trivial ?_)
        refine z_callS hX kw_X11_177 (c_X_areDays E _ _) rfl rfl (by decide +kernel) (by decide) (by decide) (by decide) (by decide) (Nat.le_of_ble_eq_true rfl) ?_
        rintro _ _ ⟨rfl, hh⟩
        rcases hh with ⟨hx, rfl⟩ | ⟨hx, rfl⟩
        · refine if_ne hX (6) 44 (by decide +kernel) (by decide) (fun c_38 => ?_) (fun c => absurd c (by decide))
          obtain ⟨k, hk, rfl⟩ := isIn_ex hx (by decide)
          have jk : jx (nI k) = k := jx_nI (by omega)
          refine bk hX lkX11_ok (pc' := 52) [.aload_n 0, .getfield 18, .aload_n 0, .getfield 12] (by decide +kernel) (And.intro trivial ?_)
          refine z_callV hX kw_X11_184 (c_T_follow E K N _ _ L hg hN) rfl rfl rfl rfl rfl (by decide +kernel) (by decide) (by decide) (by decide) (by decide) (Nat.le_of_ble_eq_true rfl) ?_
          rintro _ _ ⟨R1, I1, rfl, rfl, x1, x2, x3, x4⟩
          refine bk hX lkX11_ok (pc' := 60) [.aload_n 0, .getfield 18, .iload_n 1] (by decide +kernel) (And.intro trivial ?_)
          refine z_callV hX kw_X11_180 (c_G4_goDays E K N R1 I1 L hg x1 hw0 x2 (k := k) (by omega) (by omega)) rfl rfl rfl rfl rfl (by decide +kernel) (by decide) (by decide) (by decide) (by decide) (Nat.le_of_ble_eq_true rfl) ?_
          rintro _ _ ⟨I2, rfl, rfl, y1, y2⟩
          have hnd := gn_days (rdS w) k g
          refine bk hX lkX11_ok (pc' := 64) [.iload_n 3] (by decide +kernel) (And.intro trivial ?_)
          refine if_eq hX (16) 80 (by decide +kernel) (by decide) (fun c => absurd c (by decide)) (fun c_64 => ?_)
          obtain ⟨i, hi, he⟩ := isIn_ex ha (by omega)
          have ci : (nI i).toNatClampNeg = i := cl (by omega)
          have eh : I2 342 i = nI (gh (daysS (rdS w) k g) i) := (y1.2.2.2 i (by omega)).2.2.1
          refine bk hX lkX11_ok (pc' := 79) [.aload_n 0, .getfield 18, .getfield 110, .iload_n 2, .bipush 10, .isub, .iaload] (by decide +kernel) (And.intro (by rw [he]; exact vin 6 (by omega)) (And.intro trivial ?_))
          exact z_iret hX (by decide +kernel) rfl (rfl) (by decide) (by decide) (by
  refine ⟨R1, I2, rfl, ?_, x3, aE_tr x4 (aE_g y2)⟩
  rw [onS, if_pos hok, if_pos hx, if_neg (fun z => z10 (by rw [← z]; exact ha)), if_pos ha, jk, he, jx_nI (by omega), ci]
  exact congrArg some (congrArg Value.int eh))
        · refine if_ne hX (6) 44 (by decide +kernel) (by decide) (fun c => absurd (by decide) c) (fun c_38 => ?_)
          refine bk hX lkX11_ok (pc' := 43) [.bipush (Int.negSucc 1)] (by decide +kernel) (And.intro trivial ?_)
          exact z_iret hX (by decide +kernel) rfl (rfl) (by decide) (by decide) (⟨Rf, I, rfl, by rw [onS, if_pos hok, if_neg hx], aR_rf _, aE_rf _⟩)
      · refine bk hX lkX11_ok (pc' := 24) [.iload_n 3] (by decide +kernel) (And.intro trivial ?_)
        refine if_ne hX (10) 34 (by decide +kernel) (by decide) (fun c_24 => ?_) (fun c => absurd c (by decide))
        have hok : what = 0 ∨ isIn (what - nI 10) (gn g) = true ∨ isIn (what - nI 20) (gn g) = true := by first | exact Or.inl c20 | exact Or.inr (Or.inl ha) | exact Or.inr (Or.inr hb)
        refine bk hX lkX11_ok (pc' := 35) [.iload_n 1] (by decide +kernel) (And.intro trivial ?_)
        refine z_callS hX kw_X11_177 (c_X_areDays E _ _) rfl rfl (by decide +kernel) (by decide) (by decide) (by decide) (by decide) (Nat.le_of_ble_eq_true rfl) ?_
        rintro _ _ ⟨rfl, hh⟩
        rcases hh with ⟨hx, rfl⟩ | ⟨hx, rfl⟩
        · refine if_ne hX (6) 44 (by decide +kernel) (by decide) (fun c_38 => ?_) (fun c => absurd c (by decide))
          obtain ⟨k, hk, rfl⟩ := isIn_ex hx (by decide)
          have jk : jx (nI k) = k := jx_nI (by omega)
          refine bk hX lkX11_ok (pc' := 52) [.aload_n 0, .getfield 18, .aload_n 0, .getfield 12] (by decide +kernel) (And.intro trivial ?_)
          refine z_callV hX kw_X11_184 (c_T_follow E K N _ _ L hg hN) rfl rfl rfl rfl rfl (by decide +kernel) (by decide) (by decide) (by decide) (by decide) (Nat.le_of_ble_eq_true rfl) ?_
          rintro _ _ ⟨R1, I1, rfl, rfl, x1, x2, x3, x4⟩
          refine bk hX lkX11_ok (pc' := 60) [.aload_n 0, .getfield 18, .iload_n 1] (by decide +kernel) (And.intro trivial ?_)
          refine z_callV hX kw_X11_180 (c_G4_goDays E K N R1 I1 L hg x1 hw0 x2 (k := k) (by omega) (by omega)) rfl rfl rfl rfl rfl (by decide +kernel) (by decide) (by decide) (by decide) (by decide) (Nat.le_of_ble_eq_true rfl) ?_
          rintro _ _ ⟨I2, rfl, rfl, y1, y2⟩
          have hnd := gn_days (rdS w) k g
          refine bk hX lkX11_ok (pc' := 64) [.iload_n 3] (by decide +kernel) (And.intro trivial ?_)
          refine if_eq hX (16) 80 (by decide +kernel) (by decide) (fun c => absurd c (by decide)) (fun c_64 => ?_)
          obtain ⟨i, hi, he⟩ := isIn_ex ha (by omega)
          have ci : (nI i).toNatClampNeg = i := cl (by omega)
          have eh : I2 342 i = nI (gh (daysS (rdS w) k g) i) := (y1.2.2.2 i (by omega)).2.2.1
          refine bk hX lkX11_ok (pc' := 79) [.aload_n 0, .getfield 18, .getfield 110, .iload_n 2, .bipush 10, .isub, .iaload] (by decide +kernel) (And.intro (by rw [he]; exact vin 6 (by omega)) (And.intro trivial ?_))
          exact z_iret hX (by decide +kernel) rfl (rfl) (by decide) (by decide) (by
  refine ⟨R1, I2, rfl, ?_, x3, aE_tr x4 (aE_g y2)⟩
  rw [onS, if_pos hok, if_pos hx, if_neg (fun z => z10 (by rw [← z]; exact ha)), if_pos ha, jk, he, jx_nI (by omega), ci]
  exact congrArg some (congrArg Value.int eh))
        · refine if_ne hX (6) 44 (by decide +kernel) (by decide) (fun c => absurd (by decide) c) (fun c_38 => ?_)
          refine bk hX lkX11_ok (pc' := 43) [.bipush (Int.negSucc 1)] (by decide +kernel) (And.intro trivial ?_)
          exact z_iret hX (by decide +kernel) rfl (rfl) (by decide) (by decide) (⟨Rf, I, rfl, by rw [onS, if_pos hok, if_neg hx], aR_rf _, aE_rf _⟩)
    · refine bk hX lkX11_ok (pc' := 20) [.istore 4, .iload_n 2] (by decide +kernel) (And.intro trivial ?_)
      refine if_eq hX (14) 34 (by decide +kernel) (by decide) (fun c20 => ?_) (fun c20 => ?_)
      · have hok : what = 0 ∨ isIn (what - nI 10) (gn g) = true ∨ isIn (what - nI 20) (gn g) = true := by first | exact Or.inl c20 | exact Or.inr (Or.inl ha) | exact Or.inr (Or.inr hb)
        refine bk hX lkX11_ok (pc' := 35) [.iload_n 1] (by decide +kernel) (And.intro trivial ?_)
        refine z_callS hX kw_X11_177 (c_X_areDays E _ _) rfl rfl (by decide +kernel) (by decide) (by decide) (by decide) (by decide) (Nat.le_of_ble_eq_true rfl) ?_
        rintro _ _ ⟨rfl, hh⟩
        rcases hh with ⟨hx, rfl⟩ | ⟨hx, rfl⟩
        · refine if_ne hX (6) 44 (by decide +kernel) (by decide) (fun c_38 => ?_) (fun c => absurd c (by decide))
          obtain ⟨k, hk, rfl⟩ := isIn_ex hx (by decide)
          have jk : jx (nI k) = k := jx_nI (by omega)
          refine bk hX lkX11_ok (pc' := 52) [.aload_n 0, .getfield 18, .aload_n 0, .getfield 12] (by decide +kernel) (And.intro trivial ?_)
          refine z_callV hX kw_X11_184 (c_T_follow E K N _ _ L hg hN) rfl rfl rfl rfl rfl (by decide +kernel) (by decide) (by decide) (by decide) (by decide) (Nat.le_of_ble_eq_true rfl) ?_
          rintro _ _ ⟨R1, I1, rfl, rfl, x1, x2, x3, x4⟩
          refine bk hX lkX11_ok (pc' := 60) [.aload_n 0, .getfield 18, .iload_n 1] (by decide +kernel) (And.intro trivial ?_)
          refine z_callV hX kw_X11_180 (c_G4_goDays E K N R1 I1 L hg x1 hw0 x2 (k := k) (by omega) (by omega)) rfl rfl rfl rfl rfl (by decide +kernel) (by decide) (by decide) (by decide) (by decide) (Nat.le_of_ble_eq_true rfl) ?_
          rintro _ _ ⟨I2, rfl, rfl, y1, y2⟩
          have hnd := gn_days (rdS w) k g
          refine bk hX lkX11_ok (pc' := 64) [.iload_n 3] (by decide +kernel) (And.intro trivial ?_)
          refine if_eq hX (16) 80 (by decide +kernel) (by decide) (fun c => absurd c (by decide)) (fun c_64 => ?_)
          obtain ⟨i, hi, he⟩ := isIn_ex ha (by omega)
          have ci : (nI i).toNatClampNeg = i := cl (by omega)
          have eh : I2 342 i = nI (gh (daysS (rdS w) k g) i) := (y1.2.2.2 i (by omega)).2.2.1
          refine bk hX lkX11_ok (pc' := 79) [.aload_n 0, .getfield 18, .getfield 110, .iload_n 2, .bipush 10, .isub, .iaload] (by decide +kernel) (And.intro (by rw [he]; exact vin 6 (by omega)) (And.intro trivial ?_))
          exact z_iret hX (by decide +kernel) rfl (rfl) (by decide) (by decide) (by
  refine ⟨R1, I2, rfl, ?_, x3, aE_tr x4 (aE_g y2)⟩
  rw [onS, if_pos hok, if_pos hx, if_neg (fun z => z10 (by rw [← z]; exact ha)), if_pos ha, jk, he, jx_nI (by omega), ci]
  exact congrArg some (congrArg Value.int eh))
        · refine if_ne hX (6) 44 (by decide +kernel) (by decide) (fun c => absurd (by decide) c) (fun c_38 => ?_)
          refine bk hX lkX11_ok (pc' := 43) [.bipush (Int.negSucc 1)] (by decide +kernel) (And.intro trivial ?_)
          exact z_iret hX (by decide +kernel) rfl (rfl) (by decide) (by decide) (⟨Rf, I, rfl, by rw [onS, if_pos hok, if_neg hx], aR_rf _, aE_rf _⟩)
      · refine bk hX lkX11_ok (pc' := 24) [.iload_n 3] (by decide +kernel) (And.intro trivial ?_)
        refine if_ne hX (10) 34 (by decide +kernel) (by decide) (fun c_24 => ?_) (fun c => absurd c (by decide))
        have hok : what = 0 ∨ isIn (what - nI 10) (gn g) = true ∨ isIn (what - nI 20) (gn g) = true := by first | exact Or.inl c20 | exact Or.inr (Or.inl ha) | exact Or.inr (Or.inr hb)
        refine bk hX lkX11_ok (pc' := 35) [.iload_n 1] (by decide +kernel) (And.intro trivial ?_)
        refine z_callS hX kw_X11_177 (c_X_areDays E _ _) rfl rfl (by decide +kernel) (by decide) (by decide) (by decide) (by decide) (Nat.le_of_ble_eq_true rfl) ?_
        rintro _ _ ⟨rfl, hh⟩
        rcases hh with ⟨hx, rfl⟩ | ⟨hx, rfl⟩
        · refine if_ne hX (6) 44 (by decide +kernel) (by decide) (fun c_38 => ?_) (fun c => absurd c (by decide))
          obtain ⟨k, hk, rfl⟩ := isIn_ex hx (by decide)
          have jk : jx (nI k) = k := jx_nI (by omega)
          refine bk hX lkX11_ok (pc' := 52) [.aload_n 0, .getfield 18, .aload_n 0, .getfield 12] (by decide +kernel) (And.intro trivial ?_)
          refine z_callV hX kw_X11_184 (c_T_follow E K N _ _ L hg hN) rfl rfl rfl rfl rfl (by decide +kernel) (by decide) (by decide) (by decide) (by decide) (Nat.le_of_ble_eq_true rfl) ?_
          rintro _ _ ⟨R1, I1, rfl, rfl, x1, x2, x3, x4⟩
          refine bk hX lkX11_ok (pc' := 60) [.aload_n 0, .getfield 18, .iload_n 1] (by decide +kernel) (And.intro trivial ?_)
          refine z_callV hX kw_X11_180 (c_G4_goDays E K N R1 I1 L hg x1 hw0 x2 (k := k) (by omega) (by omega)) rfl rfl rfl rfl rfl (by decide +kernel) (by decide) (by decide) (by decide) (by decide) (Nat.le_of_ble_eq_true rfl) ?_
          rintro _ _ ⟨I2, rfl, rfl, y1, y2⟩
          have hnd := gn_days (rdS w) k g
          refine bk hX lkX11_ok (pc' := 64) [.iload_n 3] (by decide +kernel) (And.intro trivial ?_)
          refine if_eq hX (16) 80 (by decide +kernel) (by decide) (fun c => absurd c (by decide)) (fun c_64 => ?_)
          obtain ⟨i, hi, he⟩ := isIn_ex ha (by omega)
          have ci : (nI i).toNatClampNeg = i := cl (by omega)
          have eh : I2 342 i = nI (gh (daysS (rdS w) k g) i) := (y1.2.2.2 i (by omega)).2.2.1
          refine bk hX lkX11_ok (pc' := 79) [.aload_n 0, .getfield 18, .getfield 110, .iload_n 2, .bipush 10, .isub, .iaload] (by decide +kernel) (And.intro (by rw [he]; exact vin 6 (by omega)) (And.intro trivial ?_))
          exact z_iret hX (by decide +kernel) rfl (rfl) (by decide) (by decide) (by
  refine ⟨R1, I2, rfl, ?_, x3, aE_tr x4 (aE_g y2)⟩
  rw [onS, if_pos hok, if_pos hx, if_neg (fun z => z10 (by rw [← z]; exact ha)), if_pos ha, jk, he, jx_nI (by omega), ci]
  exact congrArg some (congrArg Value.int eh))
        · refine if_ne hX (6) 44 (by decide +kernel) (by decide) (fun c => absurd (by decide) c) (fun c_38 => ?_)
          refine bk hX lkX11_ok (pc' := 43) [.bipush (Int.negSucc 1)] (by decide +kernel) (And.intro trivial ?_)
          exact z_iret hX (by decide +kernel) rfl (rfl) (by decide) (by decide) (⟨Rf, I, rfl, by rw [onS, if_pos hok, if_neg hx], aR_rf _, aE_rf _⟩)
  · refine bk hX lkX11_ok (pc' := 14) [.istore_n 3, .aload_n 0, .iload_n 2, .bipush 20, .isub] (by decide +kernel) (And.intro trivial ?_)
    refine z_callV hX kw_X11_77 (c_X_isWorker E K N _ _ L _ hg.1 hN.1.1) rfl rfl rfl rfl rfl (by decide +kernel) (by decide) (by decide) (by decide) (by decide) (Nat.le_of_ble_eq_true rfl) ?_
    rintro _ _ ⟨rfl, hh⟩
    rcases hh with ⟨hb, rfl⟩ | ⟨hb, rfl⟩
    · refine bk hX lkX11_ok (pc' := 20) [.istore 4, .iload_n 2] (by decide +kernel) (And.intro trivial ?_)
      refine if_eq hX (14) 34 (by decide +kernel) (by decide) (fun c20 => ?_) (fun c20 => ?_)
      · have hok : what = 0 ∨ isIn (what - nI 10) (gn g) = true ∨ isIn (what - nI 20) (gn g) = true := by first | exact Or.inl c20 | exact Or.inr (Or.inl ha) | exact Or.inr (Or.inr hb)
        refine bk hX lkX11_ok (pc' := 35) [.iload_n 1] (by decide +kernel) (And.intro trivial ?_)
        refine z_callS hX kw_X11_177 (c_X_areDays E _ _) rfl rfl (by decide +kernel) (by decide) (by decide) (by decide) (by decide) (Nat.le_of_ble_eq_true rfl) ?_
        rintro _ _ ⟨rfl, hh⟩
        rcases hh with ⟨hx, rfl⟩ | ⟨hx, rfl⟩
        · refine if_ne hX (6) 44 (by decide +kernel) (by decide) (fun c_38 => ?_) (fun c => absurd c (by decide))
          obtain ⟨k, hk, rfl⟩ := isIn_ex hx (by decide)
          have jk : jx (nI k) = k := jx_nI (by omega)
          refine bk hX lkX11_ok (pc' := 52) [.aload_n 0, .getfield 18, .aload_n 0, .getfield 12] (by decide +kernel) (And.intro trivial ?_)
          refine z_callV hX kw_X11_184 (c_T_follow E K N _ _ L hg hN) rfl rfl rfl rfl rfl (by decide +kernel) (by decide) (by decide) (by decide) (by decide) (Nat.le_of_ble_eq_true rfl) ?_
          rintro _ _ ⟨R1, I1, rfl, rfl, x1, x2, x3, x4⟩
          refine bk hX lkX11_ok (pc' := 60) [.aload_n 0, .getfield 18, .iload_n 1] (by decide +kernel) (And.intro trivial ?_)
          refine z_callV hX kw_X11_180 (c_G4_goDays E K N R1 I1 L hg x1 hw0 x2 (k := k) (by omega) (by omega)) rfl rfl rfl rfl rfl (by decide +kernel) (by decide) (by decide) (by decide) (by decide) (Nat.le_of_ble_eq_true rfl) ?_
          rintro _ _ ⟨I2, rfl, rfl, y1, y2⟩
          have hnd := gn_days (rdS w) k g
          refine bk hX lkX11_ok (pc' := 64) [.iload_n 3] (by decide +kernel) (And.intro trivial ?_)
          refine if_eq hX (16) 80 (by decide +kernel) (by decide) (fun c_64 => ?_) (fun c => absurd (by decide) c)
          refine bk hX lkX11_ok (pc' := 82) [.iload 4] (by decide +kernel) (And.intro trivial ?_)
          refine if_eq hX (18) 100 (by decide +kernel) (by decide) (fun c => absurd c (by decide)) (fun c_82 => ?_)
          obtain ⟨i, hi, he⟩ := isIn_ex hb (by omega)
          have ci : (nI i).toNatClampNeg = i := cl (by omega)
          have eh : I2 343 i = nI (gc (daysS (rdS w) k g) i) := (y1.2.2.2 i (by omega)).2.1
          refine bk hX lkX11_ok (pc' := 97) [.aload_n 0, .getfield 18, .getfield 84, .iload_n 2, .bipush 20, .isub, .iaload] (by decide +kernel) (And.intro (by rw [he]; exact vin 6 (by omega)) (And.intro trivial ?_))
          refine gt_ hX (10) 107 (by decide +kernel) (by decide) ?_
          exact z_iret hX (by decide +kernel) rfl (rfl) (by decide) (by decide) (by
  first
    | (refine ⟨R1, I2, rfl, ?_, x3, aE_tr x4 (aE_g y2)⟩
       rw [onS, if_pos hok, if_pos hx, if_neg (fun z => z20 (by rw [← z]; exact hb)), if_neg ha, jk, he, jx_nI (by omega), ci]
       exact congrArg some (congrArg Value.int eh))
    | (refine ⟨R1, I2, rfl, ?_, x3, aE_tr x4 (aE_g y2)⟩
       have h0 : what = 0 := hok.elim id (fun z => z.elim (fun z => absurd z ha) (fun z => absurd z hb))
       rw [onS, if_pos hok, if_pos hx, if_pos h0, jk, hnd]))
        · refine if_ne hX (6) 44 (by decide +kernel) (by decide) (fun c => absurd (by decide) c) (fun c_38 => ?_)
          refine bk hX lkX11_ok (pc' := 43) [.bipush (Int.negSucc 1)] (by decide +kernel) (And.intro trivial ?_)
          exact z_iret hX (by decide +kernel) rfl (rfl) (by decide) (by decide) (⟨Rf, I, rfl, by rw [onS, if_pos hok, if_neg hx], aR_rf _, aE_rf _⟩)
      · refine bk hX lkX11_ok (pc' := 24) [.iload_n 3] (by decide +kernel) (And.intro trivial ?_)
        refine if_ne hX (10) 34 (by decide +kernel) (by decide) (fun c => absurd (by decide) c) (fun c_24 => ?_)
        refine bk hX lkX11_ok (pc' := 29) [.iload 4] (by decide +kernel) (And.intro trivial ?_)
        refine if_ne hX (5) 34 (by decide +kernel) (by decide) (fun c_29 => ?_) (fun c => absurd c (by decide))
        have hok : what = 0 ∨ isIn (what - nI 10) (gn g) = true ∨ isIn (what - nI 20) (gn g) = true := by first | exact Or.inl c20 | exact Or.inr (Or.inl ha) | exact Or.inr (Or.inr hb)
        refine bk hX lkX11_ok (pc' := 35) [.iload_n 1] (by decide +kernel) (And.intro trivial ?_)
        refine z_callS hX kw_X11_177 (c_X_areDays E _ _) rfl rfl (by decide +kernel) (by decide) (by decide) (by decide) (by decide) (Nat.le_of_ble_eq_true rfl) ?_
        rintro _ _ ⟨rfl, hh⟩
        rcases hh with ⟨hx, rfl⟩ | ⟨hx, rfl⟩
        · refine if_ne hX (6) 44 (by decide +kernel) (by decide) (fun c_38 => ?_) (fun c => absurd c (by decide))
          obtain ⟨k, hk, rfl⟩ := isIn_ex hx (by decide)
          have jk : jx (nI k) = k := jx_nI (by omega)
          refine bk hX lkX11_ok (pc' := 52) [.aload_n 0, .getfield 18, .aload_n 0, .getfield 12] (by decide +kernel) (And.intro trivial ?_)
          refine z_callV hX kw_X11_184 (c_T_follow E K N _ _ L hg hN) rfl rfl rfl rfl rfl (by decide +kernel) (by decide) (by decide) (by decide) (by decide) (Nat.le_of_ble_eq_true rfl) ?_
          rintro _ _ ⟨R1, I1, rfl, rfl, x1, x2, x3, x4⟩
          refine bk hX lkX11_ok (pc' := 60) [.aload_n 0, .getfield 18, .iload_n 1] (by decide +kernel) (And.intro trivial ?_)
          refine z_callV hX kw_X11_180 (c_G4_goDays E K N R1 I1 L hg x1 hw0 x2 (k := k) (by omega) (by omega)) rfl rfl rfl rfl rfl (by decide +kernel) (by decide) (by decide) (by decide) (by decide) (Nat.le_of_ble_eq_true rfl) ?_
          rintro _ _ ⟨I2, rfl, rfl, y1, y2⟩
          have hnd := gn_days (rdS w) k g
          refine bk hX lkX11_ok (pc' := 64) [.iload_n 3] (by decide +kernel) (And.intro trivial ?_)
          refine if_eq hX (16) 80 (by decide +kernel) (by decide) (fun c_64 => ?_) (fun c => absurd (by decide) c)
          refine bk hX lkX11_ok (pc' := 82) [.iload 4] (by decide +kernel) (And.intro trivial ?_)
          refine if_eq hX (18) 100 (by decide +kernel) (by decide) (fun c => absurd c (by decide)) (fun c_82 => ?_)
          obtain ⟨i, hi, he⟩ := isIn_ex hb (by omega)
          have ci : (nI i).toNatClampNeg = i := cl (by omega)
          have eh : I2 343 i = nI (gc (daysS (rdS w) k g) i) := (y1.2.2.2 i (by omega)).2.1
          refine bk hX lkX11_ok (pc' := 97) [.aload_n 0, .getfield 18, .getfield 84, .iload_n 2, .bipush 20, .isub, .iaload] (by decide +kernel) (And.intro (by rw [he]; exact vin 6 (by omega)) (And.intro trivial ?_))
          refine gt_ hX (10) 107 (by decide +kernel) (by decide) ?_
          exact z_iret hX (by decide +kernel) rfl (rfl) (by decide) (by decide) (by
  first
    | (refine ⟨R1, I2, rfl, ?_, x3, aE_tr x4 (aE_g y2)⟩
       rw [onS, if_pos hok, if_pos hx, if_neg (fun z => z20 (by rw [← z]; exact hb)), if_neg ha, jk, he, jx_nI (by omega), ci]
       exact congrArg some (congrArg Value.int eh))
    | (refine ⟨R1, I2, rfl, ?_, x3, aE_tr x4 (aE_g y2)⟩
       have h0 : what = 0 := hok.elim id (fun z => z.elim (fun z => absurd z ha) (fun z => absurd z hb))
       rw [onS, if_pos hok, if_pos hx, if_pos h0, jk, hnd]))
        · refine if_ne hX (6) 44 (by decide +kernel) (by decide) (fun c => absurd (by decide) c) (fun c_38 => ?_)
          refine bk hX lkX11_ok (pc' := 43) [.bipush (Int.negSucc 1)] (by decide +kernel) (And.intro trivial ?_)
          exact z_iret hX (by decide +kernel) rfl (rfl) (by decide) (by decide) (⟨Rf, I, rfl, by rw [onS, if_pos hok, if_neg hx], aR_rf _, aE_rf _⟩)
    · refine bk hX lkX11_ok (pc' := 20) [.istore 4, .iload_n 2] (by decide +kernel) (And.intro trivial ?_)
      refine if_eq hX (14) 34 (by decide +kernel) (by decide) (fun c20 => ?_) (fun c20 => ?_)
      · have hok : what = 0 ∨ isIn (what - nI 10) (gn g) = true ∨ isIn (what - nI 20) (gn g) = true := by first | exact Or.inl c20 | exact Or.inr (Or.inl ha) | exact Or.inr (Or.inr hb)
        refine bk hX lkX11_ok (pc' := 35) [.iload_n 1] (by decide +kernel) (And.intro trivial ?_)
        refine z_callS hX kw_X11_177 (c_X_areDays E _ _) rfl rfl (by decide +kernel) (by decide) (by decide) (by decide) (by decide) (Nat.le_of_ble_eq_true rfl) ?_
        rintro _ _ ⟨rfl, hh⟩
        rcases hh with ⟨hx, rfl⟩ | ⟨hx, rfl⟩
        · refine if_ne hX (6) 44 (by decide +kernel) (by decide) (fun c_38 => ?_) (fun c => absurd c (by decide))
          obtain ⟨k, hk, rfl⟩ := isIn_ex hx (by decide)
          have jk : jx (nI k) = k := jx_nI (by omega)
          refine bk hX lkX11_ok (pc' := 52) [.aload_n 0, .getfield 18, .aload_n 0, .getfield 12] (by decide +kernel) (And.intro trivial ?_)
          refine z_callV hX kw_X11_184 (c_T_follow E K N _ _ L hg hN) rfl rfl rfl rfl rfl (by decide +kernel) (by decide) (by decide) (by decide) (by decide) (Nat.le_of_ble_eq_true rfl) ?_
          rintro _ _ ⟨R1, I1, rfl, rfl, x1, x2, x3, x4⟩
          refine bk hX lkX11_ok (pc' := 60) [.aload_n 0, .getfield 18, .iload_n 1] (by decide +kernel) (And.intro trivial ?_)
          refine z_callV hX kw_X11_180 (c_G4_goDays E K N R1 I1 L hg x1 hw0 x2 (k := k) (by omega) (by omega)) rfl rfl rfl rfl rfl (by decide +kernel) (by decide) (by decide) (by decide) (by decide) (Nat.le_of_ble_eq_true rfl) ?_
          rintro _ _ ⟨I2, rfl, rfl, y1, y2⟩
          have hnd := gn_days (rdS w) k g
          refine bk hX lkX11_ok (pc' := 64) [.iload_n 3] (by decide +kernel) (And.intro trivial ?_)
          refine if_eq hX (16) 80 (by decide +kernel) (by decide) (fun c_64 => ?_) (fun c => absurd (by decide) c)
          refine bk hX lkX11_ok (pc' := 82) [.iload 4] (by decide +kernel) (And.intro trivial ?_)
          refine if_eq hX (18) 100 (by decide +kernel) (by decide) (fun c_82 => ?_) (fun c => absurd (by decide) c)
          refine bk hX lkX11_ok (pc' := 104) [.aload_n 0, .getfield 18] (by decide +kernel) (And.intro trivial ?_)
          refine z_callV hX kw_X11_162 (c_G4_allHoles E K N R1 I2 L (gwf_days hg _ k) y1) rfl rfl rfl rfl rfl (by decide +kernel) (by decide) (by decide) (by decide) (by decide) (Nat.le_of_ble_eq_true rfl) ?_
          rintro _ _ ⟨rfl, rfl⟩
          exact z_iret hX (by decide +kernel) rfl (rfl) (by decide) (by decide) (by
  first
    | (refine ⟨R1, I2, rfl, ?_, x3, aE_tr x4 (aE_g y2)⟩
       rw [onS, if_pos hok, if_pos hx, if_neg (fun z => z20 (by rw [← z]; exact hb)), if_neg ha, jk, he, jx_nI (by omega), ci]
       exact congrArg some (congrArg Value.int eh))
    | (refine ⟨R1, I2, rfl, ?_, x3, aE_tr x4 (aE_g y2)⟩
       have h0 : what = 0 := hok.elim id (fun z => z.elim (fun z => absurd z ha) (fun z => absurd z hb))
       rw [onS, if_pos hok, if_pos hx, if_pos h0, jk, hnd]))
        · refine if_ne hX (6) 44 (by decide +kernel) (by decide) (fun c => absurd (by decide) c) (fun c_38 => ?_)
          refine bk hX lkX11_ok (pc' := 43) [.bipush (Int.negSucc 1)] (by decide +kernel) (And.intro trivial ?_)
          exact z_iret hX (by decide +kernel) rfl (rfl) (by decide) (by decide) (⟨Rf, I, rfl, by rw [onS, if_pos hok, if_neg hx], aR_rf _, aE_rf _⟩)
      · refine bk hX lkX11_ok (pc' := 24) [.iload_n 3] (by decide +kernel) (And.intro trivial ?_)
        refine if_ne hX (10) 34 (by decide +kernel) (by decide) (fun c => absurd (by decide) c) (fun c_24 => ?_)
        refine bk hX lkX11_ok (pc' := 29) [.iload 4] (by decide +kernel) (And.intro trivial ?_)
        refine if_ne hX (5) 34 (by decide +kernel) (by decide) (fun c => absurd (by decide) c) (fun c_29 => ?_)
        refine bk hX lkX11_ok (pc' := 33) [.iconst (Int.negSucc 0)] (by decide +kernel) (And.intro trivial ?_)
        exact z_iret hX (by decide +kernel) rfl (rfl) (by decide) (by decide) (⟨Rf, I, rfl, by rw [onS, if_neg (fun z => z.elim c20 (fun z => z.elim ha hb))], aR_rf _, aE_rf _⟩)
set_option maxHeartbeats 1000000 in
theorem c_X_full (E : zE) (K N : Nat → Nat) (Rf : Nat → Nat → Option Nat) (I : Nat → Nat → Int32) (L : Nat → Nat → Int64) {g : Gv} (hg : gwf g) {w : Wk} (hw0 : wok w) (hd : gd g ≤ 90000) (hN : xN g w K N Rf I) (c q : Int32) : zCt E mX11_full 5 0 0 (sg K N Rf I L) [.ref 200, .int c, .int q] (fun r σ' => ∃ Rf' I', σ' = sg K N Rf' I' L ∧ r = some (.int (fullS g (rdS w) c q)) ∧ aR Rf Rf' ∧ aE I I') := by
  have h6 := hg.1
  have hG := hN.1
  refine z_intro (by decide) (Nat.le_of_ble_eq_true rfl) (fun X hX => ?_)
  have hl : ∀ i y, i < gn g → y < 11 → c = nI i → q = nI y → ∀ m k (R1 : Nat → Nat → Option Nat) (I1 : Nat → Nat → Int32), k + m = 61 → aR Rf R1 → aE I I1 → xG 340 (daysS (rdS w) k g) K R1 I1 → xH 340 w K N R1 I1 → fuK (rdS w) i y g m k = fuK (rdS w) i y g 61 0 → zS X (sg K N R1 I1 L) 0 0 36 [(0, .ref 200), (1, .int c), (2, .int q), (3, .int (nI k))] [] := by
    intro i y hi hy hci hqy
    subst hci
    subst hqy
    have ci : (nI i).toNatClampNeg = i := cl (by omega)
    have eS : fullS g (rdS w) (nI i) (nI y) = (if fuK (rdS w) i y g 61 0 < 61 then nI (fuK (rdS w) i y g 61 0) else -nI 5) := by rw [fullS, if_pos (isIn_nI hi (by omega)), if_pos (isIn_nI hy (by decide)), jx_nI (by omega), jx_nI (by omega)]
    intro m
    induction m with
    | zero =>
      intro k R1 I1 hk q1 q2 q3 q4 hf
      obtain rfl : k = 61 := by omega
      have hf : 61 = fuK (rdS w) i y g 61 0 := hf
      refine bk hX lkX11_ok (pc' := 39) [.iload_n 3, .bipush 60] (by decide +kernel) (And.intro trivial ?_)
      refine ic_gt hX (34) 73 (by decide +kernel) (by decide) (fun c_39 => ?_) (fun c => absurd (by decide) c)
      refine bk hX lkX11_ok (pc' := 75) [.bipush (Int.negSucc 4)] (by decide +kernel) (And.intro trivial ?_)
      exact z_iret hX (by decide +kernel) rfl (rfl) (by decide) (by decide) (⟨R1, I1, rfl, by rw [eS, ← hf, if_neg (Nat.lt_irrefl _)], q1, q2⟩)
    | succ m ih =>
      intro k R1 I1 hk q1 q2 q3 q4 hf
      have hf' : (if y ≤ pcN (gh (daysS (rdS w) k g) i) 10 then k else fuK (rdS w) i y g m (k + 1)) = fuK (rdS w) i y g 61 0 := hf
      have hnd := gn_days (rdS w) k g
      have hdd := gd_days (rdS w) k g
      have hgd := gwf_days hg (rdS w) k
      have hin : i < gn (daysS (rdS w) k g) := by omega
      have eh : I1 342 i = nI (gh (daysS (rdS w) k g) i) := (q3.2.2.2 i hin).2.2.1
      have hhl := (hgd.2.1 i hin).2.2.2.1
      have hpc := pcN_le (gh (daysS (rdS w) k g) i) 10
      refine bk hX lkX11_ok (pc' := 39) [.iload_n 3, .bipush 60] (by decide +kernel) (And.intro trivial ?_)
      refine ic_gt hX (34) 73 (by decide +kernel) (by decide) (fun c => absurd c (fun z => absurd ((nI_ltI (a := 60) (b := k) (by decide) (by omega)).mp z) (by omega))) (fun c_39 => ?_)
      refine bk hX lkX11_ok (pc' := 51) [.aload_n 0, .getfield 18, .getfield 110, .iload_n 1, .iaload] (by decide +kernel) (And.intro (by exact vin 6 (by omega)) (And.intro trivial ?_))
      simp only [ci, eh]
      refine z_callS hX kw_X11_188 (c_J_bitCount E _ hhl) rfl rfl (by decide +kernel) (by decide) (by decide) (by decide) (by decide) (Nat.le_of_ble_eq_true rfl) ?_
      rintro _ _ ⟨rfl, rfl⟩
      refine bk hX lkX11_ok (pc' := 55) [.iload_n 2] (by decide +kernel) (And.intro trivial ?_)
      refine ic_lt hX (5) 60 (by decide +kernel) (by decide) (fun c55 => ?_) (fun c55 => ?_)
      · refine bk hX lkX11_ok (pc' := 64) [.aload_n 0, .getfield 18] (by decide +kernel) (And.intro trivial ?_)
        refine z_callV hX kw_X11_193 (c_G4_goDay E K N R1 I1 L hgd q3 (by omega) hw0 q4) rfl rfl rfl rfl rfl (by decide +kernel) (by decide) (by decide) (by decide) (by decide) (Nat.le_of_ble_eq_true rfl) ?_
        rintro _ _ ⟨I2, rfl, rfl, z1, z2⟩
        refine bk hX lkX11_ok (pc' := 70) [.iinc 3 1] (by decide +kernel) (And.intro trivial ?_)
        refine gt_ hX (-34) 36 (by decide +kernel) (by decide) ?_
        refine z_lvk (lv' := [(0, _), (1, _), (2, _), (3, _)]) [1, 2, 3, 0] rfl ?_
        rw [if_neg (Nat.not_le.mpr ((nI_ltI (by omega) (by omega)).mp c55))] at hf'
        rw [nI_add]
        exact ih (k + 1) R1 I2 (by omega) q1 (aE_tr q2 (aE_g z2)) z1 (xH_I q4 (gfr_hi (by decide) z2)) hf'
      · refine bk hX lkX11_ok (pc' := 59) [.iload_n 3] (by decide +kernel) (And.intro trivial ?_)
        exact z_iret hX (by decide +kernel) rfl (rfl) (by decide) (by decide) (⟨R1, I1, rfl, by rw [if_pos (Nat.le_of_not_lt (fun z => c55 (nI_lt z (by omega))))] at hf'; rw [eS, ← hf', if_pos (by omega)], q1, q2⟩)
  refine bk hX lkX11_ok (pc' := 2) [.aload_n 0, .iload_n 1] (by decide +kernel) (And.intro trivial ?_)
  refine z_callV hX kw_X11_77 (c_X_isWorker E K N _ _ L _ hg.1 hN.1.1) rfl rfl rfl rfl rfl (by decide +kernel) (by decide) (by decide) (by decide) (by decide) (Nat.le_of_ble_eq_true rfl) ?_
  rintro _ _ ⟨rfl, hh⟩
  rcases hh with ⟨hw, rfl⟩ | ⟨hw, rfl⟩
  · refine if_ne hX (5) 10 (by decide +kernel) (by decide) (fun c_5 => ?_) (fun c => absurd c (by decide))
    refine bk hX lkX11_ok (pc' := 11) [.iload_n 2] (by decide +kernel) (And.intro trivial ?_)
    refine if_lt hX (9) 20 (by decide +kernel) (by decide) (fun c11 => ?_) (fun c11 => ?_)
    · refine bk hX lkX11_ok (pc' := 22) [.bipush (Int.negSucc 1)] (by decide +kernel) (And.intro trivial ?_)
      exact z_iret hX (by decide +kernel) rfl (rfl) (by decide) (by decide) (by
  have e : ¬ isIn q 11 = true := by first | exact isIn_f1 c11 | exact isIn_gt 10 (i_nle.mp c17)
  exact ⟨Rf, I, rfl, by rw [fullS, if_pos hw, if_neg e], aR_rf _, aE_rf _⟩)
    · refine bk hX lkX11_ok (pc' := 17) [.iload_n 2, .bipush 10] (by decide +kernel) (And.intro trivial ?_)
      refine ic_le hX (6) 23 (by decide +kernel) (by decide) (fun c17 => ?_) (fun c17 => ?_)
      · refine bk hX lkX11_ok (pc' := 31) [.aload_n 0, .getfield 18, .aload_n 0, .getfield 12] (by decide +kernel) (And.intro trivial ?_)
        refine z_callV hX kw_X11_184 (c_T_follow E K N _ _ L hg hN) rfl rfl rfl rfl rfl (by decide +kernel) (by decide) (by decide) (by decide) (by decide) (Nat.le_of_ble_eq_true rfl) ?_
        rintro _ _ ⟨R1, I1, rfl, rfl, x1, x2, x3, x4⟩
        refine bk hX lkX11_ok (pc' := 36) [.iconst 0, .istore_n 3] (by decide +kernel) (And.intro trivial ?_)
        refine z_lvk (lv' := [(0, _), (1, _), (2, _), (3, _)]) [1, 2, 3, 0] rfl ?_
        obtain ⟨i, hi, hci⟩ := isIn_ex hw (by omega)
        obtain ⟨y, hy, hqy⟩ := isIn_ex (isIn_le (n := 11) 10 c11 (i_nlt.mpr c17)) (by decide)
        exact hl i y hi hy hci hqy 61 0 R1 I1 (by omega) x3 x4 x1 x2 rfl
      · refine bk hX lkX11_ok (pc' := 22) [.bipush (Int.negSucc 1)] (by decide +kernel) (And.intro trivial ?_)
        exact z_iret hX (by decide +kernel) rfl (rfl) (by decide) (by decide) (by
  have e : ¬ isIn q 11 = true := by first | exact isIn_f1 c11 | exact isIn_gt 10 (i_nle.mp c17)
  exact ⟨Rf, I, rfl, by rw [fullS, if_pos hw, if_neg e], aR_rf _, aE_rf _⟩)
  · refine if_ne hX (5) 10 (by decide +kernel) (by decide) (fun c => absurd (by decide) c) (fun c_5 => ?_)
    refine bk hX lkX11_ok (pc' := 9) [.iconst (Int.negSucc 0)] (by decide +kernel) (And.intro trivial ?_)
    exact z_iret hX (by decide +kernel) rfl (rfl) (by decide) (by decide) (⟨Rf, I, rfl, by rw [fullS, if_neg hw], aR_rf _, aE_rf _⟩)
theorem c_X_commonDivisor (E : zE) (σ : Sg) {x y : Nat} (hx : x < 2 ^ 30) (hy : y ≤ 60) : zCt E mX11_commonDivisor 0 0 0 σ [.int (nI x), .int (nI y)] (fun r σ' => σ' = σ ∧ r = some (.int (nI (Nat.gcd x y)))) := by
  refine z_intro (by decide) (Nat.le_of_ble_eq_true rfl) (fun X hX => ?_)
  have hl : ∀ q p i, p < 2 ^ 30 → q + i ≤ 60 → Nat.gcd p q = Nat.gcd x y → zS X σ 0 0 7 [(0, .int (nI x)), (1, .int (nI y)), (2, .int (nI p)), (3, .int (nI q)), (4, .int (nI i))] [] := by
    intro q
    induction q using Nat.strongRecOn with
    | _ q ih =>
      intro p i hp hq he
      by_cases h0 : q = 0
      · subst h0
        rw [Nat.gcd_zero_right] at he
        refine bk hX lkX11_ok (pc' := 11) [.iload 4, .bipush 64] (by decide +kernel) (And.intro trivial ?_)
        refine ic_ge hX (23) 34 (by decide +kernel) (by decide) (fun c => absurd c (nI_ge (a := i) (b := 64) (by omega) (by decide))) (fun c_11 => ?_)
        refine bk hX lkX11_ok (pc' := 15) [.iload_n 3] (by decide +kernel) (And.intro trivial ?_)
        refine if_eq hX (19) 34 (by decide +kernel) (by decide) (fun c_15 => ?_) (fun c => absurd (rfl) c)
        refine bk hX lkX11_ok (pc' := 35) [.iload_n 2] (by decide +kernel) (And.intro trivial ?_)
        exact z_iret hX (by decide +kernel) rfl (rfl) (by decide) (by decide) (by rw [he]; exact ⟨rfl, rfl⟩)
      · have hpos : 0 < q := Nat.pos_of_ne_zero h0
        have hml := Nat.mod_lt p hpos
        have he2 : Nat.gcd q (p % q) = Nat.gcd x y := by rw [← he, Nat.gcd_comm q, ← Nat.gcd_rec, Nat.gcd_comm]
        have em : nI p - nI p / nI q * nI q = nI (p % q) := i_mod (by omega) hpos (by omega)
        refine bk hX lkX11_ok (pc' := 11) [.iload 4, .bipush 64] (by decide +kernel) (And.intro trivial ?_)
        refine ic_ge hX (23) 34 (by decide +kernel) (by decide) (fun c => absurd c (nI_ge (a := i) (b := 64) (by omega) (by decide))) (fun c_11 => ?_)
        refine bk hX lkX11_ok (pc' := 15) [.iload_n 3] (by decide +kernel) (And.intro trivial ?_)
        refine if_eq hX (19) 34 (by decide +kernel) (by decide) (fun c => absurd c (nI_ne0 hpos (by omega))) (fun c_15 => ?_)
        refine bk hX lkX11_ok (pc' := 31) [.iload_n 2, .iload_n 3, .irem, .istore 5, .iload_n 3, .istore_n 2, .iload 5, .istore_n 3, .iinc 4 1] (by decide +kernel) (And.intro (by exact nI_ne0 hpos (by omega)) (And.intro trivial ?_))
        refine gt_ hX (-24) 7 (by decide +kernel) (by decide) ?_
        refine z_lvk (lv' := [(0, _), (1, _), (2, _), (3, _), (4, _)]) [4, 5, 2, 1, 0] rfl ?_
        rw [em, nI_add]
        exact ih (p % q) hml q (i + 1) (by omega) (by omega) he2
  refine bk hX lkX11_ok (pc' := 7) [.iload_n 0, .istore_n 2, .iload_n 1, .istore_n 3, .iconst 0, .istore 4] (by decide +kernel) (And.intro trivial ?_)
  refine z_lvk (lv' := [(0, _), (1, _), (2, _), (3, _), (4, _)]) [3, 4, 2, 1, 0] rfl ?_
  exact hl y x 0 hx (by omega) rfl
theorem c_X_ofFraction (E : zE) (σ : Sg) {x y : Nat} (hx : x < 2 ^ 30) (hy : y ≤ 60) (hy0 : 0 < y) (part : Int32) : zCt E mX11_ofFraction 1 0 0 σ [.int (nI x), .int (nI y), .int part] (fun r σ' => σ' = σ ∧ r = some (.long (loS x y part))) := by
  have hg0 : 0 < Nat.gcd x y := Nat.gcd_pos_of_pos_right _ hy0
  have hgl : Nat.gcd x y ≤ y := Nat.gcd_le_right _ hy0
  refine z_intro (by decide) (Nat.le_of_ble_eq_true rfl) (fun X hX => ?_)
  refine bk hX lkX11_ok (pc' := 2) [.iload_n 0, .iload_n 1] (by decide +kernel) (And.intro trivial ?_)
  refine z_callS hX kw_X11_330 (c_X_commonDivisor E _ hx hy) rfl rfl (by decide +kernel) (by decide) (by decide) (by decide) (by decide) (Nat.le_of_ble_eq_true rfl) ?_
  rintro _ _ ⟨rfl, rfl⟩
  refine bk hX lkX11_ok (pc' := 7) [.istore_n 3, .iload_n 3] (by decide +kernel) (And.intro trivial ?_)
  refine if_ne hX (7) 14 (by decide +kernel) (by decide) (fun c_7 => ?_) (fun c => absurd c (nI_ne0 hg0 (by omega)))
  refine bk hX lkX11_ok (pc' := 15) [.iload_n 2] (by decide +kernel) (And.intro trivial ?_)
  refine if_ne hX (7) 22 (by decide +kernel) (by decide) (fun c15 => ?_) (fun c15 => ?_)
  · refine bk hX lkX11_ok (pc' := 26) [.iload_n 1, .iload_n 3, .idiv, .i2l] (by decide +kernel) (And.intro (by exact nI_ne0 hg0 (by omega)) (And.intro trivial ?_))
    exact z_lret hX (by decide +kernel) rfl (by decide) (by decide) (by
  first
    | (refine ⟨rfl, ?_⟩
       rw [loS, if_pos c15, i_div (by omega) hg0 (by omega), nI_l (Nat.lt_of_le_of_lt (Nat.div_le_self _ _) (by omega))])
    | (refine ⟨rfl, ?_⟩
       rw [loS, if_neg c15, i_div (by omega) hg0 (by omega), nI_l (Nat.lt_of_le_of_lt (Nat.div_le_self _ _) (by omega))]))
  · refine bk hX lkX11_ok (pc' := 19) [.iload_n 0] (by decide +kernel) (And.intro trivial ?_)
    refine gt_ hX (4) 23 (by decide +kernel) (by decide) ?_
    refine bk hX lkX11_ok (pc' := 26) [.iload_n 3, .idiv, .i2l] (by decide +kernel) (And.intro (by exact nI_ne0 hg0 (by omega)) (And.intro trivial ?_))
    exact z_lret hX (by decide +kernel) rfl (by decide) (by decide) (by
  first
    | (refine ⟨rfl, ?_⟩
       rw [loS, if_pos c15, i_div (by omega) hg0 (by omega), nI_l (Nat.lt_of_le_of_lt (Nat.div_le_self _ _) (by omega))])
    | (refine ⟨rfl, ?_⟩
       rw [loS, if_neg c15, i_div (by omega) hg0 (by omega), nI_l (Nat.lt_of_le_of_lt (Nat.div_le_self _ _) (by omega))]))
set_option maxHeartbeats 1000000 in
theorem c_X_mean (E : zE) (K N : Nat → Nat) (Rf : Nat → Nat → Option Nat) (I : Nat → Nat → Int32) (L : Nat → Nat → Int64) {g : Gv} (hg : gwf g) {w : Wk} (hw0 : wok w) (hd : gd g ≤ 90000) (hN : xN g w K N Rf I) (x part : Int32) : zCt E mX11_mean 6 0 0 (sg K N Rf I L) [.ref 200, .int x, .int part] (fun r σ' => ∃ Rf' I', σ' = sg K N Rf' I' L ∧ r = some (.long (meanS g (rdS w) x part)) ∧ aR Rf Rf' ∧ aE I I') := by
  have h6 := hg.1
  have hG := hN.1
  refine z_intro (by decide) (Nat.le_of_ble_eq_true rfl) (fun X hX => ?_)
  refine bk hX lkX11_ok (pc' := 7) [.aload_n 0, .getfield 12, .getfield 65] (by decide +kernel) (And.intro trivial ?_)
  rw [hG.1]
  refine if_eq hX (19) 26 (by decide +kernel) (by decide) (fun c7 => ?_) (fun c7 => ?_)
  · refine bk hX lkX11_ok (pc' := 29) [.ldc2_w 218] (by decide +kernel) (And.intro trivial ?_)
    exact z_lret hX (by decide +kernel) rfl (by decide) (by decide) (by
  have e : ¬ (isIn x 61 = true ∧ isIn part 2 = true ∧ gn g ≠ 0) := by
    first
      | exact fun z => z.2.2 (nI_inj (by omega) (by decide) c7)
      | exact fun z => hx z.1
      | exact fun z => isIn_f1 c18 z.2.1
      | exact fun z => isIn_gt 1 (i_nle.mp c23) (by decide) (by decide) z.2.1
  exact ⟨Rf, I, rfl, by rw [meanS, if_neg e]; rfl, aR_rf _, aE_rf _⟩)
  · refine bk hX lkX11_ok (pc' := 11) [.iload_n 1] (by decide +kernel) (And.intro trivial ?_)
    refine z_callS hX kw_X11_177 (c_X_areDays E _ _) rfl rfl (by decide +kernel) (by decide) (by decide) (by decide) (by decide) (Nat.le_of_ble_eq_true rfl) ?_
    rintro _ _ ⟨rfl, hh⟩
    rcases hh with ⟨hx, rfl⟩ | ⟨hx, rfl⟩
    · refine if_eq hX (12) 26 (by decide +kernel) (by decide) (fun c => absurd c (by decide)) (fun c_14 => ?_)
      refine bk hX lkX11_ok (pc' := 18) [.iload_n 2] (by decide +kernel) (And.intro trivial ?_)
      refine if_lt hX (8) 26 (by decide +kernel) (by decide) (fun c18 => ?_) (fun c18 => ?_)
      · refine bk hX lkX11_ok (pc' := 29) [.ldc2_w 218] (by decide +kernel) (And.intro trivial ?_)
        exact z_lret hX (by decide +kernel) rfl (by decide) (by decide) (by
  have e : ¬ (isIn x 61 = true ∧ isIn part 2 = true ∧ gn g ≠ 0) := by
    first
      | exact fun z => z.2.2 (nI_inj (by omega) (by decide) c7)
      | exact fun z => hx z.1
      | exact fun z => isIn_f1 c18 z.2.1
      | exact fun z => isIn_gt 1 (i_nle.mp c23) (by decide) (by decide) z.2.1
  exact ⟨Rf, I, rfl, by rw [meanS, if_neg e]; rfl, aR_rf _, aE_rf _⟩)
      · refine bk hX lkX11_ok (pc' := 23) [.iload_n 2, .iconst 1] (by decide +kernel) (And.intro trivial ?_)
        refine ic_le hX (7) 30 (by decide +kernel) (by decide) (fun c23 => ?_) (fun c23 => ?_)
        · have hp2 : isIn part 2 = true := isIn_le 1 c18 (i_nlt.mpr c23)
          have hn0 : gn g ≠ 0 := fun z => c7 (by rw [z]; rfl)
          obtain ⟨k, hk, rfl⟩ := isIn_ex hx (by decide)
          have jk : jx (nI k) = k := jx_nI (by omega)
          refine bk hX lkX11_ok (pc' := 38) [.aload_n 0, .getfield 18, .aload_n 0, .getfield 12] (by decide +kernel) (And.intro trivial ?_)
          refine z_callV hX kw_X11_184 (c_T_follow E K N _ _ L hg hN) rfl rfl rfl rfl rfl (by decide +kernel) (by decide) (by decide) (by decide) (by decide) (Nat.le_of_ble_eq_true rfl) ?_
          rintro _ _ ⟨R1, I1, rfl, rfl, x1, x2, x3, x4⟩
          refine bk hX lkX11_ok (pc' := 46) [.aload_n 0, .getfield 18, .iload_n 1] (by decide +kernel) (And.intro trivial ?_)
          refine z_callV hX kw_X11_180 (c_G4_goDays E K N R1 I1 L hg x1 hw0 x2 (k := k) (by omega) (by omega)) rfl rfl rfl rfl rfl (by decide +kernel) (by decide) (by decide) (by decide) (by decide) (Nat.le_of_ble_eq_true rfl) ?_
          rintro _ _ ⟨I2, rfl, rfl, y1, y2⟩
          have hnd := gn_days (rdS w) k g
          have hN2 := xN_a hN x3 (aE_tr x4 (aE_g y2))
          have hal := ahN_le (daysS (rdS w) k g) (gn g)
          refine bk hX lkX11_ok (pc' := 53) [.aload_n 0, .getfield 18] (by decide +kernel) (And.intro trivial ?_)
          refine z_callV hX kw_X11_162 (c_G4_allHoles E K N R1 I2 L (gwf_days hg _ k) y1) rfl rfl rfl rfl rfl (by decide +kernel) (by decide) (by decide) (by decide) (by decide) (Nat.le_of_ble_eq_true rfl) ?_
          rintro _ _ ⟨rfl, rfl⟩
          rw [hnd]
          refine bk hX lkX11_ok (pc' := 64) [.aload_n 0, .getfield 12, .getfield 65, .iload_n 2] (by decide +kernel) (And.intro trivial ?_)
          rw [show I2 300 4 = _ from hN2.1.1]
          refine z_callS hX kw_X11_220 (c_X_ofFraction E _ (by omega) (by omega) (Nat.pos_of_ne_zero hn0) _) rfl rfl (by decide +kernel) (by decide) (by decide) (by decide) (by decide) (Nat.le_of_ble_eq_true rfl) ?_
          rintro _ _ ⟨rfl, rfl⟩
          exact z_lret hX (by decide +kernel) rfl (by decide) (by decide) (⟨R1, I2, rfl, by rw [meanS, if_pos ⟨hx, hp2, hn0⟩, jk], x3, aE_tr x4 (aE_g y2)⟩)
        · refine bk hX lkX11_ok (pc' := 29) [.ldc2_w 218] (by decide +kernel) (And.intro trivial ?_)
          exact z_lret hX (by decide +kernel) rfl (by decide) (by decide) (by
  have e : ¬ (isIn x 61 = true ∧ isIn part 2 = true ∧ gn g ≠ 0) := by
    first
      | exact fun z => z.2.2 (nI_inj (by omega) (by decide) c7)
      | exact fun z => hx z.1
      | exact fun z => isIn_f1 c18 z.2.1
      | exact fun z => isIn_gt 1 (i_nle.mp c23) (by decide) (by decide) z.2.1
  exact ⟨Rf, I, rfl, by rw [meanS, if_neg e]; rfl, aR_rf _, aE_rf _⟩)
    · refine if_eq hX (12) 26 (by decide +kernel) (by decide) (fun c_14 => ?_) (fun c => absurd (by decide) c)
      refine bk hX lkX11_ok (pc' := 29) [.ldc2_w 218] (by decide +kernel) (And.intro trivial ?_)
      exact z_lret hX (by decide +kernel) rfl (by decide) (by decide) (by
  have e : ¬ (isIn x 61 = true ∧ isIn part 2 = true ∧ gn g ≠ 0) := by
    first
      | exact fun z => z.2.2 (nI_inj (by omega) (by decide) c7)
      | exact fun z => hx z.1
      | exact fun z => isIn_f1 c18 z.2.1
      | exact fun z => isIn_gt 1 (i_nle.mp c23) (by decide) (by decide) z.2.1
  exact ⟨Rf, I, rfl, by rw [meanS, if_neg e]; rfl, aR_rf _, aE_rf _⟩)
set_option maxHeartbeats 1000000 in
theorem c_X_odds (E : zE) (K N : Nat → Nat) (Rf : Nat → Nat → Option Nat) (I : Nat → Nat → Int32) (L : Nat → Nat → Int64) {g : Gv} (hg : gwf g) {w : Wk} (hw0 : wok w) (hd : gd g ≤ 90000) (hN : xN g w K N Rf I) (x q part : Int32) : zCt E mX11_odds 6 0 0 (sg K N Rf I L) [.ref 200, .int x, .int q, .int part] (fun r σ' => ∃ Rf' I', σ' = sg K N Rf' I' L ∧ r = some (.long (oddS g (rdS w) x q part)) ∧ aR Rf Rf' ∧ aE I I') := by
  have h6 := hg.1
  have hG := hN.1
  refine z_intro (by decide) (Nat.le_of_ble_eq_true rfl) (fun X hX => ?_)
  have hl : ∀ k y, k < 61 → y < 61 → x = nI k → q = nI y → gn g ≠ 0 → loS (odN g (rdS w) k y (gn g)) (gn g) part = oddS g (rdS w) x q part → ∀ m p (R1 : Nat → Nat → Option Nat) (I1 : Nat → Nat → Int32), p + m = gn g → aR Rf R1 → aE I I1 → zS X (sg K N R1 I1 L) 0 0 46 [(0, .ref 200), (1, .int x), (2, .int q), (3, .int part), (4, .int (nI (odN g (rdS w) k y p))), (5, .int (nI p))] [] := by
    intro k y hk hy hxk hqy hn0 hS
    subst hxk
    subst hqy
    intro m
    induction m with
    | zero =>
      intro p R1 I1 hp q1 q2
      obtain rfl : p = gn g := by omega
      have hN1 := xN_a hN q1 q2
      have hol := odN_le g (rdS w) k y (gn g)
      refine bk hX lkX11_ok (pc' := 55) [.iload 5, .aload_n 0, .getfield 12, .getfield 65] (by decide +kernel) (And.intro trivial ?_)
      rw [hN1.1.1]
      refine ic_ge hX (52) 107 (by decide +kernel) (by decide) (fun c_55 => ?_) (fun c => absurd (nI_le (Nat.le_refl _) (by omega)) c)
      refine bk hX lkX11_ok (pc' := 117) [.iload 4, .aload_n 0, .getfield 12, .getfield 65, .iload_n 3] (by decide +kernel) (And.intro trivial ?_)
      rw [show I1 300 4 = _ from hN1.1.1]
      refine z_callS hX kw_X11_220 (c_X_ofFraction E _ (by omega) (by omega) (Nat.pos_of_ne_zero hn0) _) rfl rfl (by decide +kernel) (by decide) (by decide) (by decide) (by decide) (Nat.le_of_ble_eq_true rfl) ?_
      rintro _ _ ⟨rfl, rfl⟩
      exact z_lret hX (by decide +kernel) rfl (by decide) (by decide) (⟨R1, I1, rfl, by rw [← hS], q1, q2⟩)
    | succ m ih =>
      intro p R1 I1 hp q1 q2
      have hN1 := xN_a hN q1 q2
      refine bk hX lkX11_ok (pc' := 55) [.iload 5, .aload_n 0, .getfield 12, .getfield 65] (by decide +kernel) (And.intro trivial ?_)
      rw [hN1.1.1]
      refine ic_ge hX (52) 107 (by decide +kernel) (by decide) (fun c => absurd c (nI_ge (by omega) (by omega))) (fun c_55 => ?_)
      refine bk hX lkX11_ok (pc' := 66) [.aload_n 0, .getfield 18, .aload_n 0, .getfield 12] (by decide +kernel) (And.intro trivial ?_)
      refine z_callV hX kw_X11_184 (c_T_follow E K N _ _ L hg hN1) rfl rfl rfl rfl rfl (by decide +kernel) (by decide) (by decide) (by decide) (by decide) (Nat.le_of_ble_eq_true rfl) ?_
      rintro _ _ ⟨R2, I2, rfl, rfl, x1, x2, x3, x4⟩
      refine bk hX lkX11_ok (pc' := 76) [.aload_n 0, .getfield 18, .iload 5, .iconst 1] (by decide +kernel) (And.intro trivial ?_)
      refine z_callV hX kw_X11_127 (c_G4_keepAtHome E K N R2 I2 L (nI p) (nI 1)) rfl rfl rfl rfl rfl (by decide +kernel) (by decide) (by decide) (by decide) (by decide) (Nat.le_of_ble_eq_true rfl) ?_
      rintro _ _ ⟨rfl, rfl⟩
      have y1 := xG_home (b := 340) (by decide) x1 (nI p) (nI 1)
      have y2 := gfr_home (b := 340) (n := gn g) (I := I2) (rstS (I2 340 5) (nI p) (nI 1))
      refine bk hX lkX11_ok (pc' := 84) [.aload_n 0, .getfield 18, .iload_n 1] (by decide +kernel) (And.intro trivial ?_)
      refine z_callV hX kw_X11_180 (c_G4_goDays E K N R2 _ L (gwf_hom hg _ _) y1 hw0 (xH_I x2 (gfr_hi (by decide) y2)) (k := k) (show gd g + k ≤ 100000 by omega) (by omega)) rfl rfl rfl rfl rfl (by decide +kernel) (by decide) (by decide) (by decide) (by decide) (Nat.le_of_ble_eq_true rfl) ?_
      rintro _ _ ⟨I3, rfl, rfl, z1, z2⟩
      have hnd : gn (daysS (rdS w) k (homG g (nI p) (nI 1))) = gn g := gn_days (rdS w) k _
      have hal := ahN_le (daysS (rdS w) k (homG g (nI p) (nI 1))) (gn g)
      have hA := aE_tr q2 (aE_tr (aE_tr x4 (aE_g y2)) (aE_g z2))
      have hB := aR_tr q1 x3
      refine bk hX lkX11_ok (pc' := 91) [.aload_n 0, .getfield 18] (by decide +kernel) (And.intro trivial ?_)
      refine z_callV hX kw_X11_162 (c_G4_allHoles E K N R2 I3 L (gwf_days (gwf_hom hg _ _) _ k) z1) rfl rfl rfl rfl rfl (by decide +kernel) (by decide) (by decide) (by decide) (by decide) (Nat.le_of_ble_eq_true rfl) ?_
      rintro _ _ ⟨rfl, rfl⟩
      rw [hnd]
      refine bk hX lkX11_ok (pc' := 95) [.iload_n 2] (by decide +kernel) (And.intro trivial ?_)
      refine ic_gt hX (6) 101 (by decide +kernel) (by decide) (fun c95 => ?_) (fun c95 => ?_)
      · refine bk hX lkX11_ok (pc' := 104) [.iinc 5 1] (by decide +kernel) (And.intro trivial ?_)
        refine gt_ hX (-58) 46 (by decide +kernel) (by decide) ?_
        refine z_lvk (lv' := [(0, _), (1, _), (2, _), (3, _), (4, _), (5, _)]) [1, 2, 3, 4, 5, 0] rfl ?_
        have eo : odN g (rdS w) k y (p + 1) = odN g (rdS w) k y p + (if ahN (daysS (rdS w) k (homG g (nI p) (nI 1))) (gn g) ≤ y then 1 else 0) := rfl
        have K1 := ih (p + 1) R2 I3 (by omega) hB hA
        rw [eo] at K1
        first
          | (rw [if_neg (Nat.not_le.mpr ((nI_ltI (by omega) (by omega)).mp c95))] at K1
             rw [nI_add]
             exact K1)
          | (rw [if_pos (Nat.le_of_not_lt (fun z => c95 (nI_lt z (by omega))))] at K1
             rw [nI_add, nI_add]
             exact K1)
      · refine bk hX lkX11_ok (pc' := 104) [.iinc 4 1, .iinc 5 1] (by decide +kernel) (And.intro trivial ?_)
        refine gt_ hX (-58) 46 (by decide +kernel) (by decide) ?_
        refine z_lvk (lv' := [(0, _), (1, _), (2, _), (3, _), (4, _), (5, _)]) [2, 3, 4, 5, 1, 0] rfl ?_
        have eo : odN g (rdS w) k y (p + 1) = odN g (rdS w) k y p + (if ahN (daysS (rdS w) k (homG g (nI p) (nI 1))) (gn g) ≤ y then 1 else 0) := rfl
        have K1 := ih (p + 1) R2 I3 (by omega) hB hA
        rw [eo] at K1
        first
          | (rw [if_neg (Nat.not_le.mpr ((nI_ltI (by omega) (by omega)).mp c95))] at K1
             rw [nI_add]
             exact K1)
          | (rw [if_pos (Nat.le_of_not_lt (fun z => c95 (nI_lt z (by omega))))] at K1
             rw [nI_add, nI_add]
             exact K1)
  refine bk hX lkX11_ok (pc' := 7) [.aload_n 0, .getfield 12, .getfield 65] (by decide +kernel) (And.intro trivial ?_)
  rw [hG.1]
  refine if_eq hX (29) 36 (by decide +kernel) (by decide) (fun c7 => ?_) (fun c7 => ?_)
  · refine bk hX lkX11_ok (pc' := 39) [.ldc2_w 218] (by decide +kernel) (And.intro trivial ?_)
    exact z_lret hX (by decide +kernel) rfl (by decide) (by decide) (by
  have e : ¬ (isIn x 61 = true ∧ isIn q 61 = true ∧ isIn part 2 = true ∧ gn g ≠ 0) := by
    first
      | exact fun z => z.2.2.2 (nI_inj (by omega) (by decide) c7)
      | exact fun z => hx z.1
      | exact fun z => isIn_f1 c18 z.2.1
      | exact fun z => isIn_gt 60 c24 (by decide) (by decide) z.2.1
      | exact fun z => isIn_f1 c28 z.2.2.1
      | exact fun z => isIn_gt 1 (i_nle.mp c33) (by decide) (by decide) z.2.2.1
  exact ⟨Rf, I, rfl, by rw [oddS, if_neg e]; rfl, aR_rf _, aE_rf _⟩)
  · refine bk hX lkX11_ok (pc' := 11) [.iload_n 1] (by decide +kernel) (And.intro trivial ?_)
    refine z_callS hX kw_X11_177 (c_X_areDays E _ _) rfl rfl (by decide +kernel) (by decide) (by decide) (by decide) (by decide) (Nat.le_of_ble_eq_true rfl) ?_
    rintro _ _ ⟨rfl, hh⟩
    rcases hh with ⟨hx, rfl⟩ | ⟨hx, rfl⟩
    · refine if_eq hX (22) 36 (by decide +kernel) (by decide) (fun c => absurd c (by decide)) (fun c_14 => ?_)
      refine bk hX lkX11_ok (pc' := 18) [.iload_n 2] (by decide +kernel) (And.intro trivial ?_)
      refine if_lt hX (18) 36 (by decide +kernel) (by decide) (fun c18 => ?_) (fun c18 => ?_)
      · refine bk hX lkX11_ok (pc' := 39) [.ldc2_w 218] (by decide +kernel) (And.intro trivial ?_)
        exact z_lret hX (by decide +kernel) rfl (by decide) (by decide) (by
  have e : ¬ (isIn x 61 = true ∧ isIn q 61 = true ∧ isIn part 2 = true ∧ gn g ≠ 0) := by
    first
      | exact fun z => z.2.2.2 (nI_inj (by omega) (by decide) c7)
      | exact fun z => hx z.1
      | exact fun z => isIn_f1 c18 z.2.1
      | exact fun z => isIn_gt 60 c24 (by decide) (by decide) z.2.1
      | exact fun z => isIn_f1 c28 z.2.2.1
      | exact fun z => isIn_gt 1 (i_nle.mp c33) (by decide) (by decide) z.2.2.1
  exact ⟨Rf, I, rfl, by rw [oddS, if_neg e]; rfl, aR_rf _, aE_rf _⟩)
      · refine bk hX lkX11_ok (pc' := 24) [.iload_n 2, .bipush 60] (by decide +kernel) (And.intro trivial ?_)
        refine ic_gt hX (12) 36 (by decide +kernel) (by decide) (fun c24 => ?_) (fun c24 => ?_)
        · refine bk hX lkX11_ok (pc' := 39) [.ldc2_w 218] (by decide +kernel) (And.intro trivial ?_)
          exact z_lret hX (by decide +kernel) rfl (by decide) (by decide) (by
  have e : ¬ (isIn x 61 = true ∧ isIn q 61 = true ∧ isIn part 2 = true ∧ gn g ≠ 0) := by
    first
      | exact fun z => z.2.2.2 (nI_inj (by omega) (by decide) c7)
      | exact fun z => hx z.1
      | exact fun z => isIn_f1 c18 z.2.1
      | exact fun z => isIn_gt 60 c24 (by decide) (by decide) z.2.1
      | exact fun z => isIn_f1 c28 z.2.2.1
      | exact fun z => isIn_gt 1 (i_nle.mp c33) (by decide) (by decide) z.2.2.1
  exact ⟨Rf, I, rfl, by rw [oddS, if_neg e]; rfl, aR_rf _, aE_rf _⟩)
        · refine bk hX lkX11_ok (pc' := 28) [.iload_n 3] (by decide +kernel) (And.intro trivial ?_)
          refine if_lt hX (8) 36 (by decide +kernel) (by decide) (fun c28 => ?_) (fun c28 => ?_)
          · refine bk hX lkX11_ok (pc' := 39) [.ldc2_w 218] (by decide +kernel) (And.intro trivial ?_)
            exact z_lret hX (by decide +kernel) rfl (by decide) (by decide) (by
  have e : ¬ (isIn x 61 = true ∧ isIn q 61 = true ∧ isIn part 2 = true ∧ gn g ≠ 0) := by
    first
      | exact fun z => z.2.2.2 (nI_inj (by omega) (by decide) c7)
      | exact fun z => hx z.1
      | exact fun z => isIn_f1 c18 z.2.1
      | exact fun z => isIn_gt 60 c24 (by decide) (by decide) z.2.1
      | exact fun z => isIn_f1 c28 z.2.2.1
      | exact fun z => isIn_gt 1 (i_nle.mp c33) (by decide) (by decide) z.2.2.1
  exact ⟨Rf, I, rfl, by rw [oddS, if_neg e]; rfl, aR_rf _, aE_rf _⟩)
          · refine bk hX lkX11_ok (pc' := 33) [.iload_n 3, .iconst 1] (by decide +kernel) (And.intro trivial ?_)
            refine ic_le hX (7) 40 (by decide +kernel) (by decide) (fun c33 => ?_) (fun c33 => ?_)
            · refine bk hX lkX11_ok (pc' := 46) [.iconst 0, .istore 4, .iconst 0, .istore 5] (by decide +kernel) (And.intro trivial ?_)
              refine z_lvk (lv' := [(0, _), (1, _), (2, _), (3, _), (4, _), (5, _)]) [2, 3, 4, 5, 1, 0] rfl ?_
              have hp2 : isIn part 2 = true := isIn_le 1 c28 (i_nlt.mpr c33)
              have hn0 : gn g ≠ 0 := fun z => c7 (by rw [z]; rfl)
              have hq : isIn q 61 = true := isIn_le 60 c18 c24
              obtain ⟨k, hk, hxk⟩ := isIn_ex hx (by decide)
              obtain ⟨y, hy, hqy⟩ := isIn_ex hq (by decide)
              exact hl k y hk hy hxk hqy hn0 (by rw [oddS, if_pos ⟨hx, hq, hp2, hn0⟩, hxk, hqy, jx_nI (by omega), jx_nI (by omega)]) (gn g) 0 Rf I (by omega) (aR_rf _) (aE_rf _)
            · refine bk hX lkX11_ok (pc' := 39) [.ldc2_w 218] (by decide +kernel) (And.intro trivial ?_)
              exact z_lret hX (by decide +kernel) rfl (by decide) (by decide) (by
  have e : ¬ (isIn x 61 = true ∧ isIn q 61 = true ∧ isIn part 2 = true ∧ gn g ≠ 0) := by
    first
      | exact fun z => z.2.2.2 (nI_inj (by omega) (by decide) c7)
      | exact fun z => hx z.1
      | exact fun z => isIn_f1 c18 z.2.1
      | exact fun z => isIn_gt 60 c24 (by decide) (by decide) z.2.1
      | exact fun z => isIn_f1 c28 z.2.2.1
      | exact fun z => isIn_gt 1 (i_nle.mp c33) (by decide) (by decide) z.2.2.1
  exact ⟨Rf, I, rfl, by rw [oddS, if_neg e]; rfl, aR_rf _, aE_rf _⟩)
    · refine if_eq hX (22) 36 (by decide +kernel) (by decide) (fun c_14 => ?_) (fun c => absurd (by decide) c)
      refine bk hX lkX11_ok (pc' := 39) [.ldc2_w 218] (by decide +kernel) (And.intro trivial ?_)
      exact z_lret hX (by decide +kernel) rfl (by decide) (by decide) (by
  have e : ¬ (isIn x 61 = true ∧ isIn q 61 = true ∧ isIn part 2 = true ∧ gn g ≠ 0) := by
    first
      | exact fun z => z.2.2.2 (nI_inj (by omega) (by decide) c7)
      | exact fun z => hx z.1
      | exact fun z => isIn_f1 c18 z.2.1
      | exact fun z => isIn_gt 60 c24 (by decide) (by decide) z.2.1
      | exact fun z => isIn_f1 c28 z.2.2.1
      | exact fun z => isIn_gt 1 (i_nle.mp c33) (by decide) (by decide) z.2.2.1
  exact ⟨Rf, I, rfl, by rw [oddS, if_neg e]; rfl, aR_rf _, aE_rf _⟩)
set_option maxHeartbeats 1000000 in
theorem c_X_had (E : zE) (K N : Nat → Nat) (Rf : Nat → Nat → Option Nat) (I : Nat → Nat → Int32) (L : Nat → Nat → Int64) {g : Gv} (hg : gwf g) {w : Wk} (hw0 : wok w) (hd : gd g ≤ 90000) (hN : xN g w K N Rf I) {s : Rw} (hs : xSn 310 s I) (h5 : s.1 ≤ 5) (hws : wSn s g) (x : Int32) : zCt E mX11_had 6 0 0 (sg K N Rf I L) [.ref 200, .int x] (fun r σ' => ∃ Rf' I', σ' = sg K N Rf' I' L ∧ r = some (.int (hadS g (rdS w) s x)) ∧ aR Rf Rf' ∧ aE I I') := by
  have h6 := hg.1
  have hG := hN.1
  refine z_intro (by decide) (Nat.le_of_ble_eq_true rfl) (fun X hX => ?_)
  have hl : ∀ i, i < gn g → x = nI i → ∀ m c (R1 : Nat → Nat → Option Nat) (I1 : Nat → Nat → Int32), c + m = gn g → aR Rf R1 → aE I I1 → zS X (sg K N R1 I1 L) 0 0 14 [(0, .ref 200), (1, .int x), (2, .int (nI (hdN g (rdS w) s i c))), (3, .int (nI c))] [] := by
    intro i hi hxi
    subst hxi
    intro m
    induction m with
    | zero =>
      intro c R1 I1 hc q1 q2
      obtain rfl : c = gn g := by omega
      have hN1 := xN_a hN q1 q2
      refine bk hX lkX11_ok (pc' := 22) [.iload_n 3, .aload_n 0, .getfield 12, .getfield 65] (by decide +kernel) (And.intro trivial ?_)
      rw [hN1.1.1]
      refine ic_ge hX (49) 71 (by decide +kernel) (by decide) (fun c_22 => ?_) (fun c => absurd (nI_le (Nat.le_refl _) (by omega)) c)
      refine bk hX lkX11_ok (pc' := 72) [.iload_n 2] (by decide +kernel) (And.intro trivial ?_)
      exact z_iret hX (by decide +kernel) rfl (rfl) (by decide) (by decide) (⟨R1, I1, rfl, by rw [hadS, if_pos (isIn_nI hi (by omega)), jx_nI (by omega)], q1, q2⟩)
    | succ m ih =>
      intro c R1 I1 hc q1 q2
      have hN1 := xN_a hN q1 q2
      have hcn : c < gn g := by omega
      obtain ⟨w1, w2⟩ := wh_sp hg hcn
      refine bk hX lkX11_ok (pc' := 22) [.iload_n 3, .aload_n 0, .getfield 12, .getfield 65] (by decide +kernel) (And.intro trivial ?_)
      rw [hN1.1.1]
      refine ic_ge hX (49) 71 (by decide +kernel) (by decide) (fun c => absurd c (nI_ge (by omega) (by omega))) (fun c_22 => ?_)
      refine bk hX lkX11_ok (pc' := 33) [.aload_n 0, .getfield 18, .aload_n 0, .getfield 12] (by decide +kernel) (And.intro trivial ?_)
      refine z_callV hX kw_X11_184 (c_T_follow E K N _ _ L hg hN1) rfl rfl rfl rfl rfl (by decide +kernel) (by decide) (by decide) (by decide) (by decide) (Nat.le_of_ble_eq_true rfl) ?_
      rintro _ _ ⟨R2, I2, rfl, rfl, x1, x2, x3, x4⟩
      refine bk hX lkX11_ok (pc' := 46) [.aload_n 0, .getfield 18, .iload_n 1, .aload_n 0, .getfield 18, .iload_n 3] (by decide +kernel) (And.intro trivial ?_)
      refine z_callV hX kw_X11_212 (c_G4_holder E K N R2 I2 L hg x1 hcn) rfl rfl rfl rfl rfl (by decide +kernel) (by decide) (by decide) (by decide) (by decide) (Nat.le_of_ble_eq_true rfl) ?_
      rintro _ _ ⟨rfl, rfl⟩
      refine z_callV hX kw_X11_123 (c_G4_exchange E K N R2 I2 L i (wh (gc g) c) (by omega) (by omega)) rfl rfl rfl rfl rfl (by decide +kernel) (by decide) (by decide) (by decide) (by decide) (Nat.le_of_ble_eq_true rfl) ?_
      rintro _ _ ⟨rfl, rfl⟩
      have y1 := xG_sw (b := 340) (by decide) x1 hi w1
      have y2 := gfr_sw (b := 340) (n := gn g) (I := I2) i (wh (gc g) c) (I2 (340 + 3) (wh (gc g) c)) (I2 (340 + 3) i)
      have hA0 := aE_tr q2 (aE_tr x4 (aE_g y2))
      refine bk hX lkX11_ok (pc' := 53) [.aload_n 0] (by decide +kernel) (And.intro trivial ?_)
      refine z_callV hX kw_X11_215 (c_X_trialMeetsSeen E K N R2 _ L (gwf_sw hg hi w1) y1 hw0 (xH_I x2 (gfr_hi (by decide) y2)) hd (xSn_a hs hA0) h5 hws) rfl rfl rfl rfl rfl (by decide +kernel) (by decide) (by decide) (by decide) (by decide) (Nat.le_of_ble_eq_true rfl) ?_
      rintro _ _ ⟨I3, rfl, rfl, z2⟩
      have hA := aE_tr hA0 (aE_g z2)
      have hB := aR_tr q1 x3
      rcases b2i_or (snB (swG g i (wh (gc g) c)) (rdS w) s s.1) with ⟨hb, eb⟩ | ⟨hb, eb⟩
      all_goals rw [eb]
      · refine if_eq hX (9) 65 (by decide +kernel) (by decide) (fun c => absurd c (by decide)) (fun c_56 => ?_)
        refine bk hX lkX11_ok (pc' := 68) [.iload_n 2, .iconst 1, .iload_n 3, .ishl, .ior, .istore_n 2, .iinc 3 1] (by decide +kernel) (And.intro trivial ?_)
        refine gt_ hX (-54) 14 (by decide +kernel) (by decide) ?_
        refine z_lvk (lv' := [(0, _), (1, _), (2, _), (3, _)]) [2, 3, 1, 0] rfl ?_
        have eo : hdN g (rdS w) s i (c + 1) = hdN g (rdS w) s i c ||| (if snB (swG g i (wh (gc g) c)) (rdS w) s s.1 = true then 2 ^ c else 0) := rfl
        have K1 := ih (c + 1) R2 I3 (by omega) hB hA
        rw [eo] at K1
        first
          | (rw [if_pos hb] at K1
             rw [i_1shl (by omega), i_or, nI_add]
             exact K1)
          | (rw [if_neg hb, Nat.or_zero] at K1
             rw [nI_add]
             exact K1)
      · refine if_eq hX (9) 65 (by decide +kernel) (by decide) (fun c_56 => ?_) (fun c => absurd (by decide) c)
        refine bk hX lkX11_ok (pc' := 68) [.iinc 3 1] (by decide +kernel) (And.intro trivial ?_)
        refine gt_ hX (-54) 14 (by decide +kernel) (by decide) ?_
        refine z_lvk (lv' := [(0, _), (1, _), (2, _), (3, _)]) [1, 2, 3, 0] rfl ?_
        have eo : hdN g (rdS w) s i (c + 1) = hdN g (rdS w) s i c ||| (if snB (swG g i (wh (gc g) c)) (rdS w) s s.1 = true then 2 ^ c else 0) := rfl
        have K1 := ih (c + 1) R2 I3 (by omega) hB hA
        rw [eo] at K1
        first
          | (rw [if_pos hb] at K1
             rw [i_1shl (by omega), i_or, nI_add]
             exact K1)
          | (rw [if_neg hb, Nat.or_zero] at K1
             rw [nI_add]
             exact K1)
  refine bk hX lkX11_ok (pc' := 2) [.aload_n 0, .iload_n 1] (by decide +kernel) (And.intro trivial ?_)
  refine z_callV hX kw_X11_77 (c_X_isWorker E K N _ _ L _ hg.1 hN.1.1) rfl rfl rfl rfl rfl (by decide +kernel) (by decide) (by decide) (by decide) (by decide) (Nat.le_of_ble_eq_true rfl) ?_
  rintro _ _ ⟨rfl, hh⟩
  rcases hh with ⟨hw, rfl⟩ | ⟨hw, rfl⟩
  · refine if_ne hX (5) 10 (by decide +kernel) (by decide) (fun c_5 => ?_) (fun c => absurd c (by decide))
    refine bk hX lkX11_ok (pc' := 14) [.iconst 0, .istore_n 2, .iconst 0, .istore_n 3] (by decide +kernel) (And.intro trivial ?_)
    refine z_lvk (lv' := [(0, _), (1, _), (2, _), (3, _)]) [2, 3, 1, 0] rfl ?_
    obtain ⟨i, hi, hxi⟩ := isIn_ex hw (by omega)
    exact hl i hi hxi (gn g) 0 Rf I (by omega) (aR_rf _) (aE_rf _)
  · refine if_ne hX (5) 10 (by decide +kernel) (by decide) (fun c => absurd (by decide) c) (fun c_5 => ?_)
    refine bk hX lkX11_ok (pc' := 9) [.iconst (Int.negSucc 0)] (by decide +kernel) (And.intro trivial ?_)
    exact z_iret hX (by decide +kernel) rfl (rfl) (by decide) (by decide) (⟨Rf, I, rfl, by rw [hadS, if_neg hw], aR_rf _, aE_rf _⟩)
theorem gwf_gp {g : Gv} (hg : gwf g) (r : Nat) {wh x : Nat} (h1 : wh = 1 → x / 10 < gn g ∧ x % 10 < gn g) : gwf (gpS r g wh x) := by
  unfold gpS
  split
  · exact gwf_day hg r
  · split
    · rename_i h; exact gwf_sw hg (h1 h).1 (h1 h).2
    · exact gwf_hom hg _ _
theorem gwf_ep {g : Gv} (hg : gwf g) (r : Nat) {s : Rw} (hws : wPl s g) : ∀ k, k ≤ s.1 → gwf (epN r s g k)
  | 0, _ => hg
  | k + 1, hk => gwf_gp (gwf_ep hg r hws k (by omega)) r (fun h => by rw [epN_n]; exact (hws k (by omega)).2.2.1 h)
set_option maxHeartbeats 1000000 in
theorem c_X_ends (E : zE) (K N : Nat → Nat) (Rf : Nat → Nat → Option Nat) (I : Nat → Nat → Int32) (L : Nat → Nat → Int64) {g : Gv} (hg : gwf g) {w : Wk} (hw0 : wok w) (hd : gd g ≤ 90000) (hN : xN g w K N Rf I) {s : Rw} (hs : xPl 314 s I) (h5 : s.1 ≤ 10) (hws : wPl s g) (wh : Int32) : zCt E mX11_ends 7 0 0 (sg K N Rf I L) [.ref 200, .int wh] (fun r σ' => ∃ Rf' I', σ' = sg K N Rf' I' L ∧ r = some (.int (endS g w s wh)) ∧ aR Rf Rf' ∧ aE I I') := by
  have h6 := hg.1
  have hG := hN.1
  refine z_intro (by decide) (Nat.le_of_ble_eq_true rfl) (fun X hX => ?_)
  have hl : isIn wh 2 = true → ∀ m k (R1 : Nat → Nat → Option Nat) (I1 : Nat → Nat → Int32), k + m = s.1 → aR Rf R1 → aE I I1 → xG 340 (epN (rdS w) s g k) K R1 I1 → xH 340 w K N R1 I1 → zS X (sg K N R1 I1 L) 0 0 26 [(0, .ref 200), (1, .int wh), (2, .int (nI k))] [] := by
    intro hw2 m
    induction m with
    | zero =>
      intro k R1 I1 hk q1 q2 q3 q4
      obtain rfl : k = s.1 := by omega
      have hp1 := xPl_a hs q2
      have hge := gwf_ep hg (rdS w) hws s.1 (Nat.le_refl _)
      have hde := epN_d (rdS w) s g s.1
      have hne := epN_n (rdS w) s g s.1
      refine bk hX lkX11_ok (pc' := 37) [.iload_n 2, .aload_n 0, .getfield 12, .getfield 224, .getfield 206] (by decide +kernel) (And.intro trivial ?_)
      rw [hp1.1]
      refine ic_ge hX (40) 77 (by decide +kernel) (by decide) (fun c_37 => ?_) (fun c => absurd (nI_le (Nat.le_refl _) (by omega)) c)
      refine bk hX lkX11_ok (pc' := 78) [.iload_n 1] (by decide +kernel) (And.intro trivial ?_)
      refine if_ne hX (13) 91 (by decide +kernel) (by decide) (fun c78 => ?_) (fun c78 => ?_)
      · refine bk hX lkX11_ok (pc' := 95) [.aload_n 0, .getfield 18] (by decide +kernel) (And.intro trivial ?_)
        refine z_callV hX kw_X11_165 (c_G4_allTemper E K N R1 I1 L hge q3 (by omega) hw0 q4) rfl rfl rfl rfl rfl (by decide +kernel) (by decide) (by decide) (by decide) (by decide) (Nat.le_of_ble_eq_true rfl) ?_
        rintro _ _ ⟨rfl, rfl⟩
        rw [hne]
        exact z_iret hX (by decide +kernel) rfl (rfl) (by decide) (by decide) (by
  first
    | exact ⟨R1, I1, rfl, by rw [endS, if_pos hw2, if_pos c78], q1, q2⟩
    | exact ⟨R1, I1, rfl, by rw [endS, if_pos hw2, if_neg c78], q1, q2⟩)
      · refine bk hX lkX11_ok (pc' := 85) [.aload_n 0, .getfield 18] (by decide +kernel) (And.intro trivial ?_)
        refine z_callV hX kw_X11_162 (c_G4_allHoles E K N R1 I1 L hge q3) rfl rfl rfl rfl rfl (by decide +kernel) (by decide) (by decide) (by decide) (by decide) (Nat.le_of_ble_eq_true rfl) ?_
        rintro _ _ ⟨rfl, rfl⟩
        rw [hne]
        refine gt_ hX (10) 98 (by decide +kernel) (by decide) ?_
        exact z_iret hX (by decide +kernel) rfl (rfl) (by decide) (by decide) (by
  first
    | exact ⟨R1, I1, rfl, by rw [endS, if_pos hw2, if_pos c78], q1, q2⟩
    | exact ⟨R1, I1, rfl, by rw [endS, if_pos hw2, if_neg c78], q1, q2⟩)
    | succ m ih =>
      intro k R1 I1 hk q1 q2 q3 q4
      have hp1 := xPl_a hs q2
      have hkn : k < s.1 := by omega
      have hge := gwf_ep hg (rdS w) hws k (by omega)
      have hde := epN_d (rdS w) s g k
      have hne := epN_n (rdS w) s g k
      obtain ⟨w1, w2, w3, w4⟩ := hws k hkn
      have ck : (nI k).toNatClampNeg = k := cl (by omega)
      have e1 : I1 315 k = nI (s.2.1 k) := (hp1.2 k hkn).1
      refine bk hX lkX11_ok (pc' := 37) [.iload_n 2, .aload_n 0, .getfield 12, .getfield 224, .getfield 206] (by decide +kernel) (And.intro trivial ?_)
      rw [hp1.1]
      refine ic_ge hX (40) 77 (by decide +kernel) (by decide) (fun c => absurd c (nI_ge (by omega) (by omega))) (fun c_37 => ?_)
      refine bk hX lkX11_ok (pc' := 68) [.aload_n 0, .getfield 18, .aload_n 0, .getfield 12, .getfield 224, .getfield 227, .iload_n 2, .iaload, .aload_n 0, .getfield 12, .getfield 224, .getfield 230, .iload_n 2, .iaload] (by decide +kernel) (And.intro (by exact vin 10 (by omega)) (And.intro (by exact vin 10 (by omega)) (And.intro trivial ?_)))
      simp only [ck, e1]
      refine z_callV hX kw_X11_233 (c_G4_goPlanned E K N R1 I1 L hge q3 hw0 q4 (by omega) (wh := s.2.1 k) (x := s.2.2.1 k) w1 (hp1.2 k hkn).2 w2 (fun z => by rw [hne]; exact w3 z)) rfl rfl rfl rfl rfl (by decide +kernel) (by decide) (by decide) (by decide) (by decide) (Nat.le_of_ble_eq_true rfl) ?_
      rintro _ _ ⟨I2, rfl, rfl, z1, z2⟩
      refine bk hX lkX11_ok (pc' := 74) [.iinc 2 1] (by decide +kernel) (And.intro trivial ?_)
      refine gt_ hX (-48) 26 (by decide +kernel) (by decide) ?_
      refine z_lvk (lv' := [(0, _), (1, _), (2, _)]) [1, 2, 0] rfl ?_
      rw [nI_add]
      exact ih (k + 1) R1 I2 (by omega) q1 (aE_tr q2 (aE_g z2)) z1 (xH_I q4 (gfr_hi (by decide) z2))
  refine bk hX lkX11_ok (pc' := 1) [.iload_n 1] (by decide +kernel) (And.intro trivial ?_)
  refine if_lt hX (8) 9 (by decide +kernel) (by decide) (fun c1 => ?_) (fun c1 => ?_)
  · refine bk hX lkX11_ok (pc' := 12) [.sipush (Int.negSucc 1000)] (by decide +kernel) (And.intro trivial ?_)
    exact z_iret hX (by decide +kernel) rfl (rfl) (by decide) (by decide) (by
  have e : ¬ isIn wh 2 = true := by first | exact isIn_f1 c1 | exact isIn_gt 1 (i_nle.mp c6)
  exact ⟨Rf, I, rfl, by rw [endS, if_neg e], aR_rf _, aE_rf _⟩)
  · refine bk hX lkX11_ok (pc' := 6) [.iload_n 1, .iconst 1] (by decide +kernel) (And.intro trivial ?_)
    refine ic_le hX (7) 13 (by decide +kernel) (by decide) (fun c6 => ?_) (fun c6 => ?_)
    · refine bk hX lkX11_ok (pc' := 21) [.aload_n 0, .getfield 18, .aload_n 0, .getfield 12] (by decide +kernel) (And.intro trivial ?_)
      refine z_callV hX kw_X11_184 (c_T_follow E K N _ _ L hg hN) rfl rfl rfl rfl rfl (by decide +kernel) (by decide) (by decide) (by decide) (by decide) (Nat.le_of_ble_eq_true rfl) ?_
      rintro _ _ ⟨R1, I1, rfl, rfl, x1, x2, x3, x4⟩
      refine bk hX lkX11_ok (pc' := 26) [.iconst 0, .istore_n 2] (by decide +kernel) (And.intro trivial ?_)
      refine z_lvk (lv' := [(0, _), (1, _), (2, _)]) [1, 2, 0] rfl ?_
      exact hl (isIn_le (n := 2) 1 c1 (i_nlt.mpr c6)) s.1 0 R1 I1 (by omega) x3 x4 x1 x2
    · refine bk hX lkX11_ok (pc' := 12) [.sipush (Int.negSucc 1000)] (by decide +kernel) (And.intro trivial ?_)
      exact z_iret hX (by decide +kernel) rfl (rfl) (by decide) (by decide) (by
  have e : ¬ isIn wh 2 = true := by first | exact isIn_f1 c1 | exact isIn_gt 1 (i_nle.mp c6)
  exact ⟨Rf, I, rfl, by rw [endS, if_neg e], aR_rf _, aE_rf _⟩)
