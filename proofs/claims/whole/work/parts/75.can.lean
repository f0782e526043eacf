/-! ===== can; the image ===== -/
def aG (K N : Nat → Nat) (R : Nat → Nat → Option Nat) (I : Nat → Nat → Int32) (K' N' : Nat → Nat) (R' : Nat → Nat → Option Nat) (I' : Nat → Nat → Int32) : Prop := grw K N R I K' N' R' I' ∧ fre K' ∧ (∀ q, q < 1000 → q ≠ 340 → q ≠ 341 → R' q = R q) ∧ (∀ q, q < 1000 → (q < 340 ∨ 380 ≤ q) → q ≠ 209 → q ≠ 210 → I' q = I q)
theorem aG_of {K N : Nat → Nat} {R R' : Nat → Nat → Option Nat} {I I' : Nat → Nat → Int32} (hf : fre K) (hR : aR R R') (hI : aE I I') : aG K N R I K N R' I' := ⟨fun q hq _ => ⟨rfl, rfl, hR q (by omega) (by omega), hI q (by omega) (by omega) (by omega)⟩, hf, fun q _ a b => hR q a b, fun q _ a b c => hI q a b c⟩
theorem aG_tr {K N K1 N1 K2 N2 : Nat → Nat} {R R1 R2 : Nat → Nat → Option Nat} {I I1 I2 : Nat → Nat → Int32} (h1 : aG K N R I K1 N1 R1 I1) (h2 : aG K1 N1 R1 I1 K2 N2 R2 I2) : aG K N R I K2 N2 R2 I2 := ⟨grw_tr h1.1 h2.1, h2.2.1, fun q a b c => (h2.2.2.1 q a b c).trans (h1.2.2.1 q a b c), fun q a b c d => (h2.2.2.2 q a b c d).trans (h1.2.2.2 q a b c d)⟩
theorem xN_g {g : Gv} (hg : gwf g) {w : Wk} {K N K' N' : Nat → Nat} {R R' : Nat → Nat → Option Nat} {I I' : Nat → Nat → Int32} (h : xN g w K N R I) (ha : aG K N R I K' N' R' I') : xN g w K' N' R' I' := by
  obtain ⟨a1, a2, a3, a4⟩ := ha
  exact ⟨xG_g hg h.1 a1 (a3 _ (by decide) (by decide) (by decide)) (a4 _ (by decide) (by decide) (by decide) (by decide)) (a4 _ (by decide) (by decide) (by decide) (by decide)) (a4 _ (by decide) (by decide) (by decide) (by decide)) (a4 _ (by decide) (by decide) (by decide) (by decide)), xH_g h.2.1 a1 (by rw [a3 300 (by decide) (by decide) (by decide)]), xHs_g h.2.2 a1 (a3 _ (by decide) (by decide) (by decide))⟩
theorem xSn_g {s : Rw} {K N K' N' : Nat → Nat} {R R' : Nat → Nat → Option Nat} {I I' : Nat → Nat → Int32} (h : xSn 310 s I) (ha : aG K N R I K' N' R' I') : xSn 310 s I' := by
  unfold xSn
  rw [ha.2.2.2 310 (by decide) (by decide) (by decide) (by decide), ha.2.2.2 (310 + 1) (by decide) (by decide) (by decide) (by decide), ha.2.2.2 (310 + 2) (by decide) (by decide) (by decide) (by decide), ha.2.2.2 (310 + 3) (by decide) (by decide) (by decide) (by decide)]
  exact h
theorem xG_vG {g : Gv} (hg : gwf g) {K : Nat → Nat} {R : Nat → Nat → Option Nat} {I : Nat → Nat → Int32} (hG : xG 340 g K R I) {i n v : Nat} (hi : i < gn g) (hn : 1000 ≤ n) (hK : K n = 0) : xG 340 (vG g i v) (upK K n (hci (gk g i) + 1)) (up2 (upW R n none) 341 i (some n)) (mkI n i v I) := by
  have h6 := hg.1
  obtain ⟨g1, g2, g3, g4⟩ := hG
  have hfr := grw_mk (N := fun _ => 0) (R := R) (I := I) hK (hci (gk g i) + 1) i v
  refine ⟨by rw [mkI_ne (by omega)]; exact g1, by rw [mkI_ne (by omega)]; exact g2, by rw [mkI_ne (by omega)]; exact g3, fun p hp => ?_⟩
  obtain ⟨⟨h, k1, k2⟩, k3, k4, k5⟩ := g4 p hp
  refine ⟨?_, by rw [mkI_ne (by omega)]; exact k3, by rw [mkI_ne (by omega)]; exact k4, fun j hj => by rw [mkI_ne (by omega)]; exact k5 j hj⟩
  show ∃ h, up2 (upW R n none) 341 i (some n) 341 p = some h ∧ xHd _ _ h (gk g p) p (upN (gv g) i v p)
  by_cases e : p = i
  · subst e
    exact ⟨n, up2_self _ _ _ _, by rw [upN_at]; exact mkI_hd hn⟩
  · exact ⟨h, by rw [up2_at, if_neg e, upW_ne _ _ (by omega)]; exact k1, by rw [upN_ne _ _ e]; exact xHd_g (hg.2.1 p hp).1 k2 hfr⟩
set_option maxHeartbeats 2000000 in
theorem c_X_can (E : zE) (K N : Nat → Nat) (Rf : Nat → Nat → Option Nat) (I : Nat → Nat → Int32) (L : Nat → Nat → Int64) {g : Gv} (hg : gwf g) {w : Wk} (hw0 : wok w) (hd : gd g ≤ 90000) (hN : xN g w K N Rf I) {s : Rw} (hs : xSn 310 s I) (h5 : s.1 ≤ 5) (hws : wSn s g) (hf : fre K) (x what : Int32) : zCt E mX11_can 6 10 20 (sg K N Rf I L) [.ref 200, .int x, .int what] (fun r σ' => ∃ K' Rf' I', σ' = sg K' N Rf' I' L ∧ r = some (.int (canS g (rdS w) s x what)) ∧ aG K N Rf I K' N Rf' I') := by
  have h6 := hg.1
  have hG := hN.1
  refine z_intro (by decide) (Nat.le_of_ble_eq_true rfl) (fun X hX => ?_)
  have hl : ∀ i, i < gn g → x = nI i → isIn what 2 = true → ∀ m (y : Nat × Int32) (K1 : Nat → Nat) (R1 : Nat → Nat → Option Nat) (I1 : Nat → Nat → Int32), m ≤ 10 → cnL g (rdS w) s i m y = cnL g (rdS w) s i 10 (0, -nI 5) → y.1 + m ≤ 10 → aG K N Rf I K1 N R1 I1 → zS X (sg K1 N R1 I1 L) (10 - m) (2 * (10 - m)) 43 [(0, .ref 200), (1, .int x), (2, .int what), (3, .int (nI (gk g i))), (4, .int (nI y.1)), (5, .int y.2), (6, .int (nI m + -nI 1))] [] := by
    intro i hi hxi hw2
    subst hxi
    have ci : (nI i).toNatClampNeg = i := cl (by omega)
    have hw1 : isIn (nI i) (gn g) = true := isIn_nI hi (by omega)
    have hk6 := (hg.2.1 i hi).1
    intro m
    induction m with
    | zero =>
      intro y K1 R1 I1 hm hf1 hy q1
      have hf1 : y = cnL g (rdS w) s i 10 (0, -nI 5) := hf1
      refine bk hX lkX11_ok (pc' := 45) [.iload 6] (by decide +kernel) (And.intro trivial ?_)
      refine if_lt hX (50) 95 (by decide +kernel) (by decide) (fun c_45 => ?_) (fun c => absurd (by decide) c)
      refine bk hX lkX11_ok (pc' := 96) [.iload_n 2] (by decide +kernel) (And.intro trivial ?_)
      refine if_ne hX (8) 104 (by decide +kernel) (by decide) (fun c96 => ?_) (fun c96 => ?_)
      · refine bk hX lkX11_ok (pc' := 106) [.iload 5] (by decide +kernel) (And.intro trivial ?_)
        exact z_iret hX (by decide +kernel) rfl (rfl) (by decide) (by decide) (by
  first
    | exact ⟨K1, R1, I1, rfl, by rw [canS, if_pos ⟨hw1, hw2⟩, if_pos c96, jx_nI (by omega), ← hf1], q1⟩
    | exact ⟨K1, R1, I1, rfl, by rw [canS, if_pos ⟨hw1, hw2⟩, if_neg c96, jx_nI (by omega), ← hf1], q1⟩)
      · refine bk hX lkX11_ok (pc' := 101) [.iload 4] (by decide +kernel) (And.intro trivial ?_)
        refine gt_ hX (5) 106 (by decide +kernel) (by decide) ?_
        exact z_iret hX (by decide +kernel) rfl (rfl) (by decide) (by decide) (by
  first
    | exact ⟨K1, R1, I1, rfl, by rw [canS, if_pos ⟨hw1, hw2⟩, if_pos c96, jx_nI (by omega), ← hf1], q1⟩
    | exact ⟨K1, R1, I1, rfl, by rw [canS, if_pos ⟨hw1, hw2⟩, if_neg c96, jx_nI (by omega), ← hf1], q1⟩)
    | succ m ih =>
      intro y K1 R1 I1 hm hf1 hy q1
      have hf1 : cnL g (rdS w) s i m (if snB (vG g i m) (rdS w) s s.1 = true then (y.1 + 1, nI m) else y) = cnL g (rdS w) s i 10 (0, -nI 5) := hf1
      have hN1 := xN_g hg hN q1
      obtain ⟨n, hn, hBK⟩ := q1.2.1
      have hKn := hBK n (Nat.le_refl _)
      obtain ⟨cq, hcq⟩ := hci_cl (gk g i) hk6
      rw [i_m1' (show 1 ≤ m + 1 by omega), Nat.add_sub_cancel]
      refine bk hX lkX11_ok (pc' := 45) [.iload 6] (by decide +kernel) (And.intro trivial ?_)
      refine if_lt hX (50) 95 (by decide +kernel) (by decide) (fun c => absurd c (nI_nn (by omega))) (fun c_45 => ?_)
      refine bk hX lkX11_ok (pc' := 56) [.aload_n 0, .getfield 18, .aload_n 0, .getfield 12] (by decide +kernel) (And.intro trivial ?_)
      refine z_callV hX kw_X11_184 (c_T_follow E K1 N R1 I1 L hg hN1) rfl rfl rfl rfl rfl (by decide +kernel) (by decide) (by decide) (by omega) (by omega) (Nat.le_of_ble_eq_true rfl) ?_
      rintro _ _ ⟨R2, I2, rfl, rfl, x1, x2, x3, x4⟩
      refine bk hX lkX11_ok (pc' := 71) [.aload_n 0, .getfield 18, .getfield 80, .iload_n 1, .iload_n 3, .iload_n 1, .iload 6] (by decide +kernel) (And.intro trivial ?_)
      refine z_callS hX kw_X11_69 (c_X_made E K1 N R2 I2 L hn hKn (k := gk g i) (i := i) (v := m) hk6) rfl rfl (by decide +kernel) (by decide) (by decide) (by omega) (by omega) (Nat.le_of_ble_eq_true rfl) ?_
      rintro _ _ ⟨rfl, rfl⟩
      refine z_aast hX rfl (vin 6 (by omega)) (show kF (upK K1 n (hci (gk g i) + 1)) n = hci (gk g i) + 1 by rw [kF_hi _ hn, upK_at]) hcq (hand_ok (gk g i) hk6 cq hcq) (by decide +kernel) ?_
      have e2 := up2_rF (upW R2 n none) (t := 341) (Or.inr (Or.inl rfl)) i (some n)
      rw [ci]
      show zS X (kF (upK K1 n (hci (gk g i) + 1)), nF N, mkI n i m I2, L, up2 (rF (upW R2 n none)) 341 i (some n)) _ _ _ _ _
      rw [e2]
      have y1 := xG_vG hg x1 (v := m) hi hn hKn
      have hgr : grw K1 N R1 I1 (upK K1 n (hci (gk g i) + 1)) N (up2 (upW R2 n none) 341 i (some n)) (mkI n i m I2) := by
        intro q hq hk0
        have hne : q ≠ n := fun z => hk0 (by rw [z]; exact hKn)
        exact ⟨upK_ne _ _ hne, rfl, by rw [up2_ne _ _ _ (by omega), upW_ne _ _ hne]; exact x3 q (by omega) (by omega), by rw [mkI_ne hne]; exact x4 q (by omega) (by omega) (by omega)⟩
      have hA : aG K1 N R1 I1 (upK K1 n (hci (gk g i) + 1)) N (up2 (upW R2 n none) 341 i (some n)) (mkI n i m I2) := ⟨hgr, fre_up q1.2.1 _ _, fun q hq h0 h1 => by rw [up2_ne _ _ _ h1, upW_ne _ _ (by omega)]; exact x3 q h0 h1, fun q hq h0 h1 h2 => by rw [mkI_ne (by omega)]; exact x4 q h0 h1 h2⟩
      have hH2 : xH 340 w (upK K1 n (hci (gk g i) + 1)) N (up2 (upW R2 n none) 341 i (some n)) (mkI n i m I2) := by
        refine xH_g (K := K1) (N := N) (R := R2) (I := I2) x2 (fun q hq hk0 => ?_) (by rw [up2_ne _ _ _ (by decide), upW_ne _ _ (by omega)])
        have hne : q ≠ n := fun z => hk0 (by rw [z]; exact hKn)
        exact ⟨upK_ne _ _ hne, rfl, by rw [up2_ne _ _ _ (by omega), upW_ne _ _ hne], mkI_ne hne⟩
      refine bk hX lkX11_ok (pc' := 76) [.aload_n 0] (by decide +kernel) (And.intro trivial ?_)
      refine z_callV hX kw_X11_215 (c_X_trialMeetsSeen E _ N _ _ L (gwf_v hg (p := i) (k := m) (by omega)) y1 hw0 hH2 hd (xSn_g hs (aG_tr q1 hA)) h5 hws) rfl rfl rfl rfl rfl (by decide +kernel) (by decide) (by decide) (by omega) (by omega) (Nat.le_of_ble_eq_true rfl) ?_
      rintro _ _ ⟨I3, rfl, rfl, z2⟩
      have hF := aG_tr (aG_tr q1 hA) (aG_of (fre_up q1.2.1 _ _) (aR_rf _) (aE_g z2))
      rcases b2i_or (snB (vG g i m) (rdS w) s s.1) with ⟨hb, eb⟩ | ⟨hb, eb⟩
      all_goals rw [eb]
      · refine if_eq hX (10) 89 (by decide +kernel) (by decide) (fun c => absurd c (by decide)) (fun c_79 => ?_)
        refine bk hX lkX11_ok (pc' := 92) [.iinc 4 1, .iload 6, .istore 5, .iinc 6 (Int.negSucc 0)] (by decide +kernel) (And.intro trivial ?_)
        refine gt_ hX (-49) 43 (by decide +kernel) (by decide) ?_
        refine z_lvk (lv' := [(0, _), (1, _), (2, _), (3, _), (4, _), (5, _), (6, _)]) [3, 4, 5, 6, 2, 1, 0] rfl ?_
        refine z_cs (cells' := 10 - m) (slots' := 2 * (10 - m)) (pc' := 43) (by omega) (by omega) rfl ?_
        first
          | (rw [if_pos hb] at hf1
             rw [nI_add]
             exact ih (y.1 + 1, nI m) _ _ I3 (by omega) hf1 (by show y.1 + 1 + m ≤ 10; omega) hF)
          | (rw [if_neg hb] at hf1
             exact ih y _ _ I3 (by omega) hf1 (by omega) hF)
      · refine if_eq hX (10) 89 (by decide +kernel) (by decide) (fun c_79 => ?_) (fun c => absurd (by decide) c)
        refine bk hX lkX11_ok (pc' := 92) [.iinc 6 (Int.negSucc 0)] (by decide +kernel) (And.intro trivial ?_)
        refine gt_ hX (-49) 43 (by decide +kernel) (by decide) ?_
        refine z_lvk (lv' := [(0, _), (1, _), (2, _), (3, _), (4, _), (5, _), (6, _)]) [1, 2, 3, 4, 5, 6, 0] rfl ?_
        refine z_cs (cells' := 10 - m) (slots' := 2 * (10 - m)) (pc' := 43) (by omega) (by omega) rfl ?_
        first
          | (rw [if_pos hb] at hf1
             rw [nI_add]
             exact ih (y.1 + 1, nI m) _ _ I3 (by omega) hf1 (by show y.1 + 1 + m ≤ 10; omega) hF)
          | (rw [if_neg hb] at hf1
             exact ih y _ _ I3 (by omega) hf1 (by omega) hF)
  refine bk hX lkX11_ok (pc' := 2) [.aload_n 0, .iload_n 1] (by decide +kernel) (And.intro trivial ?_)
  refine z_callV hX kw_X11_77 (c_X_isWorker E K N _ _ L _ hg.1 hN.1.1) rfl rfl rfl rfl rfl (by decide +kernel) (by decide) (by decide) (by decide) (by decide) (Nat.le_of_ble_eq_true rfl) ?_
  rintro _ _ ⟨rfl, hh⟩
  rcases hh with ⟨hw, rfl⟩ | ⟨hw, rfl⟩
  · refine if_eq hX (12) 17 (by decide +kernel) (by decide) (fun c => absurd c (by decide)) (fun c_5 => ?_)
    refine bk hX lkX11_ok (pc' := 9) [.iload_n 2] (by decide +kernel) (And.intro trivial ?_)
    refine if_lt hX (8) 17 (by decide +kernel) (by decide) (fun c9 => ?_) (fun c9 => ?_)
    · refine bk hX lkX11_ok (pc' := 18) [.iconst (Int.negSucc 0)] (by decide +kernel) (And.intro trivial ?_)
      exact z_iret hX (by decide +kernel) rfl (rfl) (by decide) (by decide) (by
  have e : ¬ (isIn x (gn g) = true ∧ isIn what 2 = true) := by
    first
      | exact fun z => hw z.1
      | exact fun z => isIn_f1 c9 z.2
      | exact fun z => isIn_gt 1 (i_nle.mp c14) (by decide) (by decide) z.2
  exact ⟨K, Rf, I, rfl, by rw [canS, if_neg e], aG_of hf (aR_rf _) (aE_rf _)⟩)
    · refine bk hX lkX11_ok (pc' := 14) [.iload_n 2, .iconst 1] (by decide +kernel) (And.intro trivial ?_)
      refine ic_le hX (5) 19 (by decide +kernel) (by decide) (fun c14 => ?_) (fun c14 => ?_)
      · obtain ⟨i, hi, hxi⟩ := isIn_ex hw (by omega)
        have ci : (nI i).toNatClampNeg = i := cl (by omega)
        obtain ⟨⟨h, hr, hh⟩, -⟩ := hG.2.2.2 i hi
        have hks : (sg K N Rf I L).1 h = hci (gk g i) + 1 := by rw [← hh.2.1]; exact kF_hi K hh.1
        have hk6 := (hg.2.1 i hi).1
        refine bk hX lkX11_ok (pc' := 27) [.aload_n 0, .getfield 12, .getfield 80, .iload_n 1] (by decide +kernel) (And.intro trivial ?_)
        refine z_aald hX (q := h) (rfl) (by rw [hxi]; exact vin 6 (by omega)) (by rw [hxi, ci]; exact hr) (by decide +kernel) ?_
        refine vc_kind_X11 hX rfl hk6 hks (by decide +kernel) (by decide) (by decide) (by decide) (Nat.le_of_ble_eq_true rfl) ?_
        refine bk hX lkX11_ok (pc' := 43) [.istore_n 3, .iconst 0, .istore 4, .bipush (Int.negSucc 4), .istore 5, .bipush 9, .istore 6] (by decide +kernel) (And.intro trivial ?_)
        refine z_lvk (lv' := [(0, _), (1, _), (2, _), (3, _), (4, _), (5, _), (6, _)]) [4, 5, 6, 3, 2, 1, 0] rfl ?_
        exact hl i hi hxi (isIn_le (n := 2) 1 c9 (i_nlt.mpr c14)) 10 (0, -nI 5) K Rf I (Nat.le_refl _) rfl (Nat.le_refl _) (aG_of hf (aR_rf _) (aE_rf _))
      · refine bk hX lkX11_ok (pc' := 18) [.iconst (Int.negSucc 0)] (by decide +kernel) (And.intro trivial ?_)
        exact z_iret hX (by decide +kernel) rfl (rfl) (by decide) (by decide) (by
  have e : ¬ (isIn x (gn g) = true ∧ isIn what 2 = true) := by
    first
      | exact fun z => hw z.1
      | exact fun z => isIn_f1 c9 z.2
      | exact fun z => isIn_gt 1 (i_nle.mp c14) (by decide) (by decide) z.2
  exact ⟨K, Rf, I, rfl, by rw [canS, if_neg e], aG_of hf (aR_rf _) (aE_rf _)⟩)
  · refine if_eq hX (12) 17 (by decide +kernel) (by decide) (fun c_5 => ?_) (fun c => absurd (by decide) c)
    refine bk hX lkX11_ok (pc' := 18) [.iconst (Int.negSucc 0)] (by decide +kernel) (And.intro trivial ?_)
    exact z_iret hX (by decide +kernel) rfl (rfl) (by decide) (by decide) (by
  have e : ¬ (isIn x (gn g) = true ∧ isIn what 2 = true) := by
    first
      | exact fun z => hw z.1
      | exact fun z => isIn_f1 c9 z.2
      | exact fun z => isIn_gt 1 (i_nle.mp c14) (by decide) (by decide) z.2
  exact ⟨K, Rf, I, rfl, by rw [canS, if_neg e], aG_of hf (aR_rf _) (aE_rf _)⟩)
theorem c_X_image (E : zE) (K N : Nat → Nat) (Rf : Nat → Nat → Option Nat) (I : Nat → Nat → Int32) (L : Nat → Nat → Int64) {g : Gv} (hG : xG 300 g K Rf I) (hs : xHs 300 K Rf) {n1 n2 n3 : Nat} (h1 : n1 ≤ 5) (h2 : n2 ≤ 10) (h3 : n3 ≤ 8) (e1 : I 310 3 = nI n1) (e2 : I 314 3 = nI n2) (e3 : I 318 3 = nI n3) : zCt E mX11_image 3 0 0 (sg K N Rf I L) [.ref 200] (fun r σ' => σ' = sg K N (flR 380 300 Rf) (up2 (bcI 380 300 n1 n2 n3 I) 200 3 (nI 1)) L ∧ r = some (.int (nI (gn g)))) := by
  refine z_intro (by decide) (Nat.le_of_ble_eq_true rfl) (fun X hX => ?_)
  refine bk hX lkX11_ok (pc' := 8) [.aload_n 0, .getfield 21, .aload_n 0, .getfield 12] (by decide +kernel) (And.intro trivial ?_)
  refine z_callV hX kw_X11_246 (c_B38 E K N Rf I L hs h1 h2 h3 e1 e2 e3) rfl rfl rfl rfl rfl (by decide +kernel) (by decide) (by decide) (by decide) (by decide) (Nat.le_of_ble_eq_true rfl) ?_
  rintro _ _ ⟨rfl, rfl⟩
  refine bk hX lkX11_ok (pc' := 23) [.aload_n 0, .iconst 1, .putfield 249, .aload_n 0, .getfield 12, .getfield 65] (by decide +kernel) (And.intro (by exact ⟨rfl, rfl⟩) (And.intro trivial ?_))
  exact z_iret hX (by decide +kernel) rfl (rfl) (by decide) (by decide) (by
  refine ⟨rfl, ?_⟩
  have e : up2 (bcI 380 300 n1 n2 n3 I) 200 3 (nI 1) 300 4 = I 300 4 := by
    rw [up2_ne _ _ _ (by decide)]
    simp [bcI, rwI, flI]
  exact congrArg some (congrArg Value.int (e.trans hG.1)))
theorem c_X_undo (E : zE) (K N : Nat → Nat) (Rf : Nat → Nat → Option Nat) (I : Nat → Nat → Int32) (L : Nat → Nat → Int64) (hs : ¬ I 200 3 = 0 → xHs 380 K Rf) {n0 n1 n2 n3 : Nat} (h1 : n1 ≤ 5) (h2 : n2 ≤ 10) (h3 : n3 ≤ 8) (e0 : ¬ I 200 3 = 0 → I 380 4 = nI n0 ∧ I 390 3 = nI n1 ∧ I 394 3 = nI n2 ∧ I 398 3 = nI n3) : zCt E mX11_undo 3 0 0 (sg K N Rf I L) [.ref 200] (fun r σ' => (I 200 3 = 0 ∧ σ' = (sg K N Rf I L) ∧ r = some (.int (-nI 3))) ∨ (¬ I 200 3 = 0 ∧ σ' = sg K N (flR 300 380 Rf) (bcI 300 380 n1 n2 n3 I) L ∧ r = some (.int (nI n0)))) := by
  refine z_intro (by decide) (Nat.le_of_ble_eq_true rfl) (fun X hX => ?_)
  refine bk hX lkX11_ok (pc' := 4) [.aload_n 0, .getfield 249] (by decide +kernel) (And.intro trivial ?_)
  refine if_ne hX (6) 10 (by decide +kernel) (by decide) (fun c4 => ?_) (fun c4 => ?_)
  · refine bk hX lkX11_ok (pc' := 18) [.aload_n 0, .getfield 12, .aload_n 0, .getfield 21] (by decide +kernel) (And.intro trivial ?_)
    refine z_callV hX kw_X11_246 (c_B30 E K N Rf I L (hs c4) h1 h2 h3 (e0 c4).2.1 (e0 c4).2.2.1 (e0 c4).2.2.2) rfl rfl rfl rfl rfl (by decide +kernel) (by decide) (by decide) (by decide) (by decide) (Nat.le_of_ble_eq_true rfl) ?_
    rintro _ _ ⟨rfl, rfl⟩
    refine bk hX lkX11_ok (pc' := 28) [.aload_n 0, .getfield 12, .getfield 65] (by decide +kernel) (And.intro trivial ?_)
    exact z_iret hX (by decide +kernel) rfl (rfl) (by decide) (by decide) (by
  refine Or.inr ⟨c4, rfl, ?_⟩
  have e : bcI 300 380 n1 n2 n3 I 300 4 = I 380 4 := by
    simp [bcI, rwI, flI]
  exact congrArg some (congrArg Value.int (e.trans (e0 c4).1)))
  · refine bk hX lkX11_ok (pc' := 9) [.bipush (Int.negSucc 2)] (by decide +kernel) (And.intro trivial ?_)
    exact z_iret hX (by decide +kernel) rfl (rfl) (by decide) (by decide) (Or.inl ⟨c4, rfl, rfl⟩)
