/-! ===== the best: the class's tables ===== -/
def tbA (τ : Nat → Nat → Int32) (n : Nat) (I : Nat → Nat → Int32) : Prop := (∀ p c, p < n → c < n → I 209 (6 * p + c) = τ p c) ∧ ∀ v, v < 2 ^ n → (I 210 v).toInt = gz (tZ τ) n (n - pcN v 10) v
theorem tbA_u {τ : Nat → Nat → Int32} {n : Nat} {I : Nat → Nat → Int32} (h : tbA τ n I) (u : Nat) : tbl τ n u I := ⟨h.1, fun v _ hv => h.2 v hv⟩
theorem aE_9 (I : Nat → Nat → Int32) (k : Nat) (v : Int32) : aE I (up2 I 209 k v) := fun q _ h _ => up2_ne _ _ _ h
theorem aE_10 (I : Nat → Nat → Int32) (k : Nat) (v : Int32) : aE I (up2 I 210 k v) := fun q _ _ h => up2_ne _ _ _ h
set_option maxHeartbeats 4000000 in
theorem c_X_weigh (E : zE) (K N : Nat → Nat) (Rf : Nat → Nat → Option Nat) (I : Nat → Nat → Int32) (L : Nat → Nat → Int64) {g : Gv} (hg : gwf g) {w : Wk} (hw0 : wok w) (hd : gd g ≤ 90000) (hN : xN g w K N Rf I) : zCt E mX11_weighAllWays 4 0 0 (sg K N Rf I L) [.ref 200] (fun r σ' => ∃ I', σ' = sg K N Rf I' L ∧ r = none ∧ aE I I' ∧ tbA (tmS g w) (gn g) I') := by
  have h6 := hg.1
  have hT : ∀ p c, p < gn g → bd 2000 (tmS g w p c) := fun p c hp => tm_bd hg hw0 hp c
  have h64 : 2 ^ gn g ≤ 64 := Nat.pow_le_pow_right (n := 2) (by decide) h6
  have h1p : 0 < 2 ^ gn g := Nat.two_pow_pos _
  refine z_intro (by decide) (Nat.le_of_ble_eq_true rfl) (fun X hX => ?_)
  have hgr : ∀ v (I1 : Nat → Nat → Int32), v + 1 ≤ 2 ^ gn g → aE I I1 → (∀ p c, p < gn g → c < gn g → I1 209 (6 * p + c) = tmS g w p c) → (∀ x, v ≤ x → x < 2 ^ gn g → (I1 210 x).toInt = gz (tZ (tmS g w)) (gn g) (gn g - pcN x 10) x) → zS X (sg K N Rf I1 L) 0 0 71 [(0, .ref 200), (1, .int (nI (gn g))), (2, .int (nI (2 ^ gn g - 1))), (3, .int (nI v - nI 1))] [] := by
    intro v
    induction v with
    | zero =>
      intro I1 hv d1 d2 d3
      refine bk hX lkX11_ok (pc' := 72) [.iload_n 3] (by decide +kernel) (And.intro trivial ?_)
      refine if_lt hX (25) 97 (by decide +kernel) (by decide) (fun c_72 => ?_) (fun c => absurd (by decide) c)
      exact z_vret hX (by decide +kernel) rfl (by decide) (by decide) (⟨I1, rfl, rfl, d1, d2, fun x hx => d3 x (Nat.zero_le _) hx⟩)
    | succ v ih =>
      intro I1 hv d1 d2 d3
      have hN1 := xN_a hN (aR_rf _) d1
      have ht : tbl (tmS g w) (gn g) v I1 := ⟨d2, fun x h1 h2 => d3 x h1 h2⟩
      have hpl := (pc_lt (gn g) h6 v (by omega)).2.1 (by omega)
      obtain ⟨c0, hc0, hb0⟩ := free_ex (gn g) h6 v (by omega) hpl
      obtain ⟨f1, f2, f3, f4⟩ := fbN_ok (v := vz (tZ (tmS g w)) (gn g) (gn g - (pcN v 10 + 1)) v) hc0 hb0
      have cv : (nI v).toNatClampNeg = v := cl (by omega)
      rw [show nI (v + 1) - nI 1 = nI v by rw [i_m1 (n := v + 1) (by omega), Nat.add_sub_cancel]]
      refine bk hX lkX11_ok (pc' := 72) [.iload_n 3] (by decide +kernel) (And.intro trivial ?_)
      refine if_lt hX (25) 97 (by decide +kernel) (by decide) (fun c => absurd c (nI_nn (by omega))) (fun c_72 => ?_)
      refine bk hX lkX11_ok (pc' := 84) [.aload_n 0, .getfield 39, .iload_n 3, .aload_n 0, .iload_n 3, .aload_n 0, .iload_n 3] (by decide +kernel) (And.intro trivial ?_)
      refine z_callV hX kw_X11_313 (c_X_firstBest E K N Rf I1 L h6 hT (u := v) (by omega) ht hN1.1.1) rfl rfl rfl rfl rfl (by decide +kernel) (by decide) (by decide) (by decide) (by decide) (Nat.le_of_ble_eq_true rfl) ?_
      rintro _ _ ⟨rfl, rfl⟩
      refine z_callV hX kw_X11_316 (c_X_with E K N Rf I1 L h6 hT (u := v) (by omega) ht f1 f2) rfl rfl rfl rfl rfl (by decide +kernel) (by decide) (by decide) (by decide) (by decide) (Nat.le_of_ble_eq_true rfl) ?_
      rintro _ _ ⟨rfl, x1, rfl, hx1⟩
      refine bk hX lkX11_ok (pc' := 94) [.iastore, .iinc 3 (Int.negSucc 0)] (by decide +kernel) (And.intro (by exact vin 64 (by omega)) (And.intro trivial ?_))
      refine gt_ hX (-23) 71 (by decide +kernel) (by decide) ?_
      refine z_lvk (lv' := [(0, _), (1, _), (2, _), (3, _)]) [1, 2, 3, 0] rfl ?_
      rw [cv, ← Int32.sub_eq_add_neg]
      refine ih _ (by omega) (aE_tr d1 (aE_10 _ _ _)) (fun p c hp hc => ?_) (fun x h1 h2 => ?_)
      · show up2 I1 210 v x1 209 _ = _
        rw [up2_ne _ _ _ (by decide)]; exact d2 p c hp hc
      · show (up2 I1 210 v x1 210 x).toInt = _
        rw [up2_at]
        split
        · rename_i e
          rw [e, hx1, show gn g - pcN v 10 = gn g - (pcN v 10 + 1) + 1 by omega, gz_s]
        · exact d3 x (by omega) h2
  have hcc : ∀ p, p < gn g → (∀ (I1 : Nat → Nat → Int32), aE I I1 → (∀ q c, q < p + 1 → c < gn g → I1 209 (6 * q + c) = tmS g w q c) → zS X (sg K N Rf I1 L) 0 0 10 [(0, .ref 200), (1, .int (nI (gn g))), (2, .int (nI (p + 1)))] []) → ∀ u c (I1 : Nat → Nat → Int32), c + u = gn g → aE I I1 → (∀ q d, q < p → d < gn g → I1 209 (6 * q + d) = tmS g w q d) → (∀ d, d < c → I1 209 (6 * p + d) = tmS g w p d) → zS X (sg K N Rf I1 L) 0 0 17 [(0, .ref 200), (1, .int (nI (gn g))), (2, .int (nI p)), (3, .int (nI c))] [] := by
    intro p hp hk u
    induction u with
    | zero =>
      intro c I1 hc d1 d2 d3
      obtain rfl : c = gn g := by omega
      refine bk hX lkX11_ok (pc' := 19) [.iload_n 3, .iload_n 1] (by decide +kernel) (And.intro trivial ?_)
      refine ic_ge hX (29) 48 (by decide +kernel) (by decide) (fun c_19 => ?_) (fun c => absurd (Int32.le_refl _) c)
      refine bk hX lkX11_ok (pc' := 51) [.iinc 2 1] (by decide +kernel) (And.intro trivial ?_)
      refine gt_ hX (-41) 10 (by decide +kernel) (by decide) ?_
      refine z_lvk (lv' := [(0, _), (1, _), (2, _)]) [1, 2, 0] rfl ?_
      rw [nI_add]
      refine hk I1 d1 (fun q d hq hd => ?_)
      by_cases e : q = p
      · subst e; exact d3 d hd
      · exact d2 q d (by omega) hd
    | succ u ih =>
      intro c I1 hc d1 d2 d3
      have hN1 := xN_a hN (aR_rf _) d1
      have cx2 : (nI (6 * p + c)).toNatClampNeg = 6 * p + c := cl (by omega)
      refine bk hX lkX11_ok (pc' := 19) [.iload_n 3, .iload_n 1] (by decide +kernel) (And.intro trivial ?_)
      refine ic_ge hX (29) 48 (by decide +kernel) (by decide) (fun c => absurd c (nI_ge (by omega) (by omega))) (fun c_19 => ?_)
      refine bk hX lkX11_ok (pc' := 38) [.aload_n 0, .getfield 35, .bipush 6, .iload_n 2, .imul, .iload_n 3, .iadd, .aload_n 0, .getfield 12, .iload_n 2, .iload_n 3] (by decide +kernel) (And.intro trivial ?_)
      refine z_callV hX kw_X11_103 (c_G3_temper E K N Rf I1 L hg hN1.1 (by omega) hw0 hN1.2.1 hp (show c < gn g by omega)) rfl rfl rfl rfl rfl (by decide +kernel) (by decide) (by decide) (by decide) (by decide) (Nat.le_of_ble_eq_true rfl) ?_
      rintro _ _ ⟨rfl, rfl⟩
      rw [show nI 6 * nI p = nI (6 * p) from pk_mul _ _, nI_add]
      refine bk hX lkX11_ok (pc' := 45) [.iastore, .iinc 3 1] (by decide +kernel) (And.intro (by exact vin 36 (by omega)) (And.intro trivial ?_))
      refine gt_ hX (-28) 17 (by decide +kernel) (by decide) ?_
      refine z_lvk (lv' := [(0, _), (1, _), (2, _), (3, _)]) [1, 2, 3, 0] rfl ?_
      rw [cx2, nI_add]
      refine ih (c + 1) _ (by omega) (aE_tr d1 (aE_9 _ _ _)) (fun q d hq hd => ?_) (fun d hd => ?_)
      · show up2 I1 209 _ _ 209 _ = _
        rw [up2_at, if_neg (by omega)]; exact d2 q d hq hd
      · show up2 I1 209 _ _ 209 _ = _
        rw [up2_at]
        split
        · rename_i e; rw [show d = c by omega]
        · exact d3 d (by omega)
  have hpp : ∀ u p (I1 : Nat → Nat → Int32), p + u = gn g → aE I I1 → (∀ q c, q < p → c < gn g → I1 209 (6 * q + c) = tmS g w q c) → zS X (sg K N Rf I1 L) 0 0 10 [(0, .ref 200), (1, .int (nI (gn g))), (2, .int (nI p))] [] := by
    intro u
    induction u with
    | zero =>
      intro p I1 hp d1 d2
      obtain rfl : p = gn g := by omega
      have cx2 : (nI (2 ^ gn g - 1)).toNatClampNeg = 2 ^ gn g - 1 := cl (by omega)
      refine bk hX lkX11_ok (pc' := 12) [.iload_n 2, .iload_n 1] (by decide +kernel) (And.intro trivial ?_)
      refine ic_ge hX (42) 54 (by decide +kernel) (by decide) (fun c_12 => ?_) (fun c => absurd (Int32.le_refl _) c)
      refine bk hX lkX11_ok (pc' := 59) [.iconst 1, .iload_n 1, .ishl, .iconst 1, .isub] (by decide +kernel) (And.intro trivial ?_)
      rw [i_1shl (by omega), show nI (2 ^ gn g) - nI 1 = nI (2 ^ gn g - 1) from pk_sub (by omega)]
      refine bk hX lkX11_ok (pc' := 71) [.istore_n 2, .aload_n 0, .getfield 39, .iload_n 2, .iconst 0, .iastore, .iload_n 2, .iconst 1, .isub, .istore_n 3] (by decide +kernel) (And.intro (by exact vin 64 (by omega)) (And.intro trivial ?_))
      refine z_lvk (lv' := [(0, _), (1, _), (2, _), (3, _)]) [2, 3, 1, 0] rfl ?_
      rw [cx2]
      refine hgr (2 ^ gn g - 1) _ (by omega) (aE_tr d1 (aE_10 _ _ _)) (fun p c hp hc => ?_) (fun x h1 h2 => ?_)
      · show up2 I1 210 _ _ 209 _ = _
        rw [up2_ne _ _ _ (by decide)]; exact d2 p c hp hc
      · obtain rfl : x = 2 ^ gn g - 1 := by omega
        show (up2 I1 210 (2 ^ gn g - 1) (nI 0) 210 (2 ^ gn g - 1)).toInt = _
        rw [up2_self, (pc_lt (gn g) h6 (2 ^ gn g - 1) (by omega)).2.2 (by omega), Nat.sub_self]
        show (nI 0).toInt = 0
        decide
    | succ u ih =>
      intro p I1 hp d1 d2
      refine bk hX lkX11_ok (pc' := 12) [.iload_n 2, .iload_n 1] (by decide +kernel) (And.intro trivial ?_)
      refine ic_ge hX (42) 54 (by decide +kernel) (by decide) (fun c => absurd c (nI_ge (by omega) (by omega))) (fun c_12 => ?_)
      refine bk hX lkX11_ok (pc' := 17) [.iconst 0, .istore_n 3] (by decide +kernel) (And.intro trivial ?_)
      refine z_lvk (lv' := [(0, _), (1, _), (2, _), (3, _)]) [1, 2, 3, 0] rfl ?_
      exact hcc p (by omega) (fun I2 e1 e2 => ih (p + 1) I2 (by omega) e1 e2) (gn g) 0 I1 (by omega) d1 d2 (fun d hd => absurd hd (Nat.not_lt_zero _))
  refine bk hX lkX11_ok (pc' := 7) [.aload_n 0, .getfield 12, .getfield 65] (by decide +kernel) (And.intro trivial ?_)
  rw [show I 300 4 = nI (gn g) from hN.1.1]
  refine bk hX lkX11_ok (pc' := 10) [.istore_n 1, .iconst 0, .istore_n 2] (by decide +kernel) (And.intro trivial ?_)
  refine z_lvk (lv' := [(0, _), (1, _), (2, _)]) [2, 1, 0] rfl ?_
  exact hpp (gn g) 0 I (by omega) (aE_rf _) (fun q c hq => absurd hq (Nat.not_lt_zero _))
theorem c_X_bestCard (E : zE) (K N : Nat → Nat) (Rf : Nat → Nat → Option Nat) (I : Nat → Nat → Int32) (L : Nat → Nat → Int64) {τ : Nat → Nat → Int32} {n : Nat} (h6 : n ≤ 6) (hT : ∀ p c, p < n → bd 2000 (τ p c)) (ht : tbA τ n I) (hn : I 300 4 = nI n) {p : Nat} (hp : p < n) : zCt E mX11_bestCard 3 0 0 (sg K N Rf I L) [.ref 200, .int (nI p)] (fun r σ' => σ' = (sg K N Rf I L) ∧ r = some (.int (nI (ccS (tZ τ) n p)))) := by
  have h64 : 2 ^ n ≤ 64 := Nat.pow_le_pow_right (n := 2) (by decide) h6
  refine z_intro (by decide) (Nat.le_of_ble_eq_true rfl) (fun X hX => ?_)
  have hu : ∀ i, i < n → gu (tZ τ) n i + 1 < 2 ^ n := fun i hi => by
    obtain ⟨g1, g2⟩ := gu_ok (T := tZ τ) h6 i (by omega)
    have := (pc_lt n h6 _ g1).2.2
    omega
  have hfb : ∀ i, i < n → zCt E mX11_firstBest 2 0 0 (sg K N Rf I L) [.ref 200, .int (nI (gu (tZ τ) n i))] (fun r σ' => σ' = (sg K N Rf I L) ∧ r = some (.int (nI (ccS (tZ τ) n i)))) := fun i hi => by
    have := c_X_firstBest E K N Rf I L h6 hT (hu i hi) (tbA_u ht _) hn
    rw [(gu_ok (T := tZ τ) h6 i (by omega)).2] at this
    exact this
  have hl : ∀ m i, i + m = p → zS X (sg K N Rf I L) 0 0 4 [(0, .ref 200), (1, .int (nI p)), (2, .int (nI (gu (tZ τ) n i))), (3, .int (nI i))] [] := by
    intro m
    induction m with
    | zero =>
      intro i hi
      obtain rfl : i = p := by omega
      refine bk hX lkX11_ok (pc' := 6) [.iload_n 3, .iload_n 1] (by decide +kernel) (And.intro trivial ?_)
      refine ic_ge hX (19) 25 (by decide +kernel) (by decide) (fun c_6 => ?_) (fun c => absurd (Int32.le_refl _) c)
      refine bk hX lkX11_ok (pc' := 27) [.aload_n 0, .iload_n 2] (by decide +kernel) (And.intro trivial ?_)
      refine z_callV hX kw_X11_313 (hfb i hp) rfl rfl rfl rfl rfl (by decide +kernel) (by decide) (by decide) (by decide) (by decide) (Nat.le_of_ble_eq_true rfl) ?_
      rintro _ _ ⟨rfl, rfl⟩
      exact z_iret hX (by decide +kernel) rfl (rfl) (by decide) (by decide) (⟨rfl, rfl⟩)
    | succ m ih =>
      intro i hi
      have hc := (cc_ok (T := tZ τ) h6 (p := i) (by omega)).1
      refine bk hX lkX11_ok (pc' := 6) [.iload_n 3, .iload_n 1] (by decide +kernel) (And.intro trivial ?_)
      refine ic_ge hX (19) 25 (by decide +kernel) (by decide) (fun c => absurd c (nI_ge (by omega) (by omega))) (fun c_6 => ?_)
      refine bk hX lkX11_ok (pc' := 13) [.iload_n 2, .iconst 1, .aload_n 0, .iload_n 2] (by decide +kernel) (And.intro trivial ?_)
      refine z_callV hX kw_X11_313 (hfb i (by omega)) rfl rfl rfl rfl rfl (by decide +kernel) (by decide) (by decide) (by decide) (by decide) (Nat.le_of_ble_eq_true rfl) ?_
      rintro _ _ ⟨rfl, rfl⟩
      refine bk hX lkX11_ok (pc' := 22) [.ishl, .ior, .istore_n 2, .iinc 3 1] (by decide +kernel) (And.intro trivial ?_)
      refine gt_ hX (-18) 4 (by decide +kernel) (by decide) ?_
      refine z_lvk (lv' := [(0, _), (1, _), (2, _), (3, _)]) [2, 3, 1, 0] rfl ?_
      rw [i_1shl (by omega), i_or, nI_add, ← gu_s]
      exact ih (i + 1) (by omega)
  refine bk hX lkX11_ok (pc' := 4) [.iconst 0, .istore_n 2, .iconst 0, .istore_n 3] (by decide +kernel) (And.intro trivial ?_)
  refine z_lvk (lv' := [(0, _), (1, _), (2, _), (3, _)]) [2, 3, 1, 0] rfl ?_
  exact hl p 0 (by omega)
theorem c_X_best (E : zE) (K N : Nat → Nat) (Rf : Nat → Nat → Option Nat) (I : Nat → Nat → Int32) (L : Nat → Nat → Int64) {g : Gv} (hg : gwf g) {w : Wk} (hw0 : wok w) (hd : gd g ≤ 90000) (hN : xN g w K N Rf I) (x : Int32) {A : Nat} (hA : A = 6 ^ gn g) {m : Int32} {bn : Nat} (hex : bfL (tmS g w) (gn g) A = some (m, bn)) : zCt E mX11_best 5 0 0 (sg K N Rf I L) [.ref 200, .int x] (fun r σ' => ∃ Rf' I', σ' = sg K N Rf' I' L ∧ r = some (.int (bestS (gn g) m bn x)) ∧ aR Rf Rf' ∧ aE I I') := by
  have h6 := hg.1
  have hT : ∀ p c, p < gn g → bd 2000 (tmS g w p c) := fun p c hp => tm_bd hg hw0 hp c
  obtain ⟨m2, hm1, hm2⟩ := best_eq h6 hT
  rw [← hA, hex] at hm1
  obtain ⟨rfl, hb2⟩ := Prod.mk.inj (Option.some.inj hm1)
  refine z_intro (by decide) (Nat.le_of_ble_eq_true rfl) (fun X hX => ?_)
  refine bk hX lkX11_ok (pc' := 1) [.iload_n 1] (by decide +kernel) (And.intro trivial ?_)
  refine if_eq hX (18) 19 (by decide +kernel) (by decide) (fun c1 => ?_) (fun c1 => ?_)
  · refine bk hX lkX11_ok (pc' := 20) [.aload_n 0] (by decide +kernel) (And.intro trivial ?_)
    refine z_callV hX kw_X11_196 (c_X_weigh E K N Rf I L hg hw0 hd hN) rfl rfl rfl rfl rfl (by decide +kernel) (by decide) (by decide) (by decide) (by decide) (Nat.le_of_ble_eq_true rfl) ?_
    rintro _ _ ⟨I2, rfl, rfl, y1, y2⟩
    refine bk hX lkX11_ok (pc' := 24) [.iload_n 1] (by decide +kernel) (And.intro trivial ?_)
    refine if_ne hX (12) 36 (by decide +kernel) (by decide) (fun c24 => ?_) (fun c24 => ?_)
    · have hx2 : isIn (x - nI 10) (gn g) = true := by
        first
          | exact h10
          | exact absurd c1 c24
      obtain ⟨p, hp, ep⟩ := isIn_ex hx2 (by omega)
      refine bk hX lkX11_ok (pc' := 41) [.aload_n 0, .iload_n 1, .bipush 10, .isub] (by decide +kernel) (And.intro trivial ?_)
      rw [ep]
      refine z_callV hX kw_X11_199 (c_X_bestCard E K N Rf I2 L h6 hT y2 ((xN_a hN (aR_rf _) y1).1.1) hp) rfl rfl rfl rfl rfl (by decide +kernel) (by decide) (by decide) (by decide) (by decide) (Nat.le_of_ble_eq_true rfl) ?_
      rintro _ _ ⟨rfl, rfl⟩
      exact z_iret hX (by decide +kernel) rfl (rfl) (by decide) (by decide) (by
  refine ⟨Rf, I2, rfl, ?_, aR_rf _, y1⟩
  unfold bestS
  first
    | (rw [if_neg c24, if_pos hx2, ep, jx_nI (by omega), hb2, bst_dgt h6 hp])
    | (rw [if_pos c24]
       refine congrArg some (congrArg Value.int (Int32.toInt_inj.mp ?_))
       rw [hm2]
       have := y2.2 0 (Nat.two_pow_pos _)
       rw [show pcN 0 10 = 0 by decide, Nat.sub_zero] at this
       exact this))
    · refine bk hX lkX11_ok (pc' := 33) [.aload_n 0, .getfield 39, .iconst 0, .iaload] (by decide +kernel) (And.intro (by exact vin 64 (j := 0) (by decide)) (And.intro trivial ?_))
      refine gt_ hX (11) 44 (by decide +kernel) (by decide) ?_
      exact z_iret hX (by decide +kernel) rfl (rfl) (by decide) (by decide) (by
  refine ⟨Rf, I2, rfl, ?_, aR_rf _, y1⟩
  unfold bestS
  first
    | (rw [if_neg c24, if_pos hx2, ep, jx_nI (by omega), hb2, bst_dgt h6 hp])
    | (rw [if_pos c24]
       refine congrArg some (congrArg Value.int (Int32.toInt_inj.mp ?_))
       rw [hm2]
       have := y2.2 0 (Nat.two_pow_pos _)
       rw [show pcN 0 10 = 0 by decide, Nat.sub_zero] at this
       exact this))
  · refine bk hX lkX11_ok (pc' := 9) [.aload_n 0, .iload_n 1, .bipush 10, .isub] (by decide +kernel) (And.intro trivial ?_)
    refine z_callV hX kw_X11_77 (c_X_isWorker E K N Rf I L _ hg.1 hN.1.1) rfl rfl rfl rfl rfl (by decide +kernel) (by decide) (by decide) (by decide) (by decide) (Nat.le_of_ble_eq_true rfl) ?_
    rintro _ _ ⟨rfl, hh⟩
    rcases hh with ⟨h10, rfl⟩ | ⟨h10, rfl⟩
    · refine if_ne hX (7) 19 (by decide +kernel) (by decide) (fun c_12 => ?_) (fun c => absurd c (by decide))
      refine bk hX lkX11_ok (pc' := 20) [.aload_n 0] (by decide +kernel) (And.intro trivial ?_)
      refine z_callV hX kw_X11_196 (c_X_weigh E K N Rf I L hg hw0 hd hN) rfl rfl rfl rfl rfl (by decide +kernel) (by decide) (by decide) (by decide) (by decide) (Nat.le_of_ble_eq_true rfl) ?_
      rintro _ _ ⟨I2, rfl, rfl, y1, y2⟩
      refine bk hX lkX11_ok (pc' := 24) [.iload_n 1] (by decide +kernel) (And.intro trivial ?_)
      refine if_ne hX (12) 36 (by decide +kernel) (by decide) (fun c24 => ?_) (fun c24 => ?_)
      · have hx2 : isIn (x - nI 10) (gn g) = true := by
          first
            | exact h10
            | exact absurd c1 c24
        obtain ⟨p, hp, ep⟩ := isIn_ex hx2 (by omega)
        refine bk hX lkX11_ok (pc' := 41) [.aload_n 0, .iload_n 1, .bipush 10, .isub] (by decide +kernel) (And.intro trivial ?_)
        rw [ep]
        refine z_callV hX kw_X11_199 (c_X_bestCard E K N Rf I2 L h6 hT y2 ((xN_a hN (aR_rf _) y1).1.1) hp) rfl rfl rfl rfl rfl (by decide +kernel) (by decide) (by decide) (by decide) (by decide) (Nat.le_of_ble_eq_true rfl) ?_
        rintro _ _ ⟨rfl, rfl⟩
        exact z_iret hX (by decide +kernel) rfl (rfl) (by decide) (by decide) (by
  refine ⟨Rf, I2, rfl, ?_, aR_rf _, y1⟩
  unfold bestS
  first
    | (rw [if_neg c24, if_pos hx2, ep, jx_nI (by omega), hb2, bst_dgt h6 hp])
    | (rw [if_pos c24]
       refine congrArg some (congrArg Value.int (Int32.toInt_inj.mp ?_))
       rw [hm2]
       have := y2.2 0 (Nat.two_pow_pos _)
       rw [show pcN 0 10 = 0 by decide, Nat.sub_zero] at this
       exact this))
      · refine bk hX lkX11_ok (pc' := 33) [.aload_n 0, .getfield 39, .iconst 0, .iaload] (by decide +kernel) (And.intro (by exact vin 64 (j := 0) (by decide)) (And.intro trivial ?_))
        refine gt_ hX (11) 44 (by decide +kernel) (by decide) ?_
        exact z_iret hX (by decide +kernel) rfl (rfl) (by decide) (by decide) (by
  refine ⟨Rf, I2, rfl, ?_, aR_rf _, y1⟩
  unfold bestS
  first
    | (rw [if_neg c24, if_pos hx2, ep, jx_nI (by omega), hb2, bst_dgt h6 hp])
    | (rw [if_pos c24]
       refine congrArg some (congrArg Value.int (Int32.toInt_inj.mp ?_))
       rw [hm2]
       have := y2.2 0 (Nat.two_pow_pos _)
       rw [show pcN 0 10 = 0 by decide, Nat.sub_zero] at this
       exact this))
    · refine if_ne hX (7) 19 (by decide +kernel) (by decide) (fun c => absurd (by decide) c) (fun c_12 => ?_)
      refine bk hX lkX11_ok (pc' := 18) [.sipush (Int.negSucc 1000)] (by decide +kernel) (And.intro trivial ?_)
      exact z_iret hX (by decide +kernel) rfl (rfl) (by decide) (by decide) (by
  refine ⟨Rf, I, rfl, ?_, aR_rf _, aE_rf _⟩
  unfold bestS
  rw [if_neg c1, if_neg h10])
