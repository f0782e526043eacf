theorem xHd_I {K : Nat → Nat} {I I' : Nat → Nat → Int32} {h k p v : Nat} (hh : xHd K I h k p v) (e : ∀ q, 1000 ≤ q → I' q = I q) : xHd K I' h k p v := by
  obtain ⟨h1, h2, h3, h4⟩ := hh
  exact ⟨h1, h2, by rw [e h h1]; exact h3, by rw [e h h1]; exact h4⟩
theorem xWs_I {o : Nat} {ss : List Spt} {r cap : Nat} {K N : Nat → Nat} {R : Nat → Nat → Option Nat} {I I' : Nat → Nat → Int32} (h : xWs o ss r cap K N R I) (e : ∀ q, 1000 ≤ q → I' q = I q) : xWs o ss r cap K N R I' := by
  obtain ⟨h1, h2, h3, h4, h5, h6, va, vb, vc, hva, hvb, hvc, hne, hs⟩ := h
  refine ⟨h1, h2, by rw [e o h1]; exact h3, by rw [e o h1]; exact h4, h5, h6, va, vb, vc, hva, hvb, hvc, hne, fun j hj => ?_⟩
  rw [e va hva.1, e vb hvb.1, e vc hvc.1]
  exact hs j hj
theorem xH_I {b : Nat} {w : Wk} {K N : Nat → Nat} {R : Nat → Nat → Option Nat} {I I' : Nat → Nat → Int32} (h : xH b w K N R I) (e : ∀ q, 1000 ≤ q → I' q = I q) : xH b w K N R I' := by
  rcases h with h | ⟨o, cap, h1, h2⟩
  · exact Or.inl h
  · exact Or.inr ⟨o, cap, h1, xWs_I h2 e⟩
theorem xG_mk {b : Nat} {g : Gv} {K : Nat → Nat} {R : Nat → Nat → Option Nat} {I I' : Nat → Nat → Int32} (hG : xG b g K R I) {c' h' : Nat → Nat} {a' : Int32} {d' : Nat} (e4 : I' b 4 = I b 4) (e5 : I' b 5 = a') (e6 : I' b 6 = nI d') (ehi : ∀ q, 1000 ≤ q → I' q = I q) (er : I' (b + 4) = I (b + 4)) (ec : ∀ p, p < gn g → I' (b + 3) p = nI (c' p)) (eh : ∀ p, p < gn g → I' (b + 2) p = nI (h' p)) : xG b (gn g, gk g, gv g, c', h', gr g, a', d') K R I' := by
  obtain ⟨g1, g2, g3, g4⟩ := hG
  refine ⟨by rw [e4]; exact g1, e5, e6, fun p hp => ?_⟩
  obtain ⟨⟨h, k1, k2⟩, k3, k4, k5⟩ := g4 p hp
  refine ⟨⟨h, k1, xHd_I k2 ehi⟩, ec p hp, eh p hp, fun j hj => ?_⟩
  rw [er]; exact k5 j hj
theorem gfr_hi {b n : Nat} (hb : b ≤ 900) {I I' : Nat → Nat → Int32} (h : gfr b n I I') : ∀ q, 1000 ≤ q → I' q = I q := fun q hq => h.1 q (by omega) (by omega) (by omega)
theorem xG_sw {b : Nat} (hb : b ≤ 900) {g : Gv} {K : Nat → Nat} {R : Nat → Nat → Option Nat} {I : Nat → Nat → Int32} (hG : xG b g K R I) {i j : Nat} (hi : i < gn g) (hj : j < gn g) : xG b (swG g i j) K R (up2 (up2 I (b + 3) i (I (b + 3) j)) (b + 3) j (I (b + 3) i)) := by
  have e0 : ∀ q, q ≠ b + 3 → up2 (up2 I (b + 3) i (I (b + 3) j)) (b + 3) j (I (b + 3) i) q = I q := fun q hq => by rw [up2_ne _ _ _ hq, up2_ne _ _ _ hq]
  refine xG_mk hG (by rw [e0 b (by omega)]) (by rw [e0 b (by omega)]; exact hG.2.1) (by rw [e0 b (by omega)]; exact hG.2.2.1) (fun q hq => e0 q (by omega)) (e0 _ (by omega)) (fun p hp => ?_) (fun p hp => by rw [e0 _ (by omega)]; exact (hG.2.2.2 p hp).2.2.1)
  show _ = nI (if p = j then gc g i else if p = i then gc g j else gc g p)
  rw [up2_at]
  by_cases pj : p = j
  · rw [if_pos pj, if_pos pj]; exact (hG.2.2.2 i hi).2.1
  · rw [if_neg pj, if_neg pj, up2_at]
    by_cases pi : p = i
    · rw [if_pos pi, if_pos pi]; exact (hG.2.2.2 j hj).2.1
    · rw [if_neg pi, if_neg pi]; exact (hG.2.2.2 p hp).2.1
theorem gfr_sw {b n : Nat} {I : Nat → Nat → Int32} (i j : Nat) (x y : Int32) : gfr b n I (up2 (up2 I (b + 3) i x) (b + 3) j y) := by
  have e0 : ∀ q, q ≠ b + 3 → up2 (up2 I (b + 3) i x) (b + 3) j y q = I q := fun q hq => by rw [up2_ne _ _ _ hq, up2_ne _ _ _ hq]
  exact ⟨fun q _ _ h3 => e0 q h3, fun k _ _ => by rw [e0 b (by omega)], fun k _ => by rw [e0 _ (by omega)]⟩
theorem xG_home {b : Nat} (hb : b ≤ 900) {g : Gv} {K : Nat → Nat} {R : Nat → Nat → Option Nat} {I : Nat → Nat → Int32} (hG : xG b g K R I) (p is : Int32) : xG b (homG g p is) K R (up2 I b 5 (rstS (I b 5) p is)) := by
  have e0 : ∀ q, q ≠ b → up2 I b 5 (rstS (I b 5) p is) q = I q := fun q hq => up2_ne _ _ _ hq
  refine xG_mk hG (by rw [up2_at, if_neg (by decide)]) (by rw [up2_self, hG.2.1]) (by rw [up2_at, if_neg (by decide)]; exact hG.2.2.1) (fun q hq => e0 q (by omega)) (e0 _ (by omega)) (fun q hq => by rw [e0 _ (by omega)]; exact (hG.2.2.2 q hq).2.1) (fun q hq => by rw [e0 _ (by omega)]; exact (hG.2.2.2 q hq).2.2.1)
theorem gfr_home {b n : Nat} {I : Nat → Nat → Int32} (x : Int32) : gfr b n I (up2 I b 5 x) := ⟨fun q h _ _ => up2_ne _ _ _ h, fun k h5 _ => by rw [up2_at, if_neg h5], fun k _ => by rw [up2_ne _ _ _ (by omega)]⟩
theorem tmS_K (g : Gv) (w : Wk) (p c : Nat) : tmS g w p c = tmK (gk g p) (gv g p) p c (moS g w p c) := rfl
theorem c_G3_round (E : zE) (K N : Nat → Nat) (Rf : Nat → Nat → Option Nat) (I : Nat → Nat → Int32) (L : Nat → Nat → Int64) {w : Wk} (hw : wok w) (hH : xH 300 w K N Rf I) : zCt E mX1_round 0 0 0 (sg K N Rf I L) [.ref 300] (fun r σ' => σ' = (sg K N Rf I L) ∧ r = some (.int (nI (rdS w)))) := by
  rcases hH with ⟨hn, rfl⟩ | ⟨o, cap, ho, hW⟩
  · refine z_intro (by decide) (Nat.le_of_ble_eq_true rfl) (fun X hX => ?_)
    refine bk hX lkX1_ok (pc' := 1) [.aload_n 0] (by decide +kernel) (And.intro trivial ?_)
    refine z_gN hX lkX1_ok 66 2 7 (fun k h => h) (rfl) (hn) (by decide +kernel) ?_
    refine z_ifnonN hX (off := 7) (by decide +kernel) ?_
    refine bk hX lkX1_ok (pc' := 8) [.iconst 0] (by decide +kernel) (And.intro trivial ?_)
    refine gt_ hX (10) 18 (by decide +kernel) (by decide) ?_
    exact z_iret hX (by decide +kernel) rfl (rfl) (by decide) (by decide) (⟨rfl, rfl⟩)
  · refine z_intro (by decide) (Nat.le_of_ble_eq_true rfl) (fun X hX => ?_)
    obtain ⟨h1, h2, h3, h4, -⟩ := hW
    have kso : (sg K N Rf I L).1 o = 11 + 1 := by rw [show (sg K N Rf I L).1 o = K o from kF_hi K h1]; exact h2
    refine bk hX lkX1_ok (pc' := 1) [.aload_n 0] (by decide +kernel) (And.intro trivial ?_)
    refine z_gR hX lkX1_ok 66 2 7 (fun k h => h) (rfl) (ho) (by decide +kernel) ?_
    refine z_ifnon hX (off := 7) 11 (by decide +kernel) (by decide) ?_
    refine bk hX lkX1_ok (pc' := 12) [.aload_n 0] (by decide +kernel) (And.intro trivial ?_)
    refine z_gR hX lkX1_ok 66 2 7 (fun k h => h) (rfl) (ho) (by decide +kernel) ?_
    refine z_gI hX lkX1_ok 95 11 4 (fun k h => h) (by decide) (kso) (by decide +kernel) ?_
    exact z_iret hX (by decide +kernel) rfl (rfl) (by decide) (by decide) (⟨rfl, congrArg some (congrArg Value.int h4)⟩)
theorem c_G3_temper (E : zE) (K N : Nat → Nat) (Rf : Nat → Nat → Option Nat) (I : Nat → Nat → Int32) (L : Nat → Nat → Int64) {g : Gv} (hg : gwf g) (hG : xG 300 g K Rf I) (hd : gd g < 2 ^ 30) {w : Wk} (hw : wok w) (hH : xH 300 w K N Rf I) {p c : Nat} (hp : p < gn g) (hc : c < gn g) : zCt E mX1_temper 3 0 0 (sg K N Rf I L) [.ref 300, .int (nI p), .int (nI c)] (fun r σ' => σ' = (sg K N Rf I L) ∧ r = some (.int (tmS g w p c))) := by
  have h6 := hg.1
  have cp : (nI p).toNatClampNeg = p := cl (by omega)
  have cc : (nI c).toNatClampNeg = c := cl (by omega)
  obtain ⟨⟨h, hr, hh⟩, -⟩ := hG.2.2.2 p hp
  have eh : I 302 c = nI (gh g c) := (hG.2.2.2 c hc).2.2.1
  have hhc := (hg.2.1 c hc).2.2.2.1
  have hk6 : gk g p ≤ 6 := (hg.2.1 p hp).1
  have e6 : I 300 6 = nI (gd g) := hG.2.2.1
  have m10 : nI (gd g) - nI (gd g) / nI 10 * nI 10 = nI (gd g % 10) := i_mod (by omega) (by decide) (by decide)
  have hks : (sg K N Rf I L).1 h = hci (gk g p) + 1 := by rw [← hh.2.1]; exact kF_hi K hh.1
  have hnum : (sg K N Rf I L).2.2.1 h 0 = nI p := hh.2.2.1
  have hvv : (sg K N Rf I L).2.2.1 h 1 = nI (gv g p) := hh.2.2.2
  rcases hH with ⟨hn, rfl⟩ | ⟨o, cap, ho, hW⟩
  · refine z_intro (by decide) (Nat.le_of_ble_eq_true rfl) (fun X hX => ?_)
    refine bk hX lkX1_ok (pc' := 5) [.aload_n 0, .getfield 11, .iload_n 1] (by decide +kernel) (And.intro trivial ?_)
    refine z_aald hX (q := h) (rfl) (vin 6 (by omega)) (by rw [cp]; exact hr) (by decide +kernel) ?_
    refine bk hX lkX1_ok (pc' := 13) [.astore_n 3, .aload_n 0, .getfield 17, .iload_n 2, .iaload] (by decide +kernel) (And.intro (by exact vin 6 (by omega)) (And.intro trivial ?_))
    simp only [cc, eh]
    refine z_callS hX kw_X1_74 (c_J_bitCount E _ hhc) rfl rfl (by decide +kernel) (by decide) (by decide) (by decide) (by decide) (Nat.le_of_ble_eq_true rfl) ?_
    rintro _ _ ⟨rfl, rfl⟩
    refine bk hX lkX1_ok (pc' := 26) [.istore 4, .bipush 10, .iload 4, .isub, .istore 5, .aload_n 0] (by decide +kernel) (And.intro trivial ?_)
    refine z_gN hX lkX1_ok 66 2 7 (fun k h => h) (rfl) (hn) (by decide +kernel) ?_
    refine z_ifnulN hX (off := 26) 55 (by decide +kernel) (by decide) ?_
    refine bk hX lkX1_ok (pc' := 59) [.aload_n 3, .iload 5, .iload_n 2] (by decide +kernel) (And.intro trivial ?_)
    refine vc_temper_X1 hX rfl hk6 hks hnum hvv (by omega) (by omega) (by decide +kernel) (by decide) (by decide) (by decide) (Nat.le_of_ble_eq_true rfl) ?_
    exact z_iret hX (by decide +kernel) rfl (rfl) (by decide) (by decide) (by refine ⟨rfl, ?_⟩; rw [tmS_K]; unfold moS; show _ = some (Value.int (tmK _ _ _ _ (_ + 0))); rw [Int32.add_zero])
  · have kso : (sg K N Rf I L).1 o = 11 + 1 := by rw [show (sg K N Rf I L).1 o = K o from kF_hi K hW.1]; exact hW.2.1
    refine z_intro (by decide) (Nat.le_of_ble_eq_true rfl) (fun X hX => ?_)
    refine bk hX lkX1_ok (pc' := 5) [.aload_n 0, .getfield 11, .iload_n 1] (by decide +kernel) (And.intro trivial ?_)
    refine z_aald hX (q := h) (rfl) (vin 6 (by omega)) (by rw [cp]; exact hr) (by decide +kernel) ?_
    refine bk hX lkX1_ok (pc' := 13) [.astore_n 3, .aload_n 0, .getfield 17, .iload_n 2, .iaload] (by decide +kernel) (And.intro (by exact vin 6 (by omega)) (And.intro trivial ?_))
    simp only [cc, eh]
    refine z_callS hX kw_X1_74 (c_J_bitCount E _ hhc) rfl rfl (by decide +kernel) (by decide) (by decide) (by decide) (by decide) (Nat.le_of_ble_eq_true rfl) ?_
    rintro _ _ ⟨rfl, rfl⟩
    refine bk hX lkX1_ok (pc' := 26) [.istore 4, .bipush 10, .iload 4, .isub, .istore 5, .aload_n 0] (by decide +kernel) (And.intro trivial ?_)
    refine z_gR hX lkX1_ok 66 2 7 (fun k h => h) (rfl) (ho) (by decide +kernel) ?_
    refine z_ifnul hX (off := 26) (by decide +kernel) ?_
    refine bk hX lkX1_ok (pc' := 35) [.iload 5, .aload_n 0] (by decide +kernel) (And.intro trivial ?_)
    refine z_gR hX lkX1_ok 66 2 7 (fun k h => h) (rfl) (ho) (by decide +kernel) ?_
    refine bk hX lkX1_ok (pc' := 49) [.aload_n 3, .iload_n 2, .iload 4, .aload_n 0, .getfield 63, .bipush 10, .irem] (by decide +kernel) (And.intro (by decide) (And.intro trivial ?_))
    simp only [e6, m10]
    refine z_callV hX kw_X1_85 (c_W_moodOf E K N Rf I L hg hw hp hc hh hW) rfl rfl kso rfl rfl (by decide +kernel) (by decide) (by decide) (by decide) (by decide) (Nat.le_of_ble_eq_true rfl) ?_
    rintro _ _ ⟨rfl, rfl⟩
    refine bk hX lkX1_ok (pc' := 59) [.iadd, .istore 5, .aload_n 3, .iload 5, .iload_n 2] (by decide +kernel) (And.intro trivial ?_)
    refine vc_temper_X1 hX rfl hk6 hks hnum hvv (by omega) (by omega) (by decide +kernel) (by decide) (by decide) (by decide) (Nat.le_of_ble_eq_true rfl) ?_
    exact z_iret hX (by decide +kernel) rfl (rfl) (by decide) (by decide) (⟨rfl, rfl⟩)
theorem c_G3_allTemper (E : zE) (K N : Nat → Nat) (Rf : Nat → Nat → Option Nat) (I : Nat → Nat → Int32) (L : Nat → Nat → Int64) {g : Gv} (hg : gwf g) (hG : xG 300 g K Rf I) (hd : gd g < 2 ^ 30) {w : Wk} (hw : wok w) (hH : xH 300 w K N Rf I) : zCt E mX1_allTemper 4 0 0 (sg K N Rf I L) [.ref 300] (fun r σ' => σ' = (sg K N Rf I L) ∧ r = some (.int (atN g w (gn g)))) := by
  have h6 := hg.1
  refine z_intro (by decide) (Nat.le_of_ble_eq_true rfl) (fun X hX => ?_)
  have hl : ∀ m j, j + m = gn g → zS X (sg K N Rf I L) 0 0 4 [(0, .ref 300), (1, .int (atN g w j)), (2, .int (nI j))] [] := by
    intro m
    induction m with
    | zero =>
      intro j hj
      obtain rfl : j = gn g := by omega
      refine bk hX lkX1_ok (pc' := 9) [.iload_n 2, .aload_n 0, .getfield 56] (by decide +kernel) (And.intro trivial ?_)
      rw [hG.1]
      refine ic_ge hX (23) 32 (by decide +kernel) (by decide) (fun c_9 => ?_) (fun c => absurd (nI_le (Nat.le_refl _) (by omega)) c)
      refine bk hX lkX1_ok (pc' := 33) [.iload_n 1] (by decide +kernel) (And.intro trivial ?_)
      exact z_iret hX (by decide +kernel) rfl (rfl) (by decide) (by decide) (⟨rfl, rfl⟩)
    | succ m ih =>
      intro j hj
      have hjn : j < gn g := by omega
      have ec : I 303 j = nI (gc g j) := (hG.2.2.2 j hjn).2.1
      have hcn := (hg.2.1 j hjn).2.2.1
      refine bk hX lkX1_ok (pc' := 9) [.iload_n 2, .aload_n 0, .getfield 56] (by decide +kernel) (And.intro trivial ?_)
      rw [hG.1]
      refine ic_ge hX (23) 32 (by decide +kernel) (by decide) (fun c => absurd c (nI_ge (by omega) (by omega))) (fun c_9 => ?_)
      refine bk hX lkX1_ok (pc' := 21) [.iload_n 1, .aload_n 0, .iload_n 2, .aload_n 0, .getfield 21, .iload_n 2, .iaload] (by decide +kernel) (And.intro (by exact vin 6 (by omega)) (And.intro trivial ?_))
      simp only [cl (show j < 2 ^ 31 by omega), ec]
      refine z_callV hX kw_X1_94 (c_G3_temper E K N Rf I L hg hG hd hw hH hjn hcn) rfl rfl rfl rfl rfl (by decide +kernel) (by decide) (by decide) (by decide) (by decide) (Nat.le_of_ble_eq_true rfl) ?_
      rintro _ _ ⟨rfl, rfl⟩
      refine bk hX lkX1_ok (pc' := 29) [.iadd, .istore_n 1, .iinc 2 1] (by decide +kernel) (And.intro trivial ?_)
      refine gt_ hX (-25) 4 (by decide +kernel) (by decide) ?_
      refine z_lvk (lv' := [(0, _), (1, _), (2, _)]) [2, 1, 0] rfl ?_
      rw [nI_add]
      exact ih (j + 1) (by omega)
  refine bk hX lkX1_ok (pc' := 4) [.iconst 0, .istore_n 1, .iconst 0, .istore_n 2] (by decide +kernel) (And.intro trivial ?_)
  refine z_lvk (lv' := [(0, _), (1, _), (2, _)]) [2, 1, 0] rfl ?_
  exact hl (gn g) 0 (by omega)
theorem c_G3_goRound (E : zE) (K N : Nat → Nat) (Rf : Nat → Nat → Option Nat) (I : Nat → Nat → Int32) (L : Nat → Nat → Int64) {n : Nat} {c : Nat → Nat} (hn : n ≤ 6) (h4 : I 300 4 = nI n) (hc : ∀ q, q < n → I 303 q = nI (c q)) : zCt E mX1_goRound 1 0 0 (sg K N Rf I L) [.ref 300] (fun r σ' => ∃ I', σ' = sg K N Rf I' L ∧ r = none ∧ (∀ q, q < n → I' 303 q = nI (rotC n c q)) ∧ (∀ q, q ≠ 303 → I' q = I q)) := by
  refine z_intro (by decide) (Nat.le_of_ble_eq_true rfl) (fun X hX => ?_)
  rcases Nat.eq_zero_or_pos n with rfl | hpos
  · have hl0 : zS X (sg K N Rf I L) 0 0 2 [(0, .ref 300), (1, .int (nI 0))] [] := by
      refine bk hX lkX1_ok (pc' := 9) [.iload_n 1, .aload_n 0, .getfield 56, .iconst 1, .isub] (by decide +kernel) (And.intro trivial ?_)
      rw [h4]
      refine ic_ge hX (17) 26 (by decide +kernel) (by decide) (fun c_9 => ?_) (fun c => absurd (by decide) c)
      exact z_vret hX (by decide +kernel) rfl (by decide) (by decide) (⟨I, rfl, rfl, fun q hq => absurd hq (Nat.not_lt_zero _), fun _ _ => rfl⟩)
    refine bk hX lkX1_ok (pc' := 2) [.iconst 0, .istore_n 1] (by decide +kernel) (And.intro trivial ?_)
    refine z_lvk (lv' := [(0, _), (1, _)]) [1, 0] rfl ?_
    exact hl0
  have hl : ∀ m p (I1 : Nat → Nat → Int32), p + m + 1 = n → (∀ q, q ≠ 303 → I1 q = I q) → (∀ q, q < n → I1 303 q = nI (if q < p then c (q + 1) else if q = p then c 0 else c q)) → zS X (sg K N Rf I1 L) 0 0 2 [(0, .ref 300), (1, .int (nI p))] [] := by
    intro m
    induction m with
    | zero =>
      intro p I1 hp q1 q2
      have e4 : I1 300 4 = nI n := by rw [q1 300 (by decide)]; exact h4
      refine bk hX lkX1_ok (pc' := 9) [.iload_n 1, .aload_n 0, .getfield 56, .iconst 1, .isub] (by decide +kernel) (And.intro trivial ?_)
      rw [e4, i_m1 hpos]
      refine ic_ge hX (17) 26 (by decide +kernel) (by decide) (fun c_9 => ?_) (fun c => absurd (nI_le (by omega) (by omega)) c)
      exact z_vret hX (by decide +kernel) rfl (by decide) (by decide) (⟨I1, rfl, rfl, fun q hq => by
    rw [q2 q hq]
    unfold rotC
    rw [if_pos hq]
    congr 1
    by_cases z : q < p
    · rw [if_pos z, Nat.mod_eq_of_lt (by omega)]
    · rw [if_neg z, if_pos (by omega), show q + 1 = n by omega, Nat.mod_self], q1⟩)
    | succ m ih =>
      intro p I1 hp q1 q2
      have e4 : I1 300 4 = nI n := by rw [q1 300 (by decide)]; exact h4
      refine bk hX lkX1_ok (pc' := 9) [.iload_n 1, .aload_n 0, .getfield 56, .iconst 1, .isub] (by decide +kernel) (And.intro trivial ?_)
      rw [e4, i_m1 hpos]
      refine ic_ge hX (17) 26 (by decide +kernel) (by decide) (fun c => absurd c (nI_ge (by omega) (by omega))) (fun c_9 => ?_)
      refine bk hX lkX1_ok (pc' := 17) [.aload_n 0, .iload_n 1, .iload_n 1, .iconst 1, .iadd] (by decide +kernel) (And.intro trivial ?_)
      rw [nI_add]
      refine z_callV hX kw_X1_118 (c_G3_exchange E K N Rf I1 L p (p + 1) (by omega) (by omega)) rfl rfl rfl rfl rfl (by decide +kernel) (by decide) (by decide) (by decide) (by decide) (Nat.le_of_ble_eq_true rfl) ?_
      rintro _ _ ⟨rfl, rfl⟩
      refine bk hX lkX1_ok (pc' := 23) [.iinc 1 1] (by decide +kernel) (And.intro trivial ?_)
      refine gt_ hX (-21) 2 (by decide +kernel) (by decide) ?_
      refine z_lvk (lv' := [(0, _), (1, _)]) [1, 0] rfl ?_
      rw [nI_add]
      refine ih (p + 1) _ (by omega) (fun q hq => ?_) (fun q hq => ?_)
      · rw [up2_ne _ _ _ hq, up2_ne _ _ _ hq]; exact q1 q hq
      · rw [up2_at]
        by_cases z1 : q = p + 1
        · rw [if_pos z1, q2 p (by omega), if_neg (by omega), if_pos rfl, if_neg (by omega), if_pos z1]
        · rw [if_neg z1, up2_at]
          by_cases z2 : q = p
          · rw [if_pos z2, q2 (p + 1) (by omega), if_neg (by omega), if_neg (by omega), if_pos (by omega), z2]
          · rw [if_neg z2, q2 q hq]
            by_cases z3 : q < p
            · rw [if_pos z3, if_pos (by omega)]
            · rw [if_neg z3, if_neg z2, if_neg (by omega), if_neg z1]
  refine bk hX lkX1_ok (pc' := 2) [.iconst 0, .istore_n 1] (by decide +kernel) (And.intro trivial ?_)
  refine z_lvk (lv' := [(0, _), (1, _)]) [1, 0] rfl ?_
  exact hl (n - 1) 0 I (by omega) (fun _ _ => rfl) (fun q hq => by
    rw [hc q hq, if_neg (Nat.not_lt_zero _)]
    by_cases z : q = 0
    · rw [if_pos z, z]
    · rw [if_neg z])
set_option maxHeartbeats 2000000 in
theorem c_G3_goDay (E : zE) (K N : Nat → Nat) (Rf : Nat → Nat → Option Nat) (I : Nat → Nat → Int32) (L : Nat → Nat → Int64) {g : Gv} (hg : gwf g) (hG : xG 300 g K Rf I) (hd : gd g < 100000) {w : Wk} (hw : wok w) (hH : xH 300 w K N Rf I) : zCt E mX1_goDay 4 0 0 (sg K N Rf I L) [.ref 300] (fun r σ' => ∃ I', σ' = sg K N Rf I' L ∧ r = none ∧ xG 300 (dayS (rdS w) g) K Rf I' ∧ gfr 300 (gn g) I I') := by
  have h6 : gn g ≤ 6 := hg.1
  have hr99 : rdS w ≤ 99 := rdN_wok hw _ (Nat.le_refl _)
  refine z_intro (by decide) (Nat.le_of_ble_eq_true rfl) (fun X hX => ?_)
  have hl1 : ∀ m p (I1 : Nat → Nat → Int32), p + m = gn g → (∀ q, q ≠ 302 → I1 q = I q) → (∀ c, c < gn g → I1 302 c = nI (hoS g p c)) → (∀ c, gn g ≤ c → I1 302 c = I 302 c) → zS X (sg K N Rf I1 L) 0 0 2 [(0, .ref 300), (1, .int (nI p))] [] := by
    intro m
    induction m with
    | zero =>
      intro p I1 hp q1 q2 q3
      obtain rfl : p = gn g := by omega
      have e0 : I1 300 4 = nI (gn g) := by rw [q1 300 (by decide)]; exact hG.1
      have e2 : I1 300 6 = nI (gd g) := by rw [q1 300 (by decide)]; exact hG.2.2.1
      have hH2 : xH 300 w K N Rf (up2 I1 300 6 (nI (gd g + 1))) := xH_I hH (fun q hq => by rw [up2_ne _ _ _ (by omega), q1 q (by omega)])
      have hG1 : ∀ (cf : Nat → Nat) (I4 : Nat → Nat → Int32), (∀ q, q ≠ 303 → I4 q = up2 I1 300 6 (nI (gd g + 1)) q) → (∀ c, c < gn g → I4 303 c = nI (cf c)) → xG 300 (gn g, gk g, gv g, cf, hoS g (gn g), gr g, ga g, gd g + 1) K Rf I4 ∧ gfr 300 (gn g) I I4 := by
        intro cf I4 z1 z2
        have z0 : ∀ q, q ≠ 303 → q ≠ 300 → I4 q = I1 q := fun q h0 h1 => by rw [z1 q h0, up2_ne _ _ _ h1]
        have z100 : ∀ k, I4 300 k = if k = 6 then nI (gd g + 1) else I1 300 k := fun k => by rw [z1 300 (by decide), up2_at]
        refine ⟨xG_mk hG ?_ ?_ ?_ (fun q hq => ?_) ?_ z2 (fun q hq => ?_), fun q h1 h2 h3 => ?_, fun k h5 h6 => ?_, fun k hk => ?_⟩
        · rw [z100, if_neg (by decide), e0, hG.1]
        · rw [z100, if_neg (by decide), q1 300 (by decide)]; exact hG.2.1
        · rw [z100, if_pos rfl]
        · rw [z0 q (by omega) (by omega), q1 q (by omega)]
        · rw [z0 _ (by decide) (by decide), q1 _ (by decide)]
        · rw [z0 _ (by decide) (by decide)]; exact q2 q hq
        · rw [z0 q h3 h1, q1 q h2]
        · rw [z100, if_neg h6, q1 300 (by decide)]
        · rw [z0 _ (by decide) (by decide)]; exact q3 k hk
      have hcd : ∀ c, c < gn g → up2 I1 300 6 (nI (gd g + 1)) 303 c = nI (gc g c) := fun c hc => by rw [up2_ne _ _ _ (by decide), q1 _ (by decide)]; exact (hG.2.2.2 c hc).2.1
      have hstay : (rdS w = 0 ∨ (gd g + 1) % rdS w ≠ 0) → (∃ I', sg K N Rf (up2 I1 300 6 (nI (gd g + 1))) L = sg K N Rf I' L ∧ (none : Option Value) = none ∧ xG 300 (dayS (rdS w) g) K Rf I' ∧ gfr 300 (gn g) I I') := by
        intro hc
        obtain ⟨x1, x2⟩ := hG1 (gc g) _ (fun _ _ => rfl) hcd
        exact ⟨_, rfl, rfl, by unfold dayS; rw [if_pos hc]; exact x1, x2⟩
      refine bk hX lkX1_ok (pc' := 7) [.iload_n 1, .aload_n 0, .getfield 56] (by decide +kernel) (And.intro trivial ?_)
      rw [e0]
      refine ic_ge hX (57) 64 (by decide +kernel) (by decide) (fun c_7 => ?_) (fun c => absurd (nI_le (Nat.le_refl _) (by omega)) c)
      refine bk hX lkX1_ok (pc' := 74) [.aload_n 0, .dup, .getfield 63, .iconst 1, .iadd, .putfield 63] (by decide +kernel) (And.intro trivial ?_)
      simp only [e2, nI_add]
      refine bk hX lkX1_ok (pc' := 75) [.aload_n 0] (by decide +kernel) (And.intro trivial ?_)
      refine z_callV hX kw_X1_112 (c_G3_round E K N Rf _ L hw hH2) rfl rfl rfl rfl rfl (by decide +kernel) (by decide) (by decide) (by decide) (by decide) (Nat.le_of_ble_eq_true rfl) ?_
      rintro _ _ ⟨rfl, rfl⟩
      refine bk hX lkX1_ok (pc' := 80) [.istore_n 1, .iload_n 1] (by decide +kernel) (And.intro trivial ?_)
      refine if_le hX (16) 96 (by decide +kernel) (by decide) (fun c80 => ?_) (fun c80 => ?_)
      · exact z_vret hX (by decide +kernel) rfl (by decide) (by decide) (by
  first
    | (refine hstay (Or.inl ?_)
       have z := (nI_leI (a := rdS w) (b := 0) (by omega) (by decide)).mp c80
       omega)
    | exact hstay (Or.inr (fun z => c89 (by rw [z]; rfl)))
    | (obtain ⟨x1, x2⟩ := hG1 (rotC (gn g) (gc g)) I4 y2 y1
       refine ⟨_, rfl, rfl, ?_, x2⟩
       unfold dayS
       rw [if_neg (fun z => z.elim (fun z => c80 (by rw [z]; decide)) (fun z => z (nI_inj (Nat.lt_of_le_of_lt (Nat.mod_le _ _) (by omega)) (by decide) c89)))]
       exact x1))
      · refine bk hX lkX1_ok (pc' := 89) [.aload_n 0, .getfield 63, .iload_n 1, .irem] (by decide +kernel) (And.intro (by exact nI_ne0 (Nat.pos_of_ne_zero (fun z => c80 (by rw [z]; decide))) (by omega)) (And.intro trivial ?_))
        simp only [up2_self]
        rw [i_mod (by omega) (Nat.pos_of_ne_zero (fun z => c80 (by rw [z]; decide))) (by omega)]
        refine if_ne hX (7) 96 (by decide +kernel) (by decide) (fun c89 => ?_) (fun c89 => ?_)
        · exact z_vret hX (by decide +kernel) rfl (by decide) (by decide) (by
  first
    | (refine hstay (Or.inl ?_)
       have z := (nI_leI (a := rdS w) (b := 0) (by omega) (by decide)).mp c80
       omega)
    | exact hstay (Or.inr (fun z => c89 (by rw [z]; rfl)))
    | (obtain ⟨x1, x2⟩ := hG1 (rotC (gn g) (gc g)) I4 y2 y1
       refine ⟨_, rfl, rfl, ?_, x2⟩
       unfold dayS
       rw [if_neg (fun z => z.elim (fun z => c80 (by rw [z]; decide)) (fun z => z (nI_inj (Nat.lt_of_le_of_lt (Nat.mod_le _ _) (by omega)) (by decide) c89)))]
       exact x1))
        · refine bk hX lkX1_ok (pc' := 93) [.aload_n 0] (by decide +kernel) (And.intro trivial ?_)
          refine z_callV hX kw_X1_115 (c_G3_goRound E K N Rf _ L h6 (by rw [up2_at, if_neg (by decide)]; exact e0) hcd) rfl rfl rfl rfl rfl (by decide +kernel) (by decide) (by decide) (by decide) (by decide) (Nat.le_of_ble_eq_true rfl) ?_
          rintro _ _ ⟨I4, rfl, rfl, y1, y2⟩
          exact z_vret hX (by decide +kernel) rfl (by decide) (by decide) (by
  first
    | (refine hstay (Or.inl ?_)
       have z := (nI_leI (a := rdS w) (b := 0) (by omega) (by decide)).mp c80
       omega)
    | exact hstay (Or.inr (fun z => c89 (by rw [z]; rfl)))
    | (obtain ⟨x1, x2⟩ := hG1 (rotC (gn g) (gc g)) I4 y2 y1
       refine ⟨_, rfl, rfl, ?_, x2⟩
       unfold dayS
       rw [if_neg (fun z => z.elim (fun z => c80 (by rw [z]; decide)) (fun z => z (nI_inj (Nat.lt_of_le_of_lt (Nat.mod_le _ _) (by omega)) (by decide) c89)))]
       exact x1))
    | succ m ih =>
      intro p I1 hp q1 q2 q3
      have hpn : p < gn g := by omega
      have e0 : I1 300 4 = nI (gn g) := by rw [q1 300 (by decide)]; exact hG.1
      have e1 : I1 300 5 = ga g := by rw [q1 300 (by decide)]; exact hG.2.1
      have e6 : I1 300 6 = nI (gd g) := by rw [q1 300 (by decide)]; exact hG.2.2.1
      have ec : I1 303 p = nI (gc g p) := by rw [q1 _ (by decide)]; exact (hG.2.2.2 p hpn).2.1
      have hcn : gc g p < gn g := (hg.2.1 p hpn).2.2.1
      have eh : I1 302 (gc g p) = nI (hoS g p (gc g p)) := q2 _ hcn
      have hlt := hoS_lt hg p (by omega)
      have cp : (nI p).toNatClampNeg = p := cl (by omega)
      have cc : (nI (gc g p)).toNatClampNeg = gc g p := cl (by omega)
      obtain ⟨⟨h, hr, hh⟩, -⟩ := hG.2.2.2 p hpn
      have hh1 : I1 h = I h := q1 h (by have := hh.1; omega)
      have hks : (sg K N Rf I1 L).1 h = hci (gk g p) + 1 := by rw [← hh.2.1]; exact kF_hi K hh.1
      have hvv : (sg K N Rf I1 L).2.2.1 h 1 = nI (gv g p) := by rw [show (sg K N Rf I1 L).2.2.1 h = I h from hh1]; exact hh.2.2.2
      have hGp : xG 300 (gn g, gk g, gv g, gc g, hoS g p, gr g, ga g, gd g) K Rf I1 := xG_mk hG (by rw [q1 300 (by decide)]) e1 e6 (fun q hq => q1 q (by omega)) (q1 _ (by decide)) (fun q hq => by rw [q1 _ (by decide)]; exact (hG.2.2.2 q hq).2.1) q2
      have hr9 : gr g (4 * p + gd g % 4) ≤ 9 := (hg.2.1 p hpn).2.2.2.2 _ (Nat.mod_lt _ (by decide))
      refine bk hX lkX1_ok (pc' := 7) [.iload_n 1, .aload_n 0, .getfield 56] (by decide +kernel) (And.intro trivial ?_)
      rw [e0]
      refine ic_ge hX (57) 64 (by decide +kernel) (by decide) (fun c => absurd c (nI_ge (by omega) (by omega))) (fun c_7 => ?_)
      refine bk hX lkX1_ok (pc' := 12) [.aload_n 0, .iload_n 1] (by decide +kernel) (And.intro trivial ?_)
      refine z_callV hX kw_X1_101 (c_G3_isAtHome E K N Rf I1 L p) rfl rfl rfl rfl rfl (by decide +kernel) (by decide) (by decide) (by decide) (by decide) (Nat.le_of_ble_eq_true rfl) ?_
      rintro _ _ ⟨rfl, hh⟩
      rw [e1] at hh
      rcases hh with ⟨hb, rfl⟩ | ⟨hb, rfl⟩
      · refine if_ne hX (43) 58 (by decide +kernel) (by decide) (fun c_15 => ?_) (fun c => absurd c (by decide))
        refine bk hX lkX1_ok (pc' := 61) [.iinc 1 1] (by decide +kernel) (And.intro trivial ?_)
        refine gt_ hX (-59) 2 (by decide +kernel) (by decide) ?_
        refine z_lvk (lv' := [(0, _), (1, _)]) [1, 0] rfl ?_
        first
          | (simp only [nI_add]
             refine ih (p + 1) I1 (by omega) q1 (fun c hc => ?_) q3
             rw [hoS_s, if_pos hb]
             exact q2 c hc)
          | (simp only [nI_add, cc, i_or]
             refine ih (p + 1) _ (by omega) (fun q hq => ?_) (fun c hc => ?_) (fun c hc => ?_)
             · rw [up2_ne _ _ _ hq]; exact q1 q hq
             · rw [hoS_s, if_neg hb, up2_at]
               unfold upN
               by_cases hcc : c = gc g p
               · rw [if_pos hcc, if_pos hcc]
               · rw [if_neg hcc, if_neg hcc]; exact q2 c hc
             · rw [up2_at, if_neg (by omega)]; exact q3 c hc)
      · refine if_ne hX (43) 58 (by decide +kernel) (by decide) (fun c => absurd (by decide) c) (fun c_15 => ?_)
        refine bk hX lkX1_ok (pc' := 25) [.aload_n 0, .getfield 21, .iload_n 1, .iaload, .istore_n 2] (by decide +kernel) (And.intro (by exact vin 6 (by omega)) (And.intro trivial ?_))
        simp only [cp, ec]
        refine bk hX lkX1_ok (pc' := 32) [.aload_n 0, .getfield 17, .iload_n 2, .dup2, .iaload] (by decide +kernel) (And.intro (by exact vin 6 (by omega)) (And.intro trivial ?_))
        simp only [cc, eh]
        refine bk hX lkX1_ok (pc' := 37) [.aload_n 0, .getfield 11, .iload_n 1] (by decide +kernel) (And.intro trivial ?_)
        refine z_aald hX (q := h) (rfl) (vin 6 (by omega)) (by rw [cp]; exact hr) (by decide +kernel) ?_
        refine bk hX lkX1_ok (pc' := 48) [.aload_n 0, .getfield 63, .aload_n 0, .getfield 17, .iload_n 2, .iaload] (by decide +kernel) (And.intro (by exact vin 6 (by omega)) (And.intro trivial ?_))
        simp only [cc, eh, e6]
        refine bk hX lkX1_ok (pc' := 50) [.aload_n 0, .iload_n 1] (by decide +kernel) (And.intro trivial ?_)
        refine z_callV hX kw_X1_105 (c_G3_rowSlot E K N Rf I1 L (gwf_ho hg hlt) hGp (by show gd g < 2 ^ 30; omega) hpn) rfl rfl rfl rfl rfl (by decide +kernel) (by decide) (by decide) (by decide) (by decide) (Nat.le_of_ble_eq_true rfl) ?_
        rintro _ _ ⟨rfl, rfl⟩
        refine vc_punches_X1 hX rfl (hg.2.1 p hpn).1 hks hvv (hg.2.1 p hpn).2.1 (by omega) (hlt _ hcn) hr9 (by decide +kernel) (by decide) (by decide) (by decide) (Nat.le_of_ble_eq_true rfl) ?_
        refine bk hX lkX1_ok (pc' := 61) [.ior, .iastore, .iinc 1 1] (by decide +kernel) (And.intro (by exact vin 6 (by omega)) (And.intro trivial ?_))
        refine gt_ hX (-59) 2 (by decide +kernel) (by decide) ?_
        refine z_lvk (lv' := [(0, _), (1, _)]) [2, 0] rfl ?_
        first
          | (simp only [nI_add]
             refine ih (p + 1) I1 (by omega) q1 (fun c hc => ?_) q3
             rw [hoS_s, if_pos hb]
             exact q2 c hc)
          | (simp only [nI_add, cc, i_or]
             refine ih (p + 1) _ (by omega) (fun q hq => ?_) (fun c hc => ?_) (fun c hc => ?_)
             · rw [up2_ne _ _ _ hq]; exact q1 q hq
             · rw [hoS_s, if_neg hb, up2_at]
               unfold upN
               by_cases hcc : c = gc g p
               · rw [if_pos hcc, if_pos hcc]
               · rw [if_neg hcc, if_neg hcc]; exact q2 c hc
             · rw [up2_at, if_neg (by omega)]; exact q3 c hc)
  refine bk hX lkX1_ok (pc' := 2) [.iconst 0, .istore_n 1] (by decide +kernel) (And.intro trivial ?_)
  refine z_lvk (lv' := [(0, _), (1, _)]) [1, 0] rfl ?_
  exact hl1 (gn g) 0 I (by omega) (fun _ _ => rfl) (fun c hc => (hG.2.2.2 c hc).2.2.1) (fun _ _ => rfl)
theorem c_G3_goDays (E : zE) (K N : Nat → Nat) (Rf : Nat → Nat → Option Nat) (I : Nat → Nat → Int32) (L : Nat → Nat → Int64) {g : Gv} (hg : gwf g) (hG : xG 300 g K Rf I) {w : Wk} (hw : wok w) (hH : xH 300 w K N Rf I) {k : Nat} (hd : gd g + k ≤ 100000) (hk : k ≤ 1000) : zCt E mX1_goDays 5 0 0 (sg K N Rf I L) [.ref 300, .int (nI k)] (fun r σ' => ∃ I', σ' = sg K N Rf I' L ∧ r = none ∧ xG 300 (daysS (rdS w) k g) K Rf I' ∧ gfr 300 (gn g) I I') := by
  refine z_intro (by decide) (Nat.le_of_ble_eq_true rfl) (fun X hX => ?_)
  have hl : ∀ m j (I1 : Nat → Nat → Int32), j + m = k → xG 300 (daysS (rdS w) j g) K Rf I1 → gfr 300 (gn g) I I1 → zS X (sg K N Rf I1 L) 0 0 2 [(0, .ref 300), (1, .int (nI k)), (2, .int (nI j))] [] := by
    intro m
    induction m with
    | zero =>
      intro j I1 hj q1 q2
      obtain rfl : j = k := by omega
      refine bk hX lkX1_ok (pc' := 4) [.iload_n 2, .iload_n 1] (by decide +kernel) (And.intro trivial ?_)
      refine ic_ge hX (13) 17 (by decide +kernel) (by decide) (fun c_4 => ?_) (fun c => absurd (nI_le (Nat.le_refl _) (by omega)) c)
      exact z_vret hX (by decide +kernel) rfl (by decide) (by decide) (⟨I1, rfl, rfl, q1, q2⟩)
    | succ m ih =>
      intro j I1 hj q1 q2
      have hdj := gd_days (rdS w) j g
      have hnj := gn_days (rdS w) j g
      refine bk hX lkX1_ok (pc' := 4) [.iload_n 2, .iload_n 1] (by decide +kernel) (And.intro trivial ?_)
      refine ic_ge hX (13) 17 (by decide +kernel) (by decide) (fun c => absurd c (nI_ge (by omega) (by omega))) (fun c_4 => ?_)
      refine bk hX lkX1_ok (pc' := 8) [.aload_n 0] (by decide +kernel) (And.intro trivial ?_)
      refine z_callV hX kw_X1_98 (c_G3_goDay E K N Rf I1 L (gwf_days hg _ j) q1 (by omega) hw (xH_I hH (gfr_hi (by decide) q2))) rfl rfl rfl rfl rfl (by decide +kernel) (by decide) (by decide) (by decide) (by decide) (Nat.le_of_ble_eq_true rfl) ?_
      rintro _ _ ⟨I2, rfl, rfl, y1, y2⟩
      refine bk hX lkX1_ok (pc' := 14) [.iinc 2 1] (by decide +kernel) (And.intro trivial ?_)
      refine gt_ hX (-12) 2 (by decide +kernel) (by decide) ?_
      refine z_lvk (lv' := [(0, _), (1, _), (2, _)]) [1, 2, 0] rfl ?_
      rw [nI_add]
      rw [hnj] at y2
      exact ih (j + 1) I2 (by omega) y1 (gfr_tr q2 y2)
  refine bk hX lkX1_ok (pc' := 2) [.iconst 0, .istore_n 2] (by decide +kernel) (And.intro trivial ?_)
  refine z_lvk (lv' := [(0, _), (1, _), (2, _)]) [1, 2, 0] rfl ?_
  exact hl k 0 I (by omega) hG (gfr_rf _ _ _)
theorem c_G4_round (E : zE) (K N : Nat → Nat) (Rf : Nat → Nat → Option Nat) (I : Nat → Nat → Int32) (L : Nat → Nat → Int64) {w : Wk} (hw : wok w) (hH : xH 340 w K N Rf I) : zCt E mX1_round 0 0 0 (sg K N Rf I L) [.ref 340] (fun r σ' => σ' = (sg K N Rf I L) ∧ r = some (.int (nI (rdS w)))) := by
  rcases hH with ⟨hn, rfl⟩ | ⟨o, cap, ho, hW⟩
  · refine z_intro (by decide) (Nat.le_of_ble_eq_true rfl) (fun X hX => ?_)
    refine bk hX lkX1_ok (pc' := 1) [.aload_n 0] (by decide +kernel) (And.intro trivial ?_)
    refine z_gN hX lkX1_ok 66 2 7 (fun k h => h) (rfl) (hn) (by decide +kernel) ?_
    refine z_ifnonN hX (off := 7) (by decide +kernel) ?_
    refine bk hX lkX1_ok (pc' := 8) [.iconst 0] (by decide +kernel) (And.intro trivial ?_)
    refine gt_ hX (10) 18 (by decide +kernel) (by decide) ?_
    exact z_iret hX (by decide +kernel) rfl (rfl) (by decide) (by decide) (⟨rfl, rfl⟩)
  · refine z_intro (by decide) (Nat.le_of_ble_eq_true rfl) (fun X hX => ?_)
    obtain ⟨h1, h2, h3, h4, -⟩ := hW
    have kso : (sg K N Rf I L).1 o = 11 + 1 := by rw [show (sg K N Rf I L).1 o = K o from kF_hi K h1]; exact h2
    refine bk hX lkX1_ok (pc' := 1) [.aload_n 0] (by decide +kernel) (And.intro trivial ?_)
    refine z_gR hX lkX1_ok 66 2 7 (fun k h => h) (rfl) (ho) (by decide +kernel) ?_
    refine z_ifnon hX (off := 7) 11 (by decide +kernel) (by decide) ?_
    refine bk hX lkX1_ok (pc' := 12) [.aload_n 0] (by decide +kernel) (And.intro trivial ?_)
    refine z_gR hX lkX1_ok 66 2 7 (fun k h => h) (rfl) (ho) (by decide +kernel) ?_
    refine z_gI hX lkX1_ok 95 11 4 (fun k h => h) (by decide) (kso) (by decide +kernel) ?_
    exact z_iret hX (by decide +kernel) rfl (rfl) (by decide) (by decide) (⟨rfl, congrArg some (congrArg Value.int h4)⟩)
theorem c_G4_temper (E : zE) (K N : Nat → Nat) (Rf : Nat → Nat → Option Nat) (I : Nat → Nat → Int32) (L : Nat → Nat → Int64) {g : Gv} (hg : gwf g) (hG : xG 340 g K Rf I) (hd : gd g < 2 ^ 30) {w : Wk} (hw : wok w) (hH : xH 340 w K N Rf I) {p c : Nat} (hp : p < gn g) (hc : c < gn g) : zCt E mX1_temper 3 0 0 (sg K N Rf I L) [.ref 340, .int (nI p), .int (nI c)] (fun r σ' => σ' = (sg K N Rf I L) ∧ r = some (.int (tmS g w p c))) := by
  have h6 := hg.1
  have cp : (nI p).toNatClampNeg = p := cl (by omega)
  have cc : (nI c).toNatClampNeg = c := cl (by omega)
  obtain ⟨⟨h, hr, hh⟩, -⟩ := hG.2.2.2 p hp
  have eh : I 342 c = nI (gh g c) := (hG.2.2.2 c hc).2.2.1
  have hhc := (hg.2.1 c hc).2.2.2.1
  have hk6 : gk g p ≤ 6 := (hg.2.1 p hp).1
  have e6 : I 340 6 = nI (gd g) := hG.2.2.1
  have m10 : nI (gd g) - nI (gd g) / nI 10 * nI 10 = nI (gd g % 10) := i_mod (by omega) (by decide) (by decide)
  have hks : (sg K N Rf I L).1 h = hci (gk g p) + 1 := by rw [← hh.2.1]; exact kF_hi K hh.1
  have hnum : (sg K N Rf I L).2.2.1 h 0 = nI p := hh.2.2.1
  have hvv : (sg K N Rf I L).2.2.1 h 1 = nI (gv g p) := hh.2.2.2
  rcases hH with ⟨hn, rfl⟩ | ⟨o, cap, ho, hW⟩
  · refine z_intro (by decide) (Nat.le_of_ble_eq_true rfl) (fun X hX => ?_)
    refine bk hX lkX1_ok (pc' := 5) [.aload_n 0, .getfield 11, .iload_n 1] (by decide +kernel) (And.intro trivial ?_)
    refine z_aald hX (q := h) (rfl) (vin 6 (by omega)) (by rw [cp]; exact hr) (by decide +kernel) ?_
    refine bk hX lkX1_ok (pc' := 13) [.astore_n 3, .aload_n 0, .getfield 17, .iload_n 2, .iaload] (by decide +kernel) (And.intro (by exact vin 6 (by omega)) (And.intro trivial ?_))
    simp only [cc, eh]
    refine z_callS hX kw_X1_74 (c_J_bitCount E _ hhc) rfl rfl (by decide +kernel) (by decide) (by decide) (by decide) (by decide) (Nat.le_of_ble_eq_true rfl) ?_
    rintro _ _ ⟨rfl, rfl⟩
    refine bk hX lkX1_ok (pc' := 26) [.istore 4, .bipush 10, .iload 4, .isub, .istore 5, .aload_n 0] (by decide +kernel) (And.intro trivial ?_)
    refine z_gN hX lkX1_ok 66 2 7 (fun k h => h) (rfl) (hn) (by decide +kernel) ?_
    refine z_ifnulN hX (off := 26) 55 (by decide +kernel) (by decide) ?_
    refine bk hX lkX1_ok (pc' := 59) [.aload_n 3, .iload 5, .iload_n 2] (by decide +kernel) (And.intro trivial ?_)
    refine vc_temper_X1 hX rfl hk6 hks hnum hvv (by omega) (by omega) (by decide +kernel) (by decide) (by decide) (by decide) (Nat.le_of_ble_eq_true rfl) ?_
    exact z_iret hX (by decide +kernel) rfl (rfl) (by decide) (by decide) (by refine ⟨rfl, ?_⟩; rw [tmS_K]; unfold moS; show _ = some (Value.int (tmK _ _ _ _ (_ + 0))); rw [Int32.add_zero])
  · have kso : (sg K N Rf I L).1 o = 11 + 1 := by rw [show (sg K N Rf I L).1 o = K o from kF_hi K hW.1]; exact hW.2.1
    refine z_intro (by decide) (Nat.le_of_ble_eq_true rfl) (fun X hX => ?_)
    refine bk hX lkX1_ok (pc' := 5) [.aload_n 0, .getfield 11, .iload_n 1] (by decide +kernel) (And.intro trivial ?_)
    refine z_aald hX (q := h) (rfl) (vin 6 (by omega)) (by rw [cp]; exact hr) (by decide +kernel) ?_
    refine bk hX lkX1_ok (pc' := 13) [.astore_n 3, .aload_n 0, .getfield 17, .iload_n 2, .iaload] (by decide +kernel) (And.intro (by exact vin 6 (by omega)) (And.intro trivial ?_))
    simp only [cc, eh]
    refine z_callS hX kw_X1_74 (c_J_bitCount E _ hhc) rfl rfl (by decide +kernel) (by decide) (by decide) (by decide) (by decide) (Nat.le_of_ble_eq_true rfl) ?_
    rintro _ _ ⟨rfl, rfl⟩
    refine bk hX lkX1_ok (pc' := 26) [.istore 4, .bipush 10, .iload 4, .isub, .istore 5, .aload_n 0] (by decide +kernel) (And.intro trivial ?_)
    refine z_gR hX lkX1_ok 66 2 7 (fun k h => h) (rfl) (ho) (by decide +kernel) ?_
    refine z_ifnul hX (off := 26) (by decide +kernel) ?_
    refine bk hX lkX1_ok (pc' := 35) [.iload 5, .aload_n 0] (by decide +kernel) (And.intro trivial ?_)
    refine z_gR hX lkX1_ok 66 2 7 (fun k h => h) (rfl) (ho) (by decide +kernel) ?_
    refine bk hX lkX1_ok (pc' := 49) [.aload_n 3, .iload_n 2, .iload 4, .aload_n 0, .getfield 63, .bipush 10, .irem] (by decide +kernel) (And.intro (by decide) (And.intro trivial ?_))
    simp only [e6, m10]
    refine z_callV hX kw_X1_85 (c_W_moodOf E K N Rf I L hg hw hp hc hh hW) rfl rfl kso rfl rfl (by decide +kernel) (by decide) (by decide) (by decide) (by decide) (Nat.le_of_ble_eq_true rfl) ?_
    rintro _ _ ⟨rfl, rfl⟩
    refine bk hX lkX1_ok (pc' := 59) [.iadd, .istore 5, .aload_n 3, .iload 5, .iload_n 2] (by decide +kernel) (And.intro trivial ?_)
    refine vc_temper_X1 hX rfl hk6 hks hnum hvv (by omega) (by omega) (by decide +kernel) (by decide) (by decide) (by decide) (Nat.le_of_ble_eq_true rfl) ?_
    exact z_iret hX (by decide +kernel) rfl (rfl) (by decide) (by decide) (⟨rfl, rfl⟩)
theorem c_G4_allTemper (E : zE) (K N : Nat → Nat) (Rf : Nat → Nat → Option Nat) (I : Nat → Nat → Int32) (L : Nat → Nat → Int64) {g : Gv} (hg : gwf g) (hG : xG 340 g K Rf I) (hd : gd g < 2 ^ 30) {w : Wk} (hw : wok w) (hH : xH 340 w K N Rf I) : zCt E mX1_allTemper 4 0 0 (sg K N Rf I L) [.ref 340] (fun r σ' => σ' = (sg K N Rf I L) ∧ r = some (.int (atN g w (gn g)))) := by
  have h6 := hg.1
  refine z_intro (by decide) (Nat.le_of_ble_eq_true rfl) (fun X hX => ?_)
  have hl : ∀ m j, j + m = gn g → zS X (sg K N Rf I L) 0 0 4 [(0, .ref 340), (1, .int (atN g w j)), (2, .int (nI j))] [] := by
    intro m
    induction m with
    | zero =>
      intro j hj
      obtain rfl : j = gn g := by omega
      refine bk hX lkX1_ok (pc' := 9) [.iload_n 2, .aload_n 0, .getfield 56] (by decide +kernel) (And.intro trivial ?_)
      rw [hG.1]
      refine ic_ge hX (23) 32 (by decide +kernel) (by decide) (fun c_9 => ?_) (fun c => absurd (nI_le (Nat.le_refl _) (by omega)) c)
      refine bk hX lkX1_ok (pc' := 33) [.iload_n 1] (by decide +kernel) (And.intro trivial ?_)
      exact z_iret hX (by decide +kernel) rfl (rfl) (by decide) (by decide) (⟨rfl, rfl⟩)
    | succ m ih =>
      intro j hj
      have hjn : j < gn g := by omega
      have ec : I 343 j = nI (gc g j) := (hG.2.2.2 j hjn).2.1
      have hcn := (hg.2.1 j hjn).2.2.1
      refine bk hX lkX1_ok (pc' := 9) [.iload_n 2, .aload_n 0, .getfield 56] (by decide +kernel) (And.intro trivial ?_)
      rw [hG.1]
      refine ic_ge hX (23) 32 (by decide +kernel) (by decide) (fun c => absurd c (nI_ge (by omega) (by omega))) (fun c_9 => ?_)
      refine bk hX lkX1_ok (pc' := 21) [.iload_n 1, .aload_n 0, .iload_n 2, .aload_n 0, .getfield 21, .iload_n 2, .iaload] (by decide +kernel) (And.intro (by exact vin 6 (by omega)) (And.intro trivial ?_))
      simp only [cl (show j < 2 ^ 31 by omega), ec]
      refine z_callV hX kw_X1_94 (c_G4_temper E K N Rf I L hg hG hd hw hH hjn hcn) rfl rfl rfl rfl rfl (by decide +kernel) (by decide) (by decide) (by decide) (by decide) (Nat.le_of_ble_eq_true rfl) ?_
      rintro _ _ ⟨rfl, rfl⟩
      refine bk hX lkX1_ok (pc' := 29) [.iadd, .istore_n 1, .iinc 2 1] (by decide +kernel) (And.intro trivial ?_)
      refine gt_ hX (-25) 4 (by decide +kernel) (by decide) ?_
      refine z_lvk (lv' := [(0, _), (1, _), (2, _)]) [2, 1, 0] rfl ?_
      rw [nI_add]
      exact ih (j + 1) (by omega)
  refine bk hX lkX1_ok (pc' := 4) [.iconst 0, .istore_n 1, .iconst 0, .istore_n 2] (by decide +kernel) (And.intro trivial ?_)
  refine z_lvk (lv' := [(0, _), (1, _), (2, _)]) [2, 1, 0] rfl ?_
  exact hl (gn g) 0 (by omega)
theorem c_G4_goRound (E : zE) (K N : Nat → Nat) (Rf : Nat → Nat → Option Nat) (I : Nat → Nat → Int32) (L : Nat → Nat → Int64) {n : Nat} {c : Nat → Nat} (hn : n ≤ 6) (h4 : I 340 4 = nI n) (hc : ∀ q, q < n → I 343 q = nI (c q)) : zCt E mX1_goRound 1 0 0 (sg K N Rf I L) [.ref 340] (fun r σ' => ∃ I', σ' = sg K N Rf I' L ∧ r = none ∧ (∀ q, q < n → I' 343 q = nI (rotC n c q)) ∧ (∀ q, q ≠ 343 → I' q = I q)) := by
  refine z_intro (by decide) (Nat.le_of_ble_eq_true rfl) (fun X hX => ?_)
  rcases Nat.eq_zero_or_pos n with rfl | hpos
  · have hl0 : zS X (sg K N Rf I L) 0 0 2 [(0, .ref 340), (1, .int (nI 0))] [] := by
      refine bk hX lkX1_ok (pc' := 9) [.iload_n 1, .aload_n 0, .getfield 56, .iconst 1, .isub] (by decide +kernel) (And.intro trivial ?_)
      rw [h4]
      refine ic_ge hX (17) 26 (by decide +kernel) (by decide) (fun c_9 => ?_) (fun c => absurd (by decide) c)
      exact z_vret hX (by decide +kernel) rfl (by decide) (by decide) (⟨I, rfl, rfl, fun q hq => absurd hq (Nat.not_lt_zero _), fun _ _ => rfl⟩)
    refine bk hX lkX1_ok (pc' := 2) [.iconst 0, .istore_n 1] (by decide +kernel) (And.intro trivial ?_)
    refine z_lvk (lv' := [(0, _), (1, _)]) [1, 0] rfl ?_
    exact hl0
  have hl : ∀ m p (I1 : Nat → Nat → Int32), p + m + 1 = n → (∀ q, q ≠ 343 → I1 q = I q) → (∀ q, q < n → I1 343 q = nI (if q < p then c (q + 1) else if q = p then c 0 else c q)) → zS X (sg K N Rf I1 L) 0 0 2 [(0, .ref 340), (1, .int (nI p))] [] := by
    intro m
    induction m with
    | zero =>
      intro p I1 hp q1 q2
      have e4 : I1 340 4 = nI n := by rw [q1 340 (by decide)]; exact h4
      refine bk hX lkX1_ok (pc' := 9) [.iload_n 1, .aload_n 0, .getfield 56, .iconst 1, .isub] (by decide +kernel) (And.intro trivial ?_)
      rw [e4, i_m1 hpos]
      refine ic_ge hX (17) 26 (by decide +kernel) (by decide) (fun c_9 => ?_) (fun c => absurd (nI_le (by omega) (by omega)) c)
      exact z_vret hX (by decide +kernel) rfl (by decide) (by decide) (⟨I1, rfl, rfl, fun q hq => by
    rw [q2 q hq]
    unfold rotC
    rw [if_pos hq]
    congr 1
    by_cases z : q < p
    · rw [if_pos z, Nat.mod_eq_of_lt (by omega)]
    · rw [if_neg z, if_pos (by omega), show q + 1 = n by omega, Nat.mod_self], q1⟩)
    | succ m ih =>
      intro p I1 hp q1 q2
      have e4 : I1 340 4 = nI n := by rw [q1 340 (by decide)]; exact h4
      refine bk hX lkX1_ok (pc' := 9) [.iload_n 1, .aload_n 0, .getfield 56, .iconst 1, .isub] (by decide +kernel) (And.intro trivial ?_)
      rw [e4, i_m1 hpos]
      refine ic_ge hX (17) 26 (by decide +kernel) (by decide) (fun c => absurd c (nI_ge (by omega) (by omega))) (fun c_9 => ?_)
      refine bk hX lkX1_ok (pc' := 17) [.aload_n 0, .iload_n 1, .iload_n 1, .iconst 1, .iadd] (by decide +kernel) (And.intro trivial ?_)
      rw [nI_add]
      refine z_callV hX kw_X1_118 (c_G4_exchange E K N Rf I1 L p (p + 1) (by omega) (by omega)) rfl rfl rfl rfl rfl (by decide +kernel) (by decide) (by decide) (by decide) (by decide) (Nat.le_of_ble_eq_true rfl) ?_
      rintro _ _ ⟨rfl, rfl⟩
      refine bk hX lkX1_ok (pc' := 23) [.iinc 1 1] (by decide +kernel) (And.intro trivial ?_)
      refine gt_ hX (-21) 2 (by decide +kernel) (by decide) ?_
      refine z_lvk (lv' := [(0, _), (1, _)]) [1, 0] rfl ?_
      rw [nI_add]
      refine ih (p + 1) _ (by omega) (fun q hq => ?_) (fun q hq => ?_)
      · rw [up2_ne _ _ _ hq, up2_ne _ _ _ hq]; exact q1 q hq
      · rw [up2_at]
        by_cases z1 : q = p + 1
        · rw [if_pos z1, q2 p (by omega), if_neg (by omega), if_pos rfl, if_neg (by omega), if_pos z1]
        · rw [if_neg z1, up2_at]
          by_cases z2 : q = p
          · rw [if_pos z2, q2 (p + 1) (by omega), if_neg (by omega), if_neg (by omega), if_pos (by omega), z2]
          · rw [if_neg z2, q2 q hq]
            by_cases z3 : q < p
            · rw [if_pos z3, if_pos (by omega)]
            · rw [if_neg z3, if_neg z2, if_neg (by omega), if_neg z1]
  refine bk hX lkX1_ok (pc' := 2) [.iconst 0, .istore_n 1] (by decide +kernel) (And.intro trivial ?_)
  refine z_lvk (lv' := [(0, _), (1, _)]) [1, 0] rfl ?_
  exact hl (n - 1) 0 I (by omega) (fun _ _ => rfl) (fun q hq => by
    rw [hc q hq, if_neg (Nat.not_lt_zero _)]
    by_cases z : q = 0
    · rw [if_pos z, z]
    · rw [if_neg z])
set_option maxHeartbeats 2000000 in
theorem c_G4_goDay (E : zE) (K N : Nat → Nat) (Rf : Nat → Nat → Option Nat) (I : Nat → Nat → Int32) (L : Nat → Nat → Int64) {g : Gv} (hg : gwf g) (hG : xG 340 g K Rf I) (hd : gd g < 100000) {w : Wk} (hw : wok w) (hH : xH 340 w K N Rf I) : zCt E mX1_goDay 4 0 0 (sg K N Rf I L) [.ref 340] (fun r σ' => ∃ I', σ' = sg K N Rf I' L ∧ r = none ∧ xG 340 (dayS (rdS w) g) K Rf I' ∧ gfr 340 (gn g) I I') := by
  have h6 : gn g ≤ 6 := hg.1
  have hr99 : rdS w ≤ 99 := rdN_wok hw _ (Nat.le_refl _)
  refine z_intro (by decide) (Nat.le_of_ble_eq_true rfl) (fun X hX => ?_)
  have hl1 : ∀ m p (I1 : Nat → Nat → Int32), p + m = gn g → (∀ q, q ≠ 342 → I1 q = I q) → (∀ c, c < gn g → I1 342 c = nI (hoS g p c)) → (∀ c, gn g ≤ c → I1 342 c = I 342 c) → zS X (sg K N Rf I1 L) 0 0 2 [(0, .ref 340), (1, .int (nI p))] [] := by
    intro m
    induction m with
    | zero =>
      intro p I1 hp q1 q2 q3
      obtain rfl : p = gn g := by omega
      have e0 : I1 340 4 = nI (gn g) := by rw [q1 340 (by decide)]; exact hG.1
      have e2 : I1 340 6 = nI (gd g) := by rw [q1 340 (by decide)]; exact hG.2.2.1
      have hH2 : xH 340 w K N Rf (up2 I1 340 6 (nI (gd g + 1))) := xH_I hH (fun q hq => by rw [up2_ne _ _ _ (by omega), q1 q (by omega)])
      have hG1 : ∀ (cf : Nat → Nat) (I4 : Nat → Nat → Int32), (∀ q, q ≠ 343 → I4 q = up2 I1 340 6 (nI (gd g + 1)) q) → (∀ c, c < gn g → I4 343 c = nI (cf c)) → xG 340 (gn g, gk g, gv g, cf, hoS g (gn g), gr g, ga g, gd g + 1) K Rf I4 ∧ gfr 340 (gn g) I I4 := by
        intro cf I4 z1 z2
        have z0 : ∀ q, q ≠ 343 → q ≠ 340 → I4 q = I1 q := fun q h0 h1 => by rw [z1 q h0, up2_ne _ _ _ h1]
        have z100 : ∀ k, I4 340 k = if k = 6 then nI (gd g + 1) else I1 340 k := fun k => by rw [z1 340 (by decide), up2_at]
        refine ⟨xG_mk hG ?_ ?_ ?_ (fun q hq => ?_) ?_ z2 (fun q hq => ?_), fun q h1 h2 h3 => ?_, fun k h5 h6 => ?_, fun k hk => ?_⟩
        · rw [z100, if_neg (by decide), e0, hG.1]
        · rw [z100, if_neg (by decide), q1 340 (by decide)]; exact hG.2.1
        · rw [z100, if_pos rfl]
        · rw [z0 q (by omega) (by omega), q1 q (by omega)]
        · rw [z0 _ (by decide) (by decide), q1 _ (by decide)]
        · rw [z0 _ (by decide) (by decide)]; exact q2 q hq
        · rw [z0 q h3 h1, q1 q h2]
        · rw [z100, if_neg h6, q1 340 (by decide)]
        · rw [z0 _ (by decide) (by decide)]; exact q3 k hk
      have hcd : ∀ c, c < gn g → up2 I1 340 6 (nI (gd g + 1)) 343 c = nI (gc g c) := fun c hc => by rw [up2_ne _ _ _ (by decide), q1 _ (by decide)]; exact (hG.2.2.2 c hc).2.1
      have hstay : (rdS w = 0 ∨ (gd g + 1) % rdS w ≠ 0) → (∃ I', sg K N Rf (up2 I1 340 6 (nI (gd g + 1))) L = sg K N Rf I' L ∧ (none : Option Value) = none ∧ xG 340 (dayS (rdS w) g) K Rf I' ∧ gfr 340 (gn g) I I') := by
        intro hc
        obtain ⟨x1, x2⟩ := hG1 (gc g) _ (fun _ _ => rfl) hcd
        exact ⟨_, rfl, rfl, by unfold dayS; rw [if_pos hc]; exact x1, x2⟩
      refine bk hX lkX1_ok (pc' := 7) [.iload_n 1, .aload_n 0, .getfield 56] (by decide +kernel) (And.intro trivial ?_)
      rw [e0]
      refine ic_ge hX (57) 64 (by decide +kernel) (by decide) (fun c_7 => ?_) (fun c => absurd (nI_le (Nat.le_refl _) (by omega)) c)
      refine bk hX lkX1_ok (pc' := 74) [.aload_n 0, .dup, .getfield 63, .iconst 1, .iadd, .putfield 63] (by decide +kernel) (And.intro trivial ?_)
      simp only [e2, nI_add]
      refine bk hX lkX1_ok (pc' := 75) [.aload_n 0] (by decide +kernel) (And.intro trivial ?_)
      refine z_callV hX kw_X1_112 (c_G4_round E K N Rf _ L hw hH2) rfl rfl rfl rfl rfl (by decide +kernel) (by decide) (by decide) (by decide) (by decide) (Nat.le_of_ble_eq_true rfl) ?_
      rintro _ _ ⟨rfl, rfl⟩
      refine bk hX lkX1_ok (pc' := 80) [.istore_n 1, .iload_n 1] (by decide +kernel) (And.intro trivial ?_)
      refine if_le hX (16) 96 (by decide +kernel) (by decide) (fun c80 => ?_) (fun c80 => ?_)
      · exact z_vret hX (by decide +kernel) rfl (by decide) (by decide) (by
  first
    | (refine hstay (Or.inl ?_)
       have z := (nI_leI (a := rdS w) (b := 0) (by omega) (by decide)).mp c80
       omega)
    | exact hstay (Or.inr (fun z => c89 (by rw [z]; rfl)))
    | (obtain ⟨x1, x2⟩ := hG1 (rotC (gn g) (gc g)) I4 y2 y1
       refine ⟨_, rfl, rfl, ?_, x2⟩
       unfold dayS
       rw [if_neg (fun z => z.elim (fun z => c80 (by rw [z]; decide)) (fun z => z (nI_inj (Nat.lt_of_le_of_lt (Nat.mod_le _ _) (by omega)) (by decide) c89)))]
       exact x1))
      · refine bk hX lkX1_ok (pc' := 89) [.aload_n 0, .getfield 63, .iload_n 1, .irem] (by decide +kernel) (And.intro (by exact nI_ne0 (Nat.pos_of_ne_zero (fun z => c80 (by rw [z]; decide))) (by omega)) (And.intro trivial ?_))
        simp only [up2_self]
        rw [i_mod (by omega) (Nat.pos_of_ne_zero (fun z => c80 (by rw [z]; decide))) (by omega)]
        refine if_ne hX (7) 96 (by decide +kernel) (by decide) (fun c89 => ?_) (fun c89 => ?_)
        · exact z_vret hX (by decide +kernel) rfl (by decide) (by decide) (by
  first
    | (refine hstay (Or.inl ?_)
       have z := (nI_leI (a := rdS w) (b := 0) (by omega) (by decide)).mp c80
       omega)
    | exact hstay (Or.inr (fun z => c89 (by rw [z]; rfl)))
    | (obtain ⟨x1, x2⟩ := hG1 (rotC (gn g) (gc g)) I4 y2 y1
       refine ⟨_, rfl, rfl, ?_, x2⟩
       unfold dayS
       rw [if_neg (fun z => z.elim (fun z => c80 (by rw [z]; decide)) (fun z => z (nI_inj (Nat.lt_of_le_of_lt (Nat.mod_le _ _) (by omega)) (by decide) c89)))]
       exact x1))
        · refine bk hX lkX1_ok (pc' := 93) [.aload_n 0] (by decide +kernel) (And.intro trivial ?_)
          refine z_callV hX kw_X1_115 (c_G4_goRound E K N Rf _ L h6 (by rw [up2_at, if_neg (by decide)]; exact e0) hcd) rfl rfl rfl rfl rfl (by decide +kernel) (by decide) (by decide) (by decide) (by decide) (Nat.le_of_ble_eq_true rfl) ?_
          rintro _ _ ⟨I4, rfl, rfl, y1, y2⟩
          exact z_vret hX (by decide +kernel) rfl (by decide) (by decide) (by
  first
    | (refine hstay (Or.inl ?_)
       have z := (nI_leI (a := rdS w) (b := 0) (by omega) (by decide)).mp c80
       omega)
    | exact hstay (Or.inr (fun z => c89 (by rw [z]; rfl)))
    | (obtain ⟨x1, x2⟩ := hG1 (rotC (gn g) (gc g)) I4 y2 y1
       refine ⟨_, rfl, rfl, ?_, x2⟩
       unfold dayS
       rw [if_neg (fun z => z.elim (fun z => c80 (by rw [z]; decide)) (fun z => z (nI_inj (Nat.lt_of_le_of_lt (Nat.mod_le _ _) (by omega)) (by decide) c89)))]
       exact x1))
    | succ m ih =>
      intro p I1 hp q1 q2 q3
      have hpn : p < gn g := by omega
      have e0 : I1 340 4 = nI (gn g) := by rw [q1 340 (by decide)]; exact hG.1
      have e1 : I1 340 5 = ga g := by rw [q1 340 (by decide)]; exact hG.2.1
      have e6 : I1 340 6 = nI (gd g) := by rw [q1 340 (by decide)]; exact hG.2.2.1
      have ec : I1 343 p = nI (gc g p) := by rw [q1 _ (by decide)]; exact (hG.2.2.2 p hpn).2.1
      have hcn : gc g p < gn g := (hg.2.1 p hpn).2.2.1
      have eh : I1 342 (gc g p) = nI (hoS g p (gc g p)) := q2 _ hcn
      have hlt := hoS_lt hg p (by omega)
      have cp : (nI p).toNatClampNeg = p := cl (by omega)
      have cc : (nI (gc g p)).toNatClampNeg = gc g p := cl (by omega)
      obtain ⟨⟨h, hr, hh⟩, -⟩ := hG.2.2.2 p hpn
      have hh1 : I1 h = I h := q1 h (by have := hh.1; omega)
      have hks : (sg K N Rf I1 L).1 h = hci (gk g p) + 1 := by rw [← hh.2.1]; exact kF_hi K hh.1
      have hvv : (sg K N Rf I1 L).2.2.1 h 1 = nI (gv g p) := by rw [show (sg K N Rf I1 L).2.2.1 h = I h from hh1]; exact hh.2.2.2
      have hGp : xG 340 (gn g, gk g, gv g, gc g, hoS g p, gr g, ga g, gd g) K Rf I1 := xG_mk hG (by rw [q1 340 (by decide)]) e1 e6 (fun q hq => q1 q (by omega)) (q1 _ (by decide)) (fun q hq => by rw [q1 _ (by decide)]; exact (hG.2.2.2 q hq).2.1) q2
      have hr9 : gr g (4 * p + gd g % 4) ≤ 9 := (hg.2.1 p hpn).2.2.2.2 _ (Nat.mod_lt _ (by decide))
      refine bk hX lkX1_ok (pc' := 7) [.iload_n 1, .aload_n 0, .getfield 56] (by decide +kernel) (And.intro trivial ?_)
      rw [e0]
      refine ic_ge hX (57) 64 (by decide +kernel) (by decide) (fun c => absurd c (nI_ge (by omega) (by omega))) (fun c_7 => ?_)
      refine bk hX lkX1_ok (pc' := 12) [.aload_n 0, .iload_n 1] (by decide +kernel) (And.intro trivial ?_)
      refine z_callV hX kw_X1_101 (c_G4_isAtHome E K N Rf I1 L p) rfl rfl rfl rfl rfl (by decide +kernel) (by decide) (by decide) (by decide) (by decide) (Nat.le_of_ble_eq_true rfl) ?_
      rintro _ _ ⟨rfl, hh⟩
      rw [e1] at hh
      rcases hh with ⟨hb, rfl⟩ | ⟨hb, rfl⟩
      · refine if_ne hX (43) 58 (by decide +kernel) (by decide) (fun c_15 => ?_) (fun c => absurd c (by decide))
        refine bk hX lkX1_ok (pc' := 61) [.iinc 1 1] (by decide +kernel) (And.intro trivial ?_)
        refine gt_ hX (-59) 2 (by decide +kernel) (by decide) ?_
        refine z_lvk (lv' := [(0, _), (1, _)]) [1, 0] rfl ?_
        first
          | (simp only [nI_add]
             refine ih (p + 1) I1 (by omega) q1 (fun c hc => ?_) q3
             rw [hoS_s, if_pos hb]
             exact q2 c hc)
          | (simp only [nI_add, cc, i_or]
             refine ih (p + 1) _ (by omega) (fun q hq => ?_) (fun c hc => ?_) (fun c hc => ?_)
             · rw [up2_ne _ _ _ hq]; exact q1 q hq
             · rw [hoS_s, if_neg hb, up2_at]
               unfold upN
               by_cases hcc : c = gc g p
               · rw [if_pos hcc, if_pos hcc]
               · rw [if_neg hcc, if_neg hcc]; exact q2 c hc
             · rw [up2_at, if_neg (by omega)]; exact q3 c hc)
      · refine if_ne hX (43) 58 (by decide +kernel) (by decide) (fun c => absurd (by decide) c) (fun c_15 => ?_)
        refine bk hX lkX1_ok (pc' := 25) [.aload_n 0, .getfield 21, .iload_n 1, .iaload, .istore_n 2] (by decide +kernel) (And.intro (by exact vin 6 (by omega)) (And.intro trivial ?_))
        simp only [cp, ec]
        refine bk hX lkX1_ok (pc' := 32) [.aload_n 0, .getfield 17, .iload_n 2, .dup2, .iaload] (by decide +kernel) (And.intro (by exact vin 6 (by omega)) (And.intro trivial ?_))
        simp only [cc, eh]
        refine bk hX lkX1_ok (pc' := 37) [.aload_n 0, .getfield 11, .iload_n 1] (by decide +kernel) (And.intro trivial ?_)
        refine z_aald hX (q := h) (rfl) (vin 6 (by omega)) (by rw [cp]; exact hr) (by decide +kernel) ?_
        refine bk hX lkX1_ok (pc' := 48) [.aload_n 0, .getfield 63, .aload_n 0, .getfield 17, .iload_n 2, .iaload] (by decide +kernel) (And.intro (by exact vin 6 (by omega)) (And.intro trivial ?_))
        simp only [cc, eh, e6]
        refine bk hX lkX1_ok (pc' := 50) [.aload_n 0, .iload_n 1] (by decide +kernel) (And.intro trivial ?_)
        refine z_callV hX kw_X1_105 (c_G4_rowSlot E K N Rf I1 L (gwf_ho hg hlt) hGp (by show gd g < 2 ^ 30; omega) hpn) rfl rfl rfl rfl rfl (by decide +kernel) (by decide) (by decide) (by decide) (by decide) (Nat.le_of_ble_eq_true rfl) ?_
        rintro _ _ ⟨rfl, rfl⟩
        refine vc_punches_X1 hX rfl (hg.2.1 p hpn).1 hks hvv (hg.2.1 p hpn).2.1 (by omega) (hlt _ hcn) hr9 (by decide +kernel) (by decide) (by decide) (by decide) (Nat.le_of_ble_eq_true rfl) ?_
        refine bk hX lkX1_ok (pc' := 61) [.ior, .iastore, .iinc 1 1] (by decide +kernel) (And.intro (by exact vin 6 (by omega)) (And.intro trivial ?_))
        refine gt_ hX (-59) 2 (by decide +kernel) (by decide) ?_
        refine z_lvk (lv' := [(0, _), (1, _)]) [2, 0] rfl ?_
        first
          | (simp only [nI_add]
             refine ih (p + 1) I1 (by omega) q1 (fun c hc => ?_) q3
             rw [hoS_s, if_pos hb]
             exact q2 c hc)
          | (simp only [nI_add, cc, i_or]
             refine ih (p + 1) _ (by omega) (fun q hq => ?_) (fun c hc => ?_) (fun c hc => ?_)
             · rw [up2_ne _ _ _ hq]; exact q1 q hq
             · rw [hoS_s, if_neg hb, up2_at]
               unfold upN
               by_cases hcc : c = gc g p
               · rw [if_pos hcc, if_pos hcc]
               · rw [if_neg hcc, if_neg hcc]; exact q2 c hc
             · rw [up2_at, if_neg (by omega)]; exact q3 c hc)
  refine bk hX lkX1_ok (pc' := 2) [.iconst 0, .istore_n 1] (by decide +kernel) (And.intro trivial ?_)
  refine z_lvk (lv' := [(0, _), (1, _)]) [1, 0] rfl ?_
  exact hl1 (gn g) 0 I (by omega) (fun _ _ => rfl) (fun c hc => (hG.2.2.2 c hc).2.2.1) (fun _ _ => rfl)
theorem c_G4_goDays (E : zE) (K N : Nat → Nat) (Rf : Nat → Nat → Option Nat) (I : Nat → Nat → Int32) (L : Nat → Nat → Int64) {g : Gv} (hg : gwf g) (hG : xG 340 g K Rf I) {w : Wk} (hw : wok w) (hH : xH 340 w K N Rf I) {k : Nat} (hd : gd g + k ≤ 100000) (hk : k ≤ 1000) : zCt E mX1_goDays 5 0 0 (sg K N Rf I L) [.ref 340, .int (nI k)] (fun r σ' => ∃ I', σ' = sg K N Rf I' L ∧ r = none ∧ xG 340 (daysS (rdS w) k g) K Rf I' ∧ gfr 340 (gn g) I I') := by
  refine z_intro (by decide) (Nat.le_of_ble_eq_true rfl) (fun X hX => ?_)
  have hl : ∀ m j (I1 : Nat → Nat → Int32), j + m = k → xG 340 (daysS (rdS w) j g) K Rf I1 → gfr 340 (gn g) I I1 → zS X (sg K N Rf I1 L) 0 0 2 [(0, .ref 340), (1, .int (nI k)), (2, .int (nI j))] [] := by
    intro m
    induction m with
    | zero =>
      intro j I1 hj q1 q2
      obtain rfl : j = k := by omega
      refine bk hX lkX1_ok (pc' := 4) [.iload_n 2, .iload_n 1] (by decide +kernel) (And.intro trivial ?_)
      refine ic_ge hX (13) 17 (by decide +kernel) (by decide) (fun c_4 => ?_) (fun c => absurd (nI_le (Nat.le_refl _) (by omega)) c)
      exact z_vret hX (by decide +kernel) rfl (by decide) (by decide) (⟨I1, rfl, rfl, q1, q2⟩)
    | succ m ih =>
      intro j I1 hj q1 q2
      have hdj := gd_days (rdS w) j g
      have hnj := gn_days (rdS w) j g
      refine bk hX lkX1_ok (pc' := 4) [.iload_n 2, .iload_n 1] (by decide +kernel) (And.intro trivial ?_)
      refine ic_ge hX (13) 17 (by decide +kernel) (by decide) (fun c => absurd c (nI_ge (by omega) (by omega))) (fun c_4 => ?_)
      refine bk hX lkX1_ok (pc' := 8) [.aload_n 0] (by decide +kernel) (And.intro trivial ?_)
      refine z_callV hX kw_X1_98 (c_G4_goDay E K N Rf I1 L (gwf_days hg _ j) q1 (by omega) hw (xH_I hH (gfr_hi (by decide) q2))) rfl rfl rfl rfl rfl (by decide +kernel) (by decide) (by decide) (by decide) (by decide) (Nat.le_of_ble_eq_true rfl) ?_
      rintro _ _ ⟨I2, rfl, rfl, y1, y2⟩
      refine bk hX lkX1_ok (pc' := 14) [.iinc 2 1] (by decide +kernel) (And.intro trivial ?_)
      refine gt_ hX (-12) 2 (by decide +kernel) (by decide) ?_
      refine z_lvk (lv' := [(0, _), (1, _), (2, _)]) [1, 2, 0] rfl ?_
      rw [nI_add]
      rw [hnj] at y2
      exact ih (j + 1) I2 (by omega) y1 (gfr_tr q2 y2)
  refine bk hX lkX1_ok (pc' := 2) [.iconst 0, .istore_n 2] (by decide +kernel) (And.intro trivial ?_)
  refine z_lvk (lv' := [(0, _), (1, _), (2, _)]) [1, 2, 0] rfl ?_
  exact hl k 0 I (by omega) hG (gfr_rf _ _ _)
theorem c_G4_goPlanned (E : zE) (K N : Nat → Nat) (Rf : Nat → Nat → Option Nat) (I : Nat → Nat → Int32) (L : Nat → Nat → Int64) {g : Gv} (hg : gwf g) (hG : xG 340 g K Rf I) {w : Wk} (hw : wok w) (hH : xH 340 w K N Rf I) (hd : gd g < 100000) {wh x : Nat} {y : Int32} (hw3 : wh ≤ 3) (hy : 1 ≤ wh → y = nI x) (hx : x < 100) (h1 : wh = 1 → x / 10 < gn g ∧ x % 10 < gn g) : zCt E mX1_goPlanned 5 0 0 (sg K N Rf I L) [.ref 340, .int (nI wh), .int y] (fun r σ' => ∃ I', σ' = sg K N Rf I' L ∧ r = none ∧ xG 340 (gpS (rdS w) g wh x) K Rf I' ∧ gfr 340 (gn g) I I') := by
  have h6 := hg.1
  have hwc : wh = 0 ∨ wh = 1 ∨ wh = 2 ∨ wh = 3 := by omega
  refine z_intro (by decide) (Nat.le_of_ble_eq_true rfl) (fun X hX => ?_)
  refine bk hX lkX1_ok (pc' := 1) [.iload_n 1] (by decide +kernel) (And.intro trivial ?_)
  rcases hwc with rfl | rfl | rfl | rfl
  · refine z_tsw hX 61 (dflt := 60) (lo := 1) (hi := 3) (offs := #[27, 42, 51]) (len := 27) (off := 60) (by decide +kernel) (by decide) (by decide) ?_
    refine bk hX lkX1_ok (pc' := 62) [.aload_n 0] (by decide +kernel) (And.intro trivial ?_)
    refine z_callV hX kw_X1_98 (c_G4_goDay E K N Rf I L hg hG hd hw hH) rfl rfl rfl rfl rfl (by decide +kernel) (by decide) (by decide) (by decide) (by decide) (Nat.le_of_ble_eq_true rfl) ?_
    rintro _ _ ⟨I2, rfl, rfl, y1, y2⟩
    exact z_vret hX (by decide +kernel) rfl (by decide) (by decide) (by first | exact ⟨I2, rfl, rfl, y1, y2⟩ | exact ⟨_, rfl, rfl, hfin, hfr⟩ | exact ⟨_, rfl, rfl, hfin 1, hfr _⟩ | exact ⟨_, rfl, rfl, hfin 0, hfr _⟩)
  · obtain ⟨x1, x2⟩ := h1 rfl
    obtain rfl := hy (by decide)
    refine z_tsw hX 28 (dflt := 60) (lo := 1) (hi := 3) (offs := #[27, 42, 51]) (len := 27) (off := 27) (by decide +kernel) (by decide) (by decide) ?_
    refine bk hX lkX1_ok (pc' := 37) [.aload_n 0, .iload_n 2, .bipush 10, .idiv, .iload_n 2, .bipush 10, .irem] (by decide +kernel) (And.intro (by decide) (And.intro (by decide) (And.intro trivial ?_)))
    rw [i_mod (by omega) (by decide) (by decide), i_div (by omega) (by decide) (by decide)]
    refine z_callV hX kw_X1_118 (c_G4_exchange E K N Rf I L (x / 10) (x % 10) (by omega) (by omega)) rfl rfl rfl rfl rfl (by decide +kernel) (by decide) (by decide) (by decide) (by decide) (Nat.le_of_ble_eq_true rfl) ?_
    rintro _ _ ⟨rfl, rfl⟩
    have hfin := xG_sw (b := 340) (by decide) hG x1 x2
    have hfr := gfr_sw (b := 340) (n := gn g) (I := I) (x / 10) (x % 10) (I 343 (x % 10)) (I 343 (x / 10))
    refine gt_ hX (25) 65 (by decide +kernel) (by decide) ?_
    exact z_vret hX (by decide +kernel) rfl (by decide) (by decide) (by first | exact ⟨I2, rfl, rfl, y1, y2⟩ | exact ⟨_, rfl, rfl, hfin, hfr⟩ | exact ⟨_, rfl, rfl, hfin 1, hfr _⟩ | exact ⟨_, rfl, rfl, hfin 0, hfr _⟩)
  · obtain rfl := hy (by decide)
    refine z_tsw hX 43 (dflt := 60) (lo := 1) (hi := 3) (offs := #[27, 42, 51]) (len := 27) (off := 42) (by decide +kernel) (by decide) (by decide) ?_
    refine bk hX lkX1_ok (pc' := 46) [.aload_n 0, .iload_n 2, .iconst 1] (by decide +kernel) (And.intro trivial ?_)
    refine z_callV hX kw_X1_122 (c_G4_keepAtHome E K N Rf I L _ _) rfl rfl rfl rfl rfl (by decide +kernel) (by decide) (by decide) (by decide) (by decide) (Nat.le_of_ble_eq_true rfl) ?_
    rintro _ _ ⟨rfl, rfl⟩
    have hfin := xG_home (b := 340) (by decide) hG (nI x)
    have hfr := fun z => gfr_home (b := 340) (n := gn g) (I := I) z
    refine gt_ hX (16) 65 (by decide +kernel) (by decide) ?_
    exact z_vret hX (by decide +kernel) rfl (by decide) (by decide) (by first | exact ⟨I2, rfl, rfl, y1, y2⟩ | exact ⟨_, rfl, rfl, hfin, hfr⟩ | exact ⟨_, rfl, rfl, hfin 1, hfr _⟩ | exact ⟨_, rfl, rfl, hfin 0, hfr _⟩)
  · obtain rfl := hy (by decide)
    refine z_tsw hX 52 (dflt := 60) (lo := 1) (hi := 3) (offs := #[27, 42, 51]) (len := 27) (off := 51) (by decide +kernel) (by decide) (by decide) ?_
    refine bk hX lkX1_ok (pc' := 55) [.aload_n 0, .iload_n 2, .iconst 0] (by decide +kernel) (And.intro trivial ?_)
    refine z_callV hX kw_X1_122 (c_G4_keepAtHome E K N Rf I L _ _) rfl rfl rfl rfl rfl (by decide +kernel) (by decide) (by decide) (by decide) (by decide) (Nat.le_of_ble_eq_true rfl) ?_
    rintro _ _ ⟨rfl, rfl⟩
    have hfin := xG_home (b := 340) (by decide) hG (nI x)
    have hfr := fun z => gfr_home (b := 340) (n := gn g) (I := I) z
    refine gt_ hX (7) 65 (by decide +kernel) (by decide) ?_
    exact z_vret hX (by decide +kernel) rfl (by decide) (by decide) (by first | exact ⟨I2, rfl, rfl, y1, y2⟩ | exact ⟨_, rfl, rfl, hfin, hfr⟩ | exact ⟨_, rfl, rfl, hfin 1, hfr _⟩ | exact ⟨_, rfl, rfl, hfin 0, hfr _⟩)
