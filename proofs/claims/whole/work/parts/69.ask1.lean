/-! ===== what is asked of the class, on its trial ===== -/
def aE (I I' : Nat → Nat → Int32) : Prop := ∀ q, (q < 340 ∨ 380 ≤ q) → q ≠ 209 → q ≠ 210 → I' q = I q
def aR (R R' : Nat → Nat → Option Nat) : Prop := ∀ q, q ≠ 340 → q ≠ 341 → R' q = R q
theorem aE_rf (I : Nat → Nat → Int32) : aE I I := fun _ _ _ _ => rfl
theorem aE_tr {I I1 I2 : Nat → Nat → Int32} (h1 : aE I I1) (h2 : aE I1 I2) : aE I I2 := fun q a b c => (h2 q a b c).trans (h1 q a b c)
theorem aR_rf (R : Nat → Nat → Option Nat) : aR R R := fun _ _ _ => rfl
theorem aR_tr {R R1 R2 : Nat → Nat → Option Nat} (h1 : aR R R1) (h2 : aR R1 R2) : aR R R2 := fun q a b => (h2 q a b).trans (h1 q a b)
theorem aE_g {n : Nat} {I I' : Nat → Nat → Int32} (h : gfr 340 n I I') : aE I I' := fun q hq _ _ => h.1 q (by omega) (by omega) (by omega)
theorem aE_fl (I : Nat → Nat → Int32) : aE I (flI 340 300 I) := fun q hq _ _ => funext fun k => by
  unfold flI
  rw [if_neg (fun z => by omega), if_neg (fun z => by omega), if_neg (fun z => by omega), if_neg (fun z => by omega)]
theorem aR_fl (R : Nat → Nat → Option Nat) : aR R (flR 340 300 R) := fun q h0 h1 => by
  unfold flR
  rw [up2_ne _ _ _ h0]
  funext k
  exact if_neg (fun z => h1 z.1)
/-- what is now: the gate, its works, its hands -/
def xN (g : Gv) (w : Wk) (K N : Nat → Nat) (R : Nat → Nat → Option Nat) (I : Nat → Nat → Int32) : Prop := xG 300 g K R I ∧ xH 300 w K N R I ∧ xHs 300 K R
theorem xG_a {g : Gv} {K : Nat → Nat} {R R' : Nat → Nat → Option Nat} {I I' : Nat → Nat → Int32} (hG : xG 300 g K R I) (hR : aR R R') (hI : aE I I') : xG 300 g K R' I' := by
  obtain ⟨g1, g2, g3, g4⟩ := hG
  have e : ∀ q, 300 ≤ q → q < 340 → I' q = I q := fun q h1 h2 => hI q (Or.inl h2) (by omega) (by omega)
  refine ⟨by rw [e 300 (by decide) (by decide)]; exact g1, by rw [e 300 (by decide) (by decide)]; exact g2, by rw [e 300 (by decide) (by decide)]; exact g3, fun p hp => ?_⟩
  obtain ⟨⟨h, k1, k2⟩, k3, k4, k5⟩ := g4 p hp
  refine ⟨⟨h, by rw [hR _ (by decide) (by decide)]; exact k1, xHd_I k2 (fun q hq => hI q (by omega) (by omega) (by omega))⟩, by rw [e _ (by decide) (by decide)]; exact k3, by rw [e _ (by decide) (by decide)]; exact k4, fun j hj => by rw [e _ (by decide) (by decide)]; exact k5 j hj⟩
theorem xWs_a {o : Nat} {ss : List Spt} {r cap : Nat} {K N : Nat → Nat} {R R' : Nat → Nat → Option Nat} {I I' : Nat → Nat → Int32} (h : xWs o ss r cap K N R I) (eR : ∀ q, 1000 ≤ q → R' q = R q) (e : ∀ q, 1000 ≤ q → I' q = I q) : xWs o ss r cap K N R' I' := by
  obtain ⟨h1, h2, h3, h4, h5, h6, va, vb, vc, ⟨a1, a2, a3, a4⟩, ⟨b1, b2, b3, b4⟩, ⟨c1, c2, c3, c4⟩, hne, hs⟩ := xWs_I h e
  exact ⟨h1, h2, h3, h4, h5, h6, va, vb, vc, ⟨a1, a2, a3, by rw [eR o h1]; exact a4⟩, ⟨b1, b2, b3, by rw [eR o h1]; exact b4⟩, ⟨c1, c2, c3, by rw [eR o h1]; exact c4⟩, hne, hs⟩
theorem xH_a {w : Wk} {K N : Nat → Nat} {R R' : Nat → Nat → Option Nat} {I I' : Nat → Nat → Int32} (h : xH 300 w K N R I) (hR : aR R R') (hI : aE I I') : xH 300 w K N R' I' := by
  rcases h with h | ⟨o, cap, h1, h2⟩
  · exact Or.inl (by rw [hR _ (by decide) (by decide)]; exact h)
  · exact Or.inr ⟨o, cap, by rw [hR _ (by decide) (by decide)]; exact h1, xWs_a h2 (fun q hq => hR q (by omega) (by omega)) (fun q hq => hI q (by omega) (by omega) (by omega))⟩
theorem xHs_a {K : Nat → Nat} {R R' : Nat → Nat → Option Nat} (h : xHs 300 K R) (hR : aR R R') : xHs 300 K R' := by
  intro p hp q hq
  rw [hR _ (by decide) (by decide)] at hq
  exact h p hp q hq
theorem xN_a {g : Gv} {w : Wk} {K N : Nat → Nat} {R R' : Nat → Nat → Option Nat} {I I' : Nat → Nat → Int32} (h : xN g w K N R I) (hR : aR R R') (hI : aE I I') : xN g w K N R' I' := ⟨xG_a h.1 hR hI, xH_a h.2.1 hR hI, xHs_a h.2.2 hR⟩
theorem xSn_a {s : Rw} {I I' : Nat → Nat → Int32} (h : xSn 310 s I) (hI : aE I I') : xSn 310 s I' := by
  unfold xSn
  rw [hI 310 (by decide) (by decide) (by decide), hI (310 + 1) (by decide) (by decide) (by decide), hI (310 + 2) (by decide) (by decide) (by decide), hI (310 + 3) (by decide) (by decide) (by decide)]
  exact h
theorem xPl_a {s : Rw} {I I' : Nat → Nat → Int32} (h : xPl 314 s I) (hI : aE I I') : xPl 314 s I' := by
  unfold xPl
  rw [hI 314 (by decide) (by decide) (by decide), hI (314 + 1) (by decide) (by decide) (by decide), hI (314 + 2) (by decide) (by decide) (by decide)]
  exact h
theorem xG_fl {g : Gv} (hg : gwf g) {K : Nat → Nat} {R : Nat → Nat → Option Nat} {I : Nat → Nat → Int32} (hG : xG 300 g K R I) : xG 340 g K (flR 340 300 R) (flI 340 300 I) := by
  have h6 := hg.1
  obtain ⟨g1, g2, g3, g4⟩ := hG
  refine ⟨by simp [flI]; exact g1, by simp [flI]; exact g2, by simp [flI]; exact g3, fun p hp => ?_⟩
  obtain ⟨⟨h, k1, k2⟩, k3, k4, k5⟩ := g4 p hp
  have p6 : p < 6 := by omega
  refine ⟨⟨h, ?_, xHd_I k2 (fun q hq => ?_)⟩, ?_, ?_, fun j hj => ?_⟩
  · unfold flR
    rw [up2_ne _ _ _ (by decide)]
    show (if _ then _ else _) = _
    rw [if_pos ⟨rfl, p6⟩]; exact k1
  · exact aE_fl I q (by omega) (by omega) (by omega)
  · simp [flI, p6]; exact k3
  · simp [flI, p6]; exact k4
  · have : 4 * p + j < 24 := by omega
    simp [flI, this]; exact k5 j hj
theorem xH_fl {w : Wk} {K N : Nat → Nat} {R : Nat → Nat → Option Nat} {I : Nat → Nat → Int32} (h : xH 300 w K N R I) : xH 340 w K N (flR 340 300 R) (flI 340 300 I) := by
  have e7 : flR 340 300 R 340 7 = R 300 7 := up2_self _ _ _ _
  rcases h with h | ⟨o, cap, h1, h2⟩
  · exact Or.inl ⟨by rw [e7]; exact h.1, h.2⟩
  · exact Or.inr ⟨o, cap, by rw [e7]; exact h1, xWs_a h2 (fun q hq => aR_fl R q (by omega) (by omega)) (fun q hq => aE_fl I q (by omega) (by omega) (by omega))⟩
theorem c_T_follow (E : zE) (K N : Nat → Nat) (Rf : Nat → Nat → Option Nat) (I : Nat → Nat → Int32) (L : Nat → Nat → Int64) {g : Gv} (hg : gwf g) {w : Wk} (hN : xN g w K N Rf I) : zCt E mX1_follow 1 0 0 (sg K N Rf I L) [.ref 340, .ref 300] (fun r σ' => ∃ Rf' I', σ' = sg K N Rf' I' L ∧ r = none ∧ xG 340 g K Rf' I' ∧ xH 340 w K N Rf' I' ∧ aR Rf Rf' ∧ aE I I') := by
  refine zCt.mono (c_F3430 E K N Rf I L hN.2.2) ?_
  rintro r σ' ⟨rfl, rfl⟩
  exact ⟨_, _, rfl, rfl, xG_fl hg hN.1, xH_fl hN.2.1, aR_fl Rf, aE_fl I⟩
theorem xG_sw' {b : Nat} (hb : b ≤ 900) {g : Gv} {K : Nat → Nat} {R : Nat → Nat → Option Nat} {I : Nat → Nat → Int32} (hG : xG b g K R I) {i j : Nat} (h : (i < gn g ∧ j < gn g) ∨ gn g = 0) : xG b (swG g i j) K R (up2 (up2 I (b + 3) i (I (b + 3) j)) (b + 3) j (I (b + 3) i)) := by
  rcases h with ⟨hi, hj⟩ | h0
  · exact xG_sw hb hG hi hj
  · have e0 : up2 (up2 I (b + 3) i (I (b + 3) j)) (b + 3) j (I (b + 3) i) b = I b := by rw [up2_ne _ _ _ (by omega), up2_ne _ _ _ (by omega)]
    refine ⟨by rw [e0]; exact hG.1, by rw [e0]; exact hG.2.1, by rw [e0]; exact hG.2.2.1, fun p hp => ?_⟩
    have hp' : p < gn g := hp
    omega
theorem gwf_sw' {g : Gv} (hg : gwf g) {i j : Nat} (h : (i < gn g ∧ j < gn g) ∨ gn g = 0) : gwf (swG g i j) := by
  rcases h with ⟨hi, hj⟩ | h0
  · exact gwf_sw hg hi hj
  · refine ⟨hg.1, fun p hp => ?_, fun p q hp => ?_⟩
    · have hp' : p < gn g := hp; omega
    · have hp' : p < gn g := hp; omega
theorem c_X_mostHoles (E : zE) (K N : Nat → Nat) (Rf : Nat → Nat → Option Nat) (I : Nat → Nat → Int32) (L : Nat → Nat → Int64) {g : Gv} (hg : gwf g) {w : Wk} (hw0 : wok w) (hd : gd g ≤ 90000) (hN : xN g w K N Rf I) {i j : Nat} (hij : (i < gn g ∧ j < gn g) ∨ gn g = 0) (hi6 : i < 6) (hj6 : j < 6) : zCt E mX11_mostHolesAfterSwap 6 0 0 (sg K N Rf I L) [.ref 200, .int (nI i), .int (nI j)] (fun r σ' => ∃ Rf' I', σ' = sg K N Rf' I' L ∧ r = some (.int (nI (mhS g (rdS w) i j))) ∧ aR Rf Rf' ∧ aE I I') := by
  refine z_intro (by decide) (Nat.le_of_ble_eq_true rfl) (fun X hX => ?_)
  refine bk hX lkX11_ok (pc' := 8) [.aload_n 0, .getfield 18, .aload_n 0, .getfield 12] (by decide +kernel) (And.intro trivial ?_)
  refine z_callV hX kw_X11_184 (c_T_follow E K N _ _ L hg hN) rfl rfl rfl rfl rfl (by decide +kernel) (by decide) (by decide) (by decide) (by decide) (Nat.le_of_ble_eq_true rfl) ?_
  rintro _ _ ⟨R1, I1, rfl, rfl, x1, x2, x3, x4⟩
  refine bk hX lkX11_ok (pc' := 17) [.aload_n 0, .getfield 18, .iload_n 1, .iload_n 2] (by decide +kernel) (And.intro trivial ?_)
  refine z_callV hX kw_X11_123 (c_G4_exchange E K N R1 I1 L i j hi6 hj6) rfl rfl rfl rfl rfl (by decide +kernel) (by decide) (by decide) (by decide) (by decide) (Nat.le_of_ble_eq_true rfl) ?_
  rintro _ _ ⟨rfl, rfl⟩
  have y1 := xG_sw' (b := 340) (by decide) x1 hij
  have y2 := gfr_sw (b := 340) (n := gn g) (I := I1) i j (I1 (340 + 3) j) (I1 (340 + 3) i)
  have y3 := gwf_sw' hg hij
  refine bk hX lkX11_ok (pc' := 26) [.aload_n 0, .getfield 18, .bipush 20] (by decide +kernel) (And.intro trivial ?_)
  refine z_callV hX kw_X11_180 (c_G4_goDays E K N R1 _ L y3 y1 hw0 (xH_I x2 (gfr_hi (by decide) y2)) (k := 20) (show gd g + 20 ≤ 100000 by omega) (by decide)) rfl rfl rfl rfl rfl (by decide +kernel) (by decide) (by decide) (by decide) (by decide) (Nat.le_of_ble_eq_true rfl) ?_
  rintro _ _ ⟨I2, rfl, rfl, z1, z2⟩
  refine bk hX lkX11_ok (pc' := 33) [.aload_n 0, .getfield 18] (by decide +kernel) (And.intro trivial ?_)
  refine z_callV hX kw_X11_310 (c_G4_mostHoles E K N R1 I2 L (gwf_days y3 _ 20) z1) rfl rfl rfl rfl rfl (by decide +kernel) (by decide) (by decide) (by decide) (by decide) (Nat.le_of_ble_eq_true rfl) ?_
  rintro _ _ ⟨rfl, rfl⟩
  exact z_iret hX (by decide +kernel) rfl (rfl) (by decide) (by decide) (⟨R1, I2, rfl, by rw [gn_days]; rfl, x3, aE_tr (aE_tr x4 (aE_g y2)) (aE_g z2)⟩)
set_option maxHeartbeats 1000000 in
theorem c_X_sparingSwap (E : zE) (K N : Nat → Nat) (Rf : Nat → Nat → Option Nat) (I : Nat → Nat → Int32) (L : Nat → Nat → Int64) {g : Gv} (hg : gwf g) {w : Wk} (hw0 : wok w) (hd : gd g ≤ 90000) (hN : xN g w K N Rf I) : zCt E mX11_sparingSwap 7 0 0 (sg K N Rf I L) [.ref 200] (fun r σ' => ∃ Rf' I', σ' = sg K N Rf' I' L ∧ r = some (.int (trS g (rdS w))) ∧ aR Rf Rf' ∧ aE I I') := by
  have h6 := hg.1
  refine z_intro (by decide) (Nat.le_of_ble_eq_true rfl) (fun X hX => ?_)
  have hlb : ∀ i, i < gn g → (∀ (R1 : Nat → Nat → Option Nat) (I1 : Nat → Nat → Int32) (s : Int32 × Nat), aR Rf R1 → aE I I1 → s.2 ≤ 10 → s = trB g (rdS w) i (gn g - i - 1) (i + 1) s → True) → ∀ m j (R1 : Nat → Nat → Option Nat) (I1 : Nat → Nat → Int32) (s : Int32 × Nat), j + m = gn g → i < j → s.2 ≤ 10 → aR Rf R1 → aE I I1 → (∀ (R2 : Nat → Nat → Option Nat) (I2 : Nat → Nat → Int32), aR Rf R2 → aE I I2 → zS X (sg K N R2 I2 L) 0 0 72 [(0, .ref 200), (1, .int (nI (trB g (rdS w) i m j s).2)), (2, .int (trB g (rdS w) i m j s).1), (3, .int (nI i))] []) → zS X (sg K N R1 I1 L) 0 0 28 [(0, .ref 200), (1, .int (nI s.2)), (2, .int s.1), (3, .int (nI i)), (4, .int (nI j))] [] := by
    intro i hi _ m
    induction m with
    | zero =>
      intro j R1 I1 s hj hij hs q1 q2 kk
      have hN1 := xN_a hN q1 q2
      obtain rfl : j = gn g := by omega
      refine bk hX lkX11_ok (pc' := 37) [.iload 4, .aload_n 0, .getfield 12, .getfield 65] (by decide +kernel) (And.intro trivial ?_)
      rw [hN1.1.1]
      refine ic_ge hX (35) 72 (by decide +kernel) (by decide) (fun c_37 => ?_) (fun c => absurd (nI_le (Nat.le_refl _) (by omega)) c)
      refine z_lvk (lv' := [(0, _), (1, _), (2, _), (3, _)]) [0, 1, 2, 3] rfl ?_
      exact kk R1 I1 q1 q2
    | succ m ih =>
      intro j R1 I1 s hj hij hs q1 q2 kk
      have hN1 := xN_a hN q1 q2
      have hml := mhS_le g (rdS w) i j
      refine bk hX lkX11_ok (pc' := 37) [.iload 4, .aload_n 0, .getfield 12, .getfield 65] (by decide +kernel) (And.intro trivial ?_)
      rw [hN1.1.1]
      refine ic_ge hX (35) 72 (by decide +kernel) (by decide) (fun c => absurd c (nI_ge (by omega) (by omega))) (fun c_37 => ?_)
      refine bk hX lkX11_ok (pc' := 44) [.aload_n 0, .iload_n 3, .iload 4] (by decide +kernel) (And.intro trivial ?_)
      refine z_callV hX kw_X11_307 (c_X_mostHoles E K N R1 I1 L hg hw0 hd hN1 (i := i) (j := j) (Or.inl ⟨hi, by omega⟩) (by omega) (by omega)) rfl rfl rfl rfl rfl (by decide +kernel) (by decide) (by decide) (by decide) (by decide) (Nat.le_of_ble_eq_true rfl) ?_
      rintro _ _ ⟨R2, I2, rfl, rfl, z1, z2⟩
      refine bk hX lkX11_ok (pc' := 52) [.istore 5, .iload 5, .iload_n 1] (by decide +kernel) (And.intro trivial ?_)
      refine ic_ge hX (14) 66 (by decide +kernel) (by decide) (fun c52 => ?_) (fun c52 => ?_)
      · refine bk hX lkX11_ok (pc' := 69) [.iinc 4 1] (by decide +kernel) (And.intro trivial ?_)
        refine gt_ hX (-41) 28 (by decide +kernel) (by decide) ?_
        refine z_lvk (lv' := [(0, _), (1, _), (2, _), (3, _), (4, _)]) [2, 3, 4, 5, 0] rfl ?_
        rw [trB_s] at kk
        first
          | (have hge : ¬ mhS g (rdS w) i j < s.2 := Nat.not_lt.mpr ((nI_leI (by omega) (by omega)).mp c52)
             rw [if_neg hge] at kk
             rw [nI_add]
             exact ih (j + 1) R2 I2 s (by omega) (by omega) hs (aR_tr q1 z1) (aE_tr q2 z2) kk)
          | (have hlt : mhS g (rdS w) i j < s.2 := Nat.lt_of_not_le (fun z => c52 (nI_le z (by omega)))
             rw [if_pos hlt] at kk
             rw [pk_mul, nI_add, nI_add]
             exact ih (j + 1) R2 I2 (nI (10 * i + j), mhS g (rdS w) i j) (by omega) (by omega) hml (aR_tr q1 z1) (aE_tr q2 z2) kk)
      · refine bk hX lkX11_ok (pc' := 69) [.iload 5, .istore_n 1, .bipush 10, .iload_n 3, .imul, .iload 4, .iadd, .istore_n 2, .iinc 4 1] (by decide +kernel) (And.intro trivial ?_)
        refine gt_ hX (-41) 28 (by decide +kernel) (by decide) ?_
        refine z_lvk (lv' := [(0, _), (1, _), (2, _), (3, _), (4, _)]) [4, 2, 1, 5, 0] rfl ?_
        rw [trB_s] at kk
        first
          | (have hge : ¬ mhS g (rdS w) i j < s.2 := Nat.not_lt.mpr ((nI_leI (by omega) (by omega)).mp c52)
             rw [if_neg hge] at kk
             rw [nI_add]
             exact ih (j + 1) R2 I2 s (by omega) (by omega) hs (aR_tr q1 z1) (aE_tr q2 z2) kk)
          | (have hlt : mhS g (rdS w) i j < s.2 := Nat.lt_of_not_le (fun z => c52 (nI_le z (by omega)))
             rw [if_pos hlt] at kk
             rw [pk_mul, nI_add, nI_add]
             exact ih (j + 1) R2 I2 (nI (10 * i + j), mhS g (rdS w) i j) (by omega) (by omega) hml (aR_tr q1 z1) (aE_tr q2 z2) kk)
  have hla : ∀ m i (R1 : Nat → Nat → Option Nat) (I1 : Nat → Nat → Int32) (s : Int32 × Nat), i + m = gn g → s.2 ≤ 10 → aR Rf R1 → aE I I1 → (trA g (rdS w) m i s).1 = trS g (rdS w) → zS X (sg K N R1 I1 L) 0 0 12 [(0, .ref 200), (1, .int (nI s.2)), (2, .int s.1), (3, .int (nI i))] [] := by
    intro m
    induction m with
    | zero =>
      intro i R1 I1 s hi hs q1 q2 hf
      have hN1 := xN_a hN q1 q2
      obtain rfl : i = gn g := by omega
      have hf : s.1 = trS g (rdS w) := hf
      refine bk hX lkX11_ok (pc' := 20) [.iload_n 3, .aload_n 0, .getfield 12, .getfield 65] (by decide +kernel) (And.intro trivial ?_)
      rw [hN1.1.1]
      refine ic_ge hX (58) 78 (by decide +kernel) (by decide) (fun c_20 => ?_) (fun c => absurd (nI_le (Nat.le_refl _) (by omega)) c)
      refine bk hX lkX11_ok (pc' := 79) [.iload_n 2] (by decide +kernel) (And.intro trivial ?_)
      exact z_iret hX (by decide +kernel) rfl (rfl) (by decide) (by decide) (⟨R1, I1, rfl, by rw [hf], q1, q2⟩)
    | succ m ih =>
      intro i R1 I1 s hi hs q1 q2 hf
      have hN1 := xN_a hN q1 q2
      have hf : (trA g (rdS w) m (i + 1) (trB g (rdS w) i m (i + 1) s)).1 = trS g (rdS w) := hf
      refine bk hX lkX11_ok (pc' := 20) [.iload_n 3, .aload_n 0, .getfield 12, .getfield 65] (by decide +kernel) (And.intro trivial ?_)
      rw [hN1.1.1]
      refine ic_ge hX (58) 78 (by decide +kernel) (by decide) (fun c => absurd c (nI_ge (by omega) (by omega))) (fun c_20 => ?_)
      refine bk hX lkX11_ok (pc' := 28) [.iload_n 3, .iconst 1, .iadd, .istore 4] (by decide +kernel) (And.intro trivial ?_)
      refine z_lvk (lv' := [(0, _), (1, _), (2, _), (3, _), (4, _)]) [1, 2, 3, 4, 0] rfl ?_
      rw [nI_add]
      refine hlb i (by omega) (fun _ _ _ _ _ _ _ => trivial) m (i + 1) R1 I1 s (by omega) (by omega) hs q1 q2 (fun R2 I2 y1 y2 => ?_)
      refine bk hX lkX11_ok (pc' := 75) [.iinc 3 1] (by decide +kernel) (And.intro trivial ?_)
      refine gt_ hX (-63) 12 (by decide +kernel) (by decide) ?_
      refine z_lvk (lv' := [(0, _), (1, _), (2, _), (3, _)]) [1, 2, 3, 0] rfl ?_
      rw [nI_add]
      exact ih (i + 1) R2 I2 _ (by omega) (trB_le g (rdS w) i m (i + 1) s hs) y1 y2 hf
  refine bk hX lkX11_ok (pc' := 3) [.aload_n 0, .iconst 0, .iconst 0] (by decide +kernel) (And.intro trivial ?_)
  refine z_callV hX kw_X11_307 (c_X_mostHoles E K N Rf I L hg hw0 hd hN (i := 0) (j := 0) (by rcases Nat.eq_zero_or_pos (gn g) with h | h; exact Or.inr h; exact Or.inl ⟨h, h⟩) (by decide) (by decide)) rfl rfl rfl rfl rfl (by decide +kernel) (by decide) (by decide) (by decide) (by decide) (Nat.le_of_ble_eq_true rfl) ?_
  rintro _ _ ⟨R2, I2, rfl, rfl, z1, z2⟩
  refine bk hX lkX11_ok (pc' := 12) [.istore_n 1, .bipush (Int.negSucc 4), .istore_n 2, .iconst 0, .istore_n 3] (by decide +kernel) (And.intro trivial ?_)
  refine z_lvk (lv' := [(0, _), (1, _), (2, _), (3, _)]) [3, 2, 1, 0] rfl ?_
  refine hla (gn g) 0 R2 I2 (-nI 5, mhS g (rdS w) 0 0) (by omega) (mhS_le _ _ _ _) z1 z2 ?_
  unfold trS
  split
  · rename_i h0
    rw [h0]; rfl
  · rfl
theorem c_X_firstSwap (E : zE) (K N : Nat → Nat) (Rf : Nat → Nat → Option Nat) (I : Nat → Nat → Int32) (L : Nat → Nat → Int64) {g : Gv} (hg : gwf g) {w : Wk} (hw0 : wok w) (hd : gd g ≤ 90000) (hN : xN g w K N Rf I) : zCt E mX11_firstSwap 1 0 0 (sg K N Rf I L) [.ref 200] (fun r σ' => σ' = (sg K N Rf I L) ∧ r = some (.int (fsL (gc g) (gn g) 0))) := by
  have h6 := hg.1
  have hG := hN.1
  refine z_intro (by decide) (Nat.le_of_ble_eq_true rfl) (fun X hX => ?_)
  have hl : ∀ m p, p + m = gn g → fsL (gc g) m p = fsL (gc g) (gn g) 0 → zS X (sg K N Rf I L) 0 0 2 [(0, .ref 200), (1, .int (nI p))] [] := by
    intro m
    induction m with
    | zero =>
      intro p hp hf
      obtain rfl : p = gn g := by omega
      refine bk hX lkX11_ok (pc' := 10) [.iload_n 1, .aload_n 0, .getfield 12, .getfield 65] (by decide +kernel) (And.intro trivial ?_)
      rw [hG.1]
      refine ic_ge hX (36) 46 (by decide +kernel) (by decide) (fun c_10 => ?_) (fun c => absurd (nI_le (Nat.le_refl _) (by omega)) c)
      refine bk hX lkX11_ok (pc' := 48) [.bipush (Int.negSucc 4)] (by decide +kernel) (And.intro trivial ?_)
      exact z_iret hX (by decide +kernel) rfl (rfl) (by decide) (by decide) (by rw [← hf]; exact ⟨rfl, rfl⟩)
    | succ m ih =>
      intro p hp hf
      have hpn : p < gn g := by omega
      have hf' : (if gc g p = p then fsL (gc g) m (p + 1) else nI (10 * p + wh (gc g) p)) = fsL (gc g) (gn g) 0 := hf
      have ec : I 303 p = nI (gc g p) := (hG.2.2.2 p hpn).2.1
      have hcn := (hg.2.1 p hpn).2.2.1
      refine bk hX lkX11_ok (pc' := 10) [.iload_n 1, .aload_n 0, .getfield 12, .getfield 65] (by decide +kernel) (And.intro trivial ?_)
      rw [hG.1]
      refine ic_ge hX (36) 46 (by decide +kernel) (by decide) (fun c => absurd c (nI_ge (by omega) (by omega))) (fun c_10 => ?_)
      refine bk hX lkX11_ok (pc' := 23) [.aload_n 0, .getfield 12, .getfield 84, .iload_n 1, .iaload, .iload_n 1] (by decide +kernel) (And.intro (by exact vin 6 (by omega)) (And.intro trivial ?_))
      simp only [cl (show p < 2 ^ 31 by omega), ec]
      refine ic_eq hX (17) 40 (by decide +kernel) (by decide) (fun c23 => ?_) (fun c23 => ?_)
      · refine bk hX lkX11_ok (pc' := 43) [.iinc 1 1] (by decide +kernel) (And.intro trivial ?_)
        refine gt_ hX (-41) 2 (by decide +kernel) (by decide) ?_
        refine z_lvk (lv' := [(0, _), (1, _)]) [1, 0] rfl ?_
        rw [if_pos (nI_inj (by omega) (by omega) c23)] at hf'
        rw [nI_add]
        exact ih (p + 1) (by omega) hf'
      · refine bk hX lkX11_ok (pc' := 35) [.bipush 10, .iload_n 1, .imul, .aload_n 0, .getfield 12, .iload_n 1] (by decide +kernel) (And.intro trivial ?_)
        refine z_callV hX kw_X11_212 (c_G3_holder E K N Rf I L hg hG hpn) rfl rfl rfl rfl rfl (by decide +kernel) (by decide) (by decide) (by decide) (by decide) (Nat.le_of_ble_eq_true rfl) ?_
        rintro _ _ ⟨rfl, rfl⟩
        refine bk hX lkX11_ok (pc' := 39) [.iadd] (by decide +kernel) (And.intro trivial ?_)
        exact z_iret hX (by decide +kernel) rfl (rfl) (by decide) (by decide) (by rw [← hf', if_neg (fun z => c23 (by rw [z])), pk_mul, nI_add]; exact ⟨rfl, rfl⟩)
  refine bk hX lkX11_ok (pc' := 2) [.iconst 0, .istore_n 1] (by decide +kernel) (And.intro trivial ?_)
  refine z_lvk (lv' := [(0, _), (1, _)]) [1, 0] rfl ?_
  exact hl (gn g) 0 (by omega) rfl
