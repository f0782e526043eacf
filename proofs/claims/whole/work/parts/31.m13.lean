/-- only the gate's cells -/
def frG (I I' : Nat → Nat → Int32) : Prop := (∀ q, q ∉ [104, 105, 106, 107, 108, 127] → q ≠ 100 → I' q = I q) ∧ (∀ k, k ∉ [0, 1, 2] → I' 100 k = I 100 k)
theorem frG_rf (I : Nat → Nat → Int32) : frG I I := ⟨fun _ _ _ => rfl, fun _ _ => rfl⟩
theorem frG_D {n : Nat} {I I1 : Nat → Nat → Int32} (h : frD n I I1) : frG I I1 := ⟨fun q a b => h.1 q (fun z => a (by rw [z]; decide)) (fun z => a (by rw [z]; decide)) (fun z => a (by rw [z]; decide)) b, fun k a => h.2.1 k (fun z => a (by rw [z]; decide))⟩
theorem frG_at {I : Nat → Nat → Int32} {p k : Nat} {v : Int32} (h : p ∈ [104, 105, 106, 107, 108, 127]) : frG I (up2 I p k v) := ⟨fun q a b => up2_ne _ _ _ (fun z => a (by rw [z]; exact h)), fun j a => by rw [up2_ne _ _ _ (fun z => by rw [← z] at h; exact absurd h (by decide))]⟩
theorem frG_f {I : Nat → Nat → Int32} {k : Nat} {v : Int32} (h : k ∈ [0, 1, 2]) : frG I (up2 I 100 k v) := ⟨fun q a b => up2_ne _ _ _ b, fun j a => by rw [up2_at, if_neg (fun z => a (by rw [z]; exact h))]⟩
theorem frG_tr {I I1 I2 : Nat → Nat → Int32} (h1 : frG I I1) (h2 : frG I1 I2) : frG I I2 := ⟨fun q a b => (h2.1 q a b).trans (h1.1 q a b), fun k a => (h2.2 k a).trans (h1.2 k a)⟩
theorem hol_in {x : Int32} : (∃ j, j ≤ 1023 ∧ x = nI j) ↔ isIn x 1024 = true := by
  rw [isIn_iff (by decide)]
  exact ⟨fun ⟨j, h, e⟩ => ⟨j, by omega, e⟩, fun ⟨j, h, e⟩ => ⟨j, by omega, e⟩⟩
def setS (g : Gv) (c h : Int32) : Int32 × Gv := if isIn c (gn g) = true then (if isIn h 1024 = true then (nI (gh g (jx c)), (gn g, gk g, gv g, gc g, upN (gh g) (jx c) (jx h), gr g, ga g, gd g)) else (-nI 2, g)) else (-nI 1, g)
theorem c_M_set (E : zE) (K N : Nat → Nat) (Rf : Nat → Nat → Option Nat) (I : Nat → Nat → Int32) (L : Nat → Nat → Int64) {g : Gv} (hg : gwf g) (hG : mG g I) (c h : Int32) : zCt E mX12_set 2 0 0 (sg K N Rf I L) [.ref 100, .int c, .int h] (fun r σ' => ∃ I', σ' = sg K N Rf I' L ∧ r = some (.int (setS g c h).1) ∧ mG (setS g c h).2 I' ∧ frG I I') := by
  have h6 := hg.1
  refine z_intro (by decide) (Nat.le_of_ble_eq_true rfl) (fun X hX => ?_)
  refine bk hX lkX12_ok (pc' := 2) [.aload_n 0, .iload_n 1] (by decide +kernel) (And.intro trivial ?_)
  refine z_callV hX kw_X12_232 (c_M_isWorker E K N Rf I L _ hg.1 hG.1) rfl rfl rfl rfl rfl (by decide +kernel) (by decide) (by decide) (by decide) (by decide) (Nat.le_of_ble_eq_true rfl) ?_
  rintro _ _ ⟨rfl, hh⟩
  rw [← isIn_iff (by omega)] at hh
  rcases hh with ⟨hc, rfl⟩ | ⟨hc, rfl⟩
  · refine if_ne hX (5) 10 (by decide +kernel) (by decide) (fun c_5 => ?_) (fun c => absurd c (by decide))
    refine bk hX lkX12_ok (pc' := 12) [.aload_n 0, .iload_n 2] (by decide +kernel) (And.intro trivial ?_)
    refine z_callV hX kw_X12_236 (c_M_isHoles E _ rfl _) rfl rfl rfl rfl rfl (by decide +kernel) (by decide) (by decide) (by decide) (by decide) (Nat.le_of_ble_eq_true rfl) ?_
    rintro _ _ ⟨rfl, hh⟩
    rw [hol_in] at hh
    rcases hh with ⟨hh1, rfl⟩ | ⟨hh1, rfl⟩
    · refine if_ne hX (6) 21 (by decide +kernel) (by decide) (fun c_15 => ?_) (fun c => absurd c (by decide))
      obtain ⟨c, hcn, rfl⟩ := (isIn_iff (by omega)).mp hc
      obtain ⟨x, hx, rfl⟩ := (isIn_iff (by decide)).mp hh1
      have cc : (nI c).toNatClampNeg = c := cl (by omega)
      refine bk hX lkX12_ok (pc' := 36) [.aload_n 0, .getfield 29, .iload_n 1, .iaload, .istore_n 3, .aload_n 0, .getfield 29, .iload_n 1, .iload_n 2, .iastore, .iload_n 3] (by decide +kernel) (And.intro (by exact vin 6 (by omega)) (And.intro (by exact vin 6 (by omega)) (And.intro trivial ?_)))
      exact z_iret hX (by decide +kernel) rfl (rfl) (by decide) (by decide) (by
  refine ⟨_, rfl, ?_, ?_, frG_at (by decide)⟩
  · unfold setS; rw [if_pos hc, if_pos hh1, jx_nI (by omega), cc, show I (101 + 6) c = _ from mG_gh hG hcn]
  · unfold setS; rw [if_pos hc, if_pos hh1, jx_nI (by omega), jx_nI (by omega)]
    refine mG_ho hG (fun q hq => up2_ne _ _ _ hq) (fun k hk => ?_)
    show up2 I 107 (nI c).toNatClampNeg (nI x) 107 k = _
    rw [up2_at, cc]
    unfold upN
    split
    · rfl
    · exact mG_gh hG hk)
    · refine if_ne hX (6) 21 (by decide +kernel) (by decide) (fun c => absurd (by decide) c) (fun c_15 => ?_)
      refine bk hX lkX12_ok (pc' := 20) [.bipush (Int.negSucc 1)] (by decide +kernel) (And.intro trivial ?_)
      exact z_iret hX (by decide +kernel) rfl (rfl) (by decide) (by decide) (⟨I, rfl, by unfold setS; rw [if_pos hc, if_neg hh1], by unfold setS; rw [if_pos hc, if_neg hh1]; exact hG, frG_rf _⟩)
  · refine if_ne hX (5) 10 (by decide +kernel) (by decide) (fun c => absurd (by decide) c) (fun c_5 => ?_)
    refine bk hX lkX12_ok (pc' := 9) [.iconst (Int.negSucc 0)] (by decide +kernel) (And.intro trivial ?_)
    exact z_iret hX (by decide +kernel) rfl (rfl) (by decide) (by decide) (⟨I, rfl, by unfold setS; rw [if_neg hc], by unfold setS; rw [if_neg hc]; exact hG, frG_rf _⟩)
def swpS (g : Gv) (x y : Int32) : Int32 × Gv := if isIn x (gn g) = true ∧ isIn y (gn g) = true then (if x = y then (-nI 2, g) else (nI (gc g (jx y)), swG g (jx x) (jx y))) else (-nI 1, g)
theorem c_M_swap (E : zE) (K N : Nat → Nat) (Rf : Nat → Nat → Option Nat) (I : Nat → Nat → Int32) (L : Nat → Nat → Int64) {g : Gv} (hg : gwf g) (hG : mG g I) (x y : Int32) : zCt E mX12_swap 2 0 0 (sg K N Rf I L) [.ref 100, .int x, .int y] (fun r σ' => ∃ I', σ' = sg K N Rf I' L ∧ r = some (.int (swpS g x y).1) ∧ mG (swpS g x y).2 I' ∧ frG I I') := by
  have h6 := hg.1
  refine z_intro (by decide) (Nat.le_of_ble_eq_true rfl) (fun X hX => ?_)
  refine bk hX lkX12_ok (pc' := 2) [.aload_n 0, .iload_n 1] (by decide +kernel) (And.intro trivial ?_)
  refine z_callV hX kw_X12_232 (c_M_isWorker E K N Rf I L _ hg.1 hG.1) rfl rfl rfl rfl rfl (by decide +kernel) (by decide) (by decide) (by decide) (by decide) (Nat.le_of_ble_eq_true rfl) ?_
  rintro _ _ ⟨rfl, hh⟩
  rw [← isIn_iff (by omega)] at hh
  rcases hh with ⟨hx, rfl⟩ | ⟨hx, rfl⟩
  · refine if_eq hX (11) 16 (by decide +kernel) (by decide) (fun c => absurd c (by decide)) (fun c_5 => ?_)
    refine bk hX lkX12_ok (pc' := 10) [.aload_n 0, .iload_n 2] (by decide +kernel) (And.intro trivial ?_)
    refine z_callV hX kw_X12_232 (c_M_isWorker E K N Rf I L _ hg.1 hG.1) rfl rfl rfl rfl rfl (by decide +kernel) (by decide) (by decide) (by decide) (by decide) (Nat.le_of_ble_eq_true rfl) ?_
    rintro _ _ ⟨rfl, hh⟩
    rw [← isIn_iff (by omega)] at hh
    rcases hh with ⟨hy, rfl⟩ | ⟨hy, rfl⟩
    · refine if_ne hX (5) 18 (by decide +kernel) (by decide) (fun c_13 => ?_) (fun c => absurd c (by decide))
      refine bk hX lkX12_ok (pc' := 20) [.iload_n 1, .iload_n 2] (by decide +kernel) (And.intro trivial ?_)
      refine ic_ne hX (6) 26 (by decide +kernel) (by decide) (fun ce => ?_) (fun ce => ?_)
      · obtain ⟨i, hi, rfl⟩ := (isIn_iff (by omega)).mp hx
        obtain ⟨j, hj, rfl⟩ := (isIn_iff (by omega)).mp hy
        have hij : i ≠ j := fun z => ce (by rw [z])
        refine bk hX lkX12_ok (pc' := 29) [.aload_n 0, .iload_n 1, .iload_n 2] (by decide +kernel) (And.intro trivial ?_)
        refine z_callV hX kw_X12_239 (c_M_swaps E K N Rf I L i j (by omega) (by omega)) rfl rfl rfl rfl rfl (by decide +kernel) (by decide) (by decide) (by decide) (by decide) (Nat.le_of_ble_eq_true rfl) ?_
        rintro _ _ ⟨rfl, rfl⟩
        refine bk hX lkX12_ok (pc' := 38) [.aload_n 0, .getfield 26, .iload_n 1, .iaload] (by decide +kernel) (And.intro (by exact vin 6 (by omega)) (And.intro trivial ?_))
        exact z_iret hX (by decide +kernel) rfl (rfl) (by decide) (by decide) (by
  refine ⟨_, rfl, ?_, ?_, frG_tr (frG_at (p := 106) (by decide)) (frG_at (p := 106) (by decide))⟩
  · unfold swpS; rw [if_pos ⟨hx, hy⟩, if_neg ce, jx_nI (by omega), cl (by omega)]
    show some (Value.int (up2 (up2 I 106 i (I 106 j)) 106 j (I 106 i) 106 i)) = _
    rw [up2_at, if_neg hij, up2_at, if_pos rfl, mG_gc hG hj]
  · unfold swpS; rw [if_pos ⟨hx, hy⟩, if_neg ce, jx_nI (by omega), jx_nI (by omega)]
    exact mG_sw hg hG hi hj)
      · refine bk hX lkX12_ok (pc' := 25) [.bipush (Int.negSucc 1)] (by decide +kernel) (And.intro trivial ?_)
        exact z_iret hX (by decide +kernel) rfl (rfl) (by decide) (by decide) (⟨I, rfl, by unfold swpS; rw [if_pos ⟨hx, hy⟩, if_pos ce], by unfold swpS; rw [if_pos ⟨hx, hy⟩, if_pos ce]; exact hG, frG_rf _⟩)
    · refine if_ne hX (5) 18 (by decide +kernel) (by decide) (fun c => absurd (by decide) c) (fun c_13 => ?_)
      refine bk hX lkX12_ok (pc' := 17) [.iconst (Int.negSucc 0)] (by decide +kernel) (And.intro trivial ?_)
      exact z_iret hX (by decide +kernel) rfl (rfl) (by decide) (by decide) (by first | exact ⟨I, rfl, by unfold swpS; rw [if_neg (fun z => hx z.1)], by unfold swpS; rw [if_neg (fun z => hx z.1)]; exact hG, frG_rf _⟩ | exact ⟨I, rfl, by unfold swpS; rw [if_neg (fun z => hy z.2)], by unfold swpS; rw [if_neg (fun z => hy z.2)]; exact hG, frG_rf _⟩)
  · refine if_eq hX (11) 16 (by decide +kernel) (by decide) (fun c_5 => ?_) (fun c => absurd (by decide) c)
    refine bk hX lkX12_ok (pc' := 17) [.iconst (Int.negSucc 0)] (by decide +kernel) (And.intro trivial ?_)
    exact z_iret hX (by decide +kernel) rfl (rfl) (by decide) (by decide) (by first | exact ⟨I, rfl, by unfold swpS; rw [if_neg (fun z => hx z.1)], by unfold swpS; rw [if_neg (fun z => hx z.1)]; exact hG, frG_rf _⟩ | exact ⟨I, rfl, by unfold swpS; rw [if_neg (fun z => hy z.2)], by unfold swpS; rw [if_neg (fun z => hy z.2)]; exact hG, frG_rf _⟩)
def rstS (a : Int32) (p : Int32) (is : Int32) : Int32 := if is = 0 then a &&& (nI 1 <<< (p &&& 31) ^^^ -nI 1) else a ||| nI 1 <<< (p &&& 31)
def homG (g : Gv) (p is : Int32) : Gv := (gn g, gk g, gv g, gc g, gh g, gr g, rstS (ga g) p is, gd g)
theorem mG_hom {g : Gv} {I : Nat → Nat → Int32} (hG : mG g I) (p is : Int32) : mG (homG g p is) (up2 I 100 1 (rstS (I 100 1) p is)) := by
  obtain ⟨a1, a2, a3, a4⟩ := hG
  have hne : ∀ q, q ≠ 100 → up2 I 100 1 (rstS (I 100 1) p is) q = I q := fun q h => up2_ne _ _ _ h
  refine ⟨?_, ?_, ?_, fun p hp => ?_⟩
  · rw [up2_at, if_neg (by decide)]; exact a1
  · rw [up2_at, if_pos rfl, a2]; rfl
  · rw [up2_at, if_neg (by decide)]; exact a3
  · rw [hne 104 (by decide), hne 105 (by decide), hne 106 (by decide), hne 107 (by decide), hne 108 (by decide)]
    exact a4 p hp
theorem gwf_hom {g : Gv} (hg : gwf g) (p is : Int32) : gwf (homG g p is) := hg
def stayS (g : Gv) (x is : Int32) : Int32 × Gv := if isIn x (gn g) = true then (b2i (atB (ga g) (jx x)), homG g x is) else (-nI 1, g)
theorem c_M_stay (E : zE) (K N : Nat → Nat) (Rf : Nat → Nat → Option Nat) (I : Nat → Nat → Int32) (L : Nat → Nat → Int64) {g : Gv} (hg : gwf g) (hG : mG g I) (x is : Int32) : zCt E mX12_stay 2 0 0 (sg K N Rf I L) [.ref 100, .int x, .int is] (fun r σ' => ∃ I', σ' = sg K N Rf I' L ∧ r = some (.int (stayS g x is).1) ∧ mG (stayS g x is).2 I' ∧ frG I I') := by
  have h6 := hg.1
  refine z_intro (by decide) (Nat.le_of_ble_eq_true rfl) (fun X hX => ?_)
  refine bk hX lkX12_ok (pc' := 2) [.aload_n 0, .iload_n 1] (by decide +kernel) (And.intro trivial ?_)
  refine z_callV hX kw_X12_232 (c_M_isWorker E K N Rf I L _ hg.1 hG.1) rfl rfl rfl rfl rfl (by decide +kernel) (by decide) (by decide) (by decide) (by decide) (Nat.le_of_ble_eq_true rfl) ?_
  rintro _ _ ⟨rfl, hh⟩
  rw [← isIn_iff (by omega)] at hh
  rcases hh with ⟨hx, rfl⟩ | ⟨hx, rfl⟩
  · refine if_ne hX (5) 10 (by decide +kernel) (by decide) (fun c_5 => ?_) (fun c => absurd c (by decide))
    obtain ⟨i, hi, rfl⟩ := (isIn_iff (by omega)).mp hx
    refine bk hX lkX12_ok (pc' := 16) [.aload_n 0, .aload_n 0, .getfield 13, .iload_n 1] (by decide +kernel) (And.intro trivial ?_)
    refine z_callV hX kw_X12_224 (c_M_has E _ _ _ _) rfl rfl rfl rfl rfl (by decide +kernel) (by decide) (by decide) (by decide) (by decide) (Nat.le_of_ble_eq_true rfl) ?_
    rintro _ _ ⟨rfl, hh⟩
    rw [hG.2.1] at hh
    rcases hh with ⟨hb, rfl⟩ | ⟨hb, rfl⟩
    · refine if_eq hX (7) 26 (by decide +kernel) (by decide) (fun c => absurd c (by decide)) (fun c_19 => ?_)
      refine bk hX lkX12_ok (pc' := 23) [.iconst 1] (by decide +kernel) (And.intro trivial ?_)
      refine gt_ hX (4) 27 (by decide +kernel) (by decide) ?_
      refine bk hX lkX12_ok (pc' := 31) [.istore_n 3, .aload_n 0, .iload_n 1, .iload_n 2] (by decide +kernel) (And.intro trivial ?_)
      refine z_callV hX kw_X12_243 (c_M_rests E K N Rf I L _ _) rfl rfl rfl rfl rfl (by decide +kernel) (by decide) (by decide) (by decide) (by decide) (Nat.le_of_ble_eq_true rfl) ?_
      rintro _ _ ⟨rfl, rfl⟩
      refine bk hX lkX12_ok (pc' := 35) [.iload_n 3] (by decide +kernel) (And.intro trivial ?_)
      exact z_iret hX (by decide +kernel) rfl (rfl) (by decide) (by decide) (by
  refine ⟨_, rfl, ?_, ?_, frG_f (by decide)⟩
  · unfold stayS; rw [if_pos hx, jx_nI (by omega)]
    first
      | (rw [show atB (ga g) i = true from atB_t hb]; rfl)
      | (rw [show atB (ga g) i = false from Bool.eq_false_iff.mpr (atB_f hb)]; rfl)
  · unfold stayS; rw [if_pos hx]
    exact mG_hom hG (nI i) is)
    · refine if_eq hX (7) 26 (by decide +kernel) (by decide) (fun c_19 => ?_) (fun c => absurd (by decide) c)
      refine bk hX lkX12_ok (pc' := 31) [.iconst 0, .istore_n 3, .aload_n 0, .iload_n 1, .iload_n 2] (by decide +kernel) (And.intro trivial ?_)
      refine z_callV hX kw_X12_243 (c_M_rests E K N Rf I L _ _) rfl rfl rfl rfl rfl (by decide +kernel) (by decide) (by decide) (by decide) (by decide) (Nat.le_of_ble_eq_true rfl) ?_
      rintro _ _ ⟨rfl, rfl⟩
      refine bk hX lkX12_ok (pc' := 35) [.iload_n 3] (by decide +kernel) (And.intro trivial ?_)
      exact z_iret hX (by decide +kernel) rfl (rfl) (by decide) (by decide) (by
  refine ⟨_, rfl, ?_, ?_, frG_f (by decide)⟩
  · unfold stayS; rw [if_pos hx, jx_nI (by omega)]
    first
      | (rw [show atB (ga g) i = true from atB_t hb]; rfl)
      | (rw [show atB (ga g) i = false from Bool.eq_false_iff.mpr (atB_f hb)]; rfl)
  · unfold stayS; rw [if_pos hx]
    exact mG_hom hG (nI i) is)
  · refine if_ne hX (5) 10 (by decide +kernel) (by decide) (fun c => absurd (by decide) c) (fun c_5 => ?_)
    refine bk hX lkX12_ok (pc' := 9) [.iconst (Int.negSucc 0)] (by decide +kernel) (And.intro trivial ?_)
    exact z_iret hX (by decide +kernel) rfl (rfl) (by decide) (by decide) (⟨I, rfl, by unfold stayS; rw [if_neg hx], by unfold stayS; rw [if_neg hx]; exact hG, frG_rf _⟩)
def rowS (g : Gv) (x pt n : Int32) : Int32 × Gv := if isIn x (gn g) = true ∧ isIn pt 4 = true then (if isIn n 10 = true then (if gk g (jx x) = 6 then (nI (gr g (4 * jx x + jx pt)), (gn g, gk g, gv g, gc g, gh g, upN (gr g) (4 * jx x + jx pt) (jx n), ga g, gd g)) else (-nI 3, g)) else (-nI 2, g)) else (-nI 1, g)
theorem in_ix {x : Int32} (n : Nat) (hn : n < 2 ^ 30) : (nI 0 ≤ x ∧ x ≤ nI n) ↔ isIn x (n + 1) = true := by
  rw [i_le (by omega), isIn_iff (by omega)]
  exact ⟨fun ⟨j, h, e⟩ => ⟨j, by omega, e⟩, fun ⟨j, h, e⟩ => ⟨j, by omega, e⟩⟩
theorem c_M_row (E : zE) (K N : Nat → Nat) (Rf : Nat → Nat → Option Nat) (I : Nat → Nat → Int32) (L : Nat → Nat → Int64) {g : Gv} (hg : gwf g) (hG : mG g I) (x pt n : Int32) : zCt E mX12_row 2 0 0 (sg K N Rf I L) [.ref 100, .int x, .int pt, .int n] (fun r σ' => ∃ I', σ' = sg K N Rf I' L ∧ r = some (.int (rowS g x pt n).1) ∧ mG (rowS g x pt n).2 I' ∧ frG I I') := by
  have h6 := hg.1
  refine z_intro (by decide) (Nat.le_of_ble_eq_true rfl) (fun X hX => ?_)
  refine bk hX lkX12_ok (pc' := 2) [.aload_n 0, .iload_n 1] (by decide +kernel) (And.intro trivial ?_)
  refine z_callV hX kw_X12_232 (c_M_isWorker E K N Rf I L _ hg.1 hG.1) rfl rfl rfl rfl rfl (by decide +kernel) (by decide) (by decide) (by decide) (by decide) (Nat.le_of_ble_eq_true rfl) ?_
  rintro _ _ ⟨rfl, hh⟩
  rw [← isIn_iff (by omega)] at hh
  rcases hh with ⟨hx, rfl⟩ | ⟨hx, rfl⟩
  · refine if_eq hX (13) 18 (by decide +kernel) (by decide) (fun c => absurd c (by decide)) (fun c_5 => ?_)
    refine bk hX lkX12_ok (pc' := 12) [.aload_n 0, .iload_n 2, .iconst 0, .iconst 3] (by decide +kernel) (And.intro trivial ?_)
    refine z_callV hX kw_X12_228 (c_M_in E _ _ _ _ _) rfl rfl rfl rfl rfl (by decide +kernel) (by decide) (by decide) (by decide) (by decide) (Nat.le_of_ble_eq_true rfl) ?_
    rintro _ _ ⟨rfl, hh⟩
    rw [in_ix 3 (by decide)] at hh
    rcases hh with ⟨hpt, rfl⟩ | ⟨hpt, rfl⟩
    · refine if_ne hX (5) 20 (by decide +kernel) (by decide) (fun c_15 => ?_) (fun c => absurd c (by decide))
      refine bk hX lkX12_ok (pc' := 25) [.aload_n 0, .iload_n 3, .iconst 0, .bipush 9] (by decide +kernel) (And.intro trivial ?_)
      refine z_callV hX kw_X12_228 (c_M_in E _ _ _ _ _) rfl rfl rfl rfl rfl (by decide +kernel) (by decide) (by decide) (by decide) (by decide) (Nat.le_of_ble_eq_true rfl) ?_
      rintro _ _ ⟨rfl, hh⟩
      rw [in_ix 9 (by decide)] at hh
      rcases hh with ⟨hn, rfl⟩ | ⟨hn, rfl⟩
      · refine if_ne hX (6) 34 (by decide +kernel) (by decide) (fun c_28 => ?_) (fun c => absurd c (by decide))
        obtain ⟨p, hp, rfl⟩ := (isIn_iff (by omega)).mp hx
        obtain ⟨q, hq, rfl⟩ := (isIn_iff (by omega)).mp hpt
        obtain ⟨y, hy, rfl⟩ := (isIn_iff (by omega)).mp hn
        have hk6 := (hg.2.1 p hp).1
        have e4 : nI 4 * nI p + nI q = nI (4 * p + q) := by rw [pk_mul, nI_add]
        have c4 : (nI (4 * p + q)).toNatClampNeg = 4 * p + q := cl (by omega)
        have hrr := (hG.2.2.2 p hp).2.2.2.2 q (by omega)
        refine bk hX lkX12_ok (pc' := 42) [.aload_n 0, .getfield 19, .iload_n 1, .iaload, .bipush 6] (by decide +kernel) (And.intro (by exact vin 6 (by omega)) (And.intro trivial ?_))
        rw [cl (by omega), show I (101 + 3) p = _ from (hG.2.2.2 p hp).1]
        refine ic_eq hX (6) 48 (by decide +kernel) (by decide) (fun ck => ?_) (fun ck => ?_)
        · refine bk hX lkX12_ok (pc' := 73) [.aload_n 0, .getfield 32, .iconst 4, .iload_n 1, .imul, .iload_n 2, .iadd, .iaload, .istore 4, .aload_n 0, .getfield 32, .iconst 4, .iload_n 1, .imul, .iload_n 2, .iadd, .iload_n 3, .iastore, .iload 4] (by decide +kernel) (And.intro (by rw [e4]; exact vin 24 (by omega)) (And.intro (by rw [e4]; exact vin 24 (by omega)) (And.intro trivial ?_)))
          exact z_iret hX (by decide +kernel) rfl (rfl) (by decide) (by decide) (by
  have hk : gk g p = 6 := nI_inj (b := 6) (by omega) (by decide) ck
  rw [e4, c4]
  refine ⟨_, rfl, ?_, ?_, frG_at (by decide)⟩
  · unfold rowS; rw [if_pos ⟨hx, hpt⟩, if_pos hn, jx_nI (by omega), if_pos hk, jx_nI (by omega)]
    exact congrArg (fun z => some (Value.int z)) hrr
  · unfold rowS; rw [if_pos ⟨hx, hpt⟩, if_pos hn, jx_nI (by omega), if_pos hk, jx_nI (by omega), jx_nI (by omega)]
    obtain ⟨a1, a2, a3, a4⟩ := hG
    have hne : ∀ z, z ≠ 108 → up2 I 108 (4 * p + q) (nI y) z = I z := fun z h => up2_ne _ _ _ h
    refine ⟨?_, ?_, ?_, fun p2 hp2 => ⟨?_, ?_, ?_, ?_, fun j hj => ?_⟩⟩
    · show up2 I 108 (4 * p + q) (nI y) 100 0 = _
      rw [hne 100 (by decide)]; exact a1
    · show up2 I 108 (4 * p + q) (nI y) 100 1 = _
      rw [hne 100 (by decide)]; exact a2
    · show up2 I 108 (4 * p + q) (nI y) 100 2 = _
      rw [hne 100 (by decide)]; exact a3
    · show up2 I 108 (4 * p + q) (nI y) 104 p2 = _
      rw [hne _ (by decide)]; exact (a4 p2 hp2).1
    · show up2 I 108 (4 * p + q) (nI y) 105 p2 = _
      rw [hne _ (by decide)]; exact (a4 p2 hp2).2.1
    · show up2 I 108 (4 * p + q) (nI y) 106 p2 = _
      rw [hne _ (by decide)]; exact (a4 p2 hp2).2.2.1
    · show up2 I 108 (4 * p + q) (nI y) 107 p2 = _
      rw [hne _ (by decide)]; exact (a4 p2 hp2).2.2.2.1
    · show up2 I 108 (4 * p + q) (nI y) 108 (4 * p2 + j) = nI (upN (gr g) (4 * p + q) y (4 * p2 + j))
      rw [up2_at]
      unfold upN
      split
      · rfl
      · exact (a4 p2 hp2).2.2.2.2 j hj)
        · refine bk hX lkX12_ok (pc' := 47) [.bipush (Int.negSucc 2)] (by decide +kernel) (And.intro trivial ?_)
          exact z_iret hX (by decide +kernel) rfl (rfl) (by decide) (by decide) (⟨I, rfl, by unfold rowS; rw [if_pos ⟨hx, hpt⟩, if_pos hn, jx_nI (by omega), if_neg (fun z => ck (by rw [z]))], by unfold rowS; rw [if_pos ⟨hx, hpt⟩, if_pos hn, jx_nI (by omega), if_neg (fun z => ck (by rw [z]))]; exact hG, frG_rf _⟩)
      · refine if_ne hX (6) 34 (by decide +kernel) (by decide) (fun c => absurd (by decide) c) (fun c_28 => ?_)
        refine bk hX lkX12_ok (pc' := 33) [.bipush (Int.negSucc 1)] (by decide +kernel) (And.intro trivial ?_)
        exact z_iret hX (by decide +kernel) rfl (rfl) (by decide) (by decide) (⟨I, rfl, by unfold rowS; rw [if_pos ⟨hx, hpt⟩, if_neg hn], by unfold rowS; rw [if_pos ⟨hx, hpt⟩, if_neg hn]; exact hG, frG_rf _⟩)
    · refine if_ne hX (5) 20 (by decide +kernel) (by decide) (fun c => absurd (by decide) c) (fun c_15 => ?_)
      refine bk hX lkX12_ok (pc' := 19) [.iconst (Int.negSucc 0)] (by decide +kernel) (And.intro trivial ?_)
      exact z_iret hX (by decide +kernel) rfl (rfl) (by decide) (by decide) (by first | exact ⟨I, rfl, by unfold rowS; rw [if_neg (fun z => hx z.1)], by unfold rowS; rw [if_neg (fun z => hx z.1)]; exact hG, frG_rf _⟩ | exact ⟨I, rfl, by unfold rowS; rw [if_neg (fun z => hpt z.2)], by unfold rowS; rw [if_neg (fun z => hpt z.2)]; exact hG, frG_rf _⟩)
  · refine if_eq hX (13) 18 (by decide +kernel) (by decide) (fun c_5 => ?_) (fun c => absurd (by decide) c)
    refine bk hX lkX12_ok (pc' := 19) [.iconst (Int.negSucc 0)] (by decide +kernel) (And.intro trivial ?_)
    exact z_iret hX (by decide +kernel) rfl (rfl) (by decide) (by decide) (by first | exact ⟨I, rfl, by unfold rowS; rw [if_neg (fun z => hx z.1)], by unfold rowS; rw [if_neg (fun z => hx z.1)]; exact hG, frG_rf _⟩ | exact ⟨I, rfl, by unfold rowS; rw [if_neg (fun z => hpt z.2)], by unfold rowS; rw [if_neg (fun z => hpt z.2)]; exact hG, frG_rf _⟩)
