def mPl (s : Rw) (I : Nat → Nat → Int32) : Prop := I 100 38 = nI s.1 ∧ s.1 ≤ 10 ∧ ∀ k, k < s.1 → I 141 k = nI (s.2.1 k) ∧ I 142 k = nI (s.2.2.1 k)
def wPl (s : Rw) (g : Gv) : Prop := ∀ k, k < s.1 → s.2.1 k ≤ 3 ∧ s.2.2.1 k < 100 ∧ (s.2.1 k = 1 → s.2.2.1 k / 10 < gn g ∧ s.2.2.1 k % 10 < gn g) ∧ (2 ≤ s.2.1 k → s.2.2.1 k < gn g)
def mBk (s : Rw) (I : Nat → Nat → Int32) : Prop := I 100 39 = nI s.1 ∧ s.1 ≤ 8 ∧ ∀ k, k < s.1 → I 143 k = nI (s.2.1 k) ∧ I 144 k = nI (s.2.2.1 k)
def wBk (s : Rw) (g : Gv) : Prop := ∀ k, k < s.1 → s.2.1 k < gn g ∧ s.2.2.1 k < 1024
theorem mPl_eq {s : Rw} {I I' : Nat → Nat → Int32} (h : mPl s I) (e0 : I' 100 38 = I 100 38) (e1 : I' 141 = I 141) (e2 : I' 142 = I 142) : mPl s I' := by
  unfold mPl
  rw [e0, e1, e2]
  exact h
theorem mBk_eq {s : Rw} {I I' : Nat → Nat → Int32} (h : mBk s I) (e0 : I' 100 39 = I 100 39) (e1 : I' 143 = I 143) (e2 : I' 144 = I 144) : mBk s I' := by
  unfold mBk
  rw [e0, e1, e2]
  exact h
def prB (n : Nat) (x : Int32) : Bool := decide (0 ≤ x.toInt) && (decide (jx x / 10 < n) && decide (jx x % 10 < n))
theorem prB_iff {n : Nat} {x : Int32} : prB n x = true ↔ 0 ≤ x.toInt ∧ jx x / 10 < n ∧ jx x % 10 < n := by simp only [prB, Bool.and_eq_true, decide_eq_true_eq]
theorem i_neg {x : Int32} : x < 0 ↔ ¬ 0 ≤ x.toInt := by
  rw [Int32.lt_iff_toInt_lt]
  have : (0 : Int32).toInt = 0 := rfl
  omega
theorem i_ofn {x : Int32} (h : ¬ x < 0) : x = nI (jx x) ∧ jx x < 2 ^ 31 ∧ 0 ≤ x.toInt := by
  obtain ⟨j, hj, rfl⟩ := nI_of h
  rw [jx_nI hj, nI_toInt hj]
  exact ⟨rfl, hj, by omega⟩
theorem in_nI {j n : Nat} (hn : n ≤ 6) (hj : j < 2 ^ 31) : (isIn (nI j) n = true) ↔ j < n := by
  rw [isIn_iff (by omega)]
  exact ⟨fun ⟨k, h, e⟩ => by rw [nI_inj hj (by omega) e]; exact h, fun h => ⟨j, h, rfl⟩⟩
theorem c_M_isPair (E : zE) (K N : Nat → Nat) (Rf : Nat → Nat → Option Nat) (I : Nat → Nat → Int32) (L : Nat → Nat → Int64) {g : Gv} (hg : gwf g) (hG : mG g I) (x : Int32) : zCt E mX12_isPair 2 0 0 (sg K N Rf I L) [.ref 100, .int x] (fun r σ' => σ' = (sg K N Rf I L) ∧ (((prB (gn g) x = true) ∧ r = some (.int 1)) ∨ (¬ ((prB (gn g) x = true)) ∧ r = some (.int 0)))) := by
  have h6 := hg.1
  refine z_intro (by decide) (Nat.le_of_ble_eq_true rfl) (fun X hX => ?_)
  refine bk hX lkX12_ok (pc' := 1) [.iload_n 1] (by decide +kernel) (And.intro trivial ?_)
  refine if_lt hX (29) 30 (by decide +kernel) (by decide) (fun c0 => ?_) (fun c0 => ?_)
  · refine bk hX lkX12_ok (pc' := 31) [.iconst 0] (by decide +kernel) (And.intro trivial ?_)
    exact z_iret hX (by decide +kernel) rfl (rfl) (by decide) (by decide) (by first | exact ⟨rfl, Or.inl ⟨prB_iff.mpr ⟨hx0, h1, h2⟩, rfl⟩⟩ | exact ⟨rfl, Or.inr ⟨fun z => (i_neg.mp c0) (prB_iff.mp z).1, rfl⟩⟩ | exact ⟨rfl, Or.inr ⟨fun z => h1 (prB_iff.mp z).2.1, rfl⟩⟩ | exact ⟨rfl, Or.inr ⟨fun z => h2 (prB_iff.mp z).2.2, rfl⟩⟩)
  · obtain ⟨ex, hx31, hx0⟩ := i_ofn c0
    have ed : x / nI 10 = nI (jx x / 10) := by rw [ex, i_div (d := 10) hx31 (by decide) (by decide), jx_nI hx31]
    have em : x - x / nI 10 * nI 10 = nI (jx x % 10) := by rw [ex, i_mod (d := 10) hx31 (by decide) (by decide), jx_nI hx31]
    have hdl : jx x / 10 < 2 ^ 31 := by omega
    have hml : jx x % 10 < 2 ^ 31 := by omega
    refine bk hX lkX12_ok (pc' := 9) [.aload_n 0, .iload_n 1, .bipush 10, .idiv] (by decide +kernel) (And.intro (by decide) (And.intro trivial ?_))
    rw [ed]
    refine z_callV hX kw_X12_232 (c_M_isWorker E K N Rf I L _ hg.1 hG.1) rfl rfl rfl rfl rfl (by decide +kernel) (by decide) (by decide) (by decide) (by decide) (Nat.le_of_ble_eq_true rfl) ?_
    rintro _ _ ⟨rfl, hh⟩
    rw [← isIn_iff (by omega), in_nI h6 hdl] at hh
    rcases hh with ⟨h1, rfl⟩ | ⟨h1, rfl⟩
    · refine if_eq hX (18) 30 (by decide +kernel) (by decide) (fun c => absurd c (by decide)) (fun c_12 => ?_)
      refine bk hX lkX12_ok (pc' := 20) [.aload_n 0, .iload_n 1, .bipush 10, .irem] (by decide +kernel) (And.intro (by decide) (And.intro trivial ?_))
      rw [em]
      refine z_callV hX kw_X12_232 (c_M_isWorker E K N Rf I L _ hg.1 hG.1) rfl rfl rfl rfl rfl (by decide +kernel) (by decide) (by decide) (by decide) (by decide) (Nat.le_of_ble_eq_true rfl) ?_
      rintro _ _ ⟨rfl, hh⟩
      rw [← isIn_iff (by omega), in_nI h6 hml] at hh
      rcases hh with ⟨h2, rfl⟩ | ⟨h2, rfl⟩
      · refine if_eq hX (7) 30 (by decide +kernel) (by decide) (fun c => absurd c (by decide)) (fun c_23 => ?_)
        refine bk hX lkX12_ok (pc' := 27) [.iconst 1] (by decide +kernel) (And.intro trivial ?_)
        refine gt_ hX (4) 31 (by decide +kernel) (by decide) ?_
        exact z_iret hX (by decide +kernel) rfl (rfl) (by decide) (by decide) (by first | exact ⟨rfl, Or.inl ⟨prB_iff.mpr ⟨hx0, h1, h2⟩, rfl⟩⟩ | exact ⟨rfl, Or.inr ⟨fun z => (i_neg.mp c0) (prB_iff.mp z).1, rfl⟩⟩ | exact ⟨rfl, Or.inr ⟨fun z => h1 (prB_iff.mp z).2.1, rfl⟩⟩ | exact ⟨rfl, Or.inr ⟨fun z => h2 (prB_iff.mp z).2.2, rfl⟩⟩)
      · refine if_eq hX (7) 30 (by decide +kernel) (by decide) (fun c_23 => ?_) (fun c => absurd (by decide) c)
        refine bk hX lkX12_ok (pc' := 31) [.iconst 0] (by decide +kernel) (And.intro trivial ?_)
        exact z_iret hX (by decide +kernel) rfl (rfl) (by decide) (by decide) (by first | exact ⟨rfl, Or.inl ⟨prB_iff.mpr ⟨hx0, h1, h2⟩, rfl⟩⟩ | exact ⟨rfl, Or.inr ⟨fun z => (i_neg.mp c0) (prB_iff.mp z).1, rfl⟩⟩ | exact ⟨rfl, Or.inr ⟨fun z => h1 (prB_iff.mp z).2.1, rfl⟩⟩ | exact ⟨rfl, Or.inr ⟨fun z => h2 (prB_iff.mp z).2.2, rfl⟩⟩)
    · refine if_eq hX (18) 30 (by decide +kernel) (by decide) (fun c_12 => ?_) (fun c => absurd (by decide) c)
      refine bk hX lkX12_ok (pc' := 31) [.iconst 0] (by decide +kernel) (And.intro trivial ?_)
      exact z_iret hX (by decide +kernel) rfl (rfl) (by decide) (by decide) (by first | exact ⟨rfl, Or.inl ⟨prB_iff.mpr ⟨hx0, h1, h2⟩, rfl⟩⟩ | exact ⟨rfl, Or.inr ⟨fun z => (i_neg.mp c0) (prB_iff.mp z).1, rfl⟩⟩ | exact ⟨rfl, Or.inr ⟨fun z => h1 (prB_iff.mp z).2.1, rfl⟩⟩ | exact ⟨rfl, Or.inr ⟨fun z => h2 (prB_iff.mp z).2.2, rfl⟩⟩)
def planOk (n : Nat) (wh x : Int32) : Prop := isIn wh 4 = true ∧ (wh = nI 1 → prB n x = true) ∧ (nI 1 < wh → isIn x n = true)
def planS (s : Rw) (n : Nat) (wh x : Int32) : Int32 × Rw := if wh = -nI 1 then (0, (0, s.2)) else if isIn wh 4 = true ∧ (wh = nI 1 → prB n x = true) ∧ (nI 1 < wh → isIn x n = true) then (if wh = nI 1 ∧ jx x / 10 = jx x % 10 then (-nI 2, s) else if s.1 = 10 then (-nI 4, s) else (nI (s.1 + 1), (s.1 + 1, upN s.2.1 s.1 (jx wh), upN s.2.2.1 s.1 (if nI 0 < wh then jx x else 0), s.2.2.2))) else (-nI 1, s)
set_option maxHeartbeats 2000000 in
theorem c_M_plan (E : zE) (K N : Nat → Nat) (Rf : Nat → Nat → Option Nat) (I : Nat → Nat → Int32) (L : Nat → Nat → Int64) {g : Gv} (hg : gwf g) (hG : mG g I) {s : Rw} (hs : mPl s I) (wh x : Int32) : zCt E mX12_plan 3 0 0 (sg K N Rf I L) [.ref 100, .int wh, .int x] (fun r σ' => ∃ I', σ' = sg K N Rf I' L ∧ r = some (.int (planS s (gn g) wh x).1) ∧ mPl (planS s (gn g) wh x).2 I' ∧ frX [141, 142] [38] I I') := by
  have h6 := hg.1
  obtain ⟨hs0, hs5, hsk⟩ := hs
  have cs : (nI s.1).toNatClampNeg = s.1 := cl (by omega)
  have hno : ∀ X : zX, zD X E mX12_plan 3 0 0 (fun r σ' => ∃ I', σ' = sg K N Rf I' L ∧ r = some (.int (planS s (gn g) wh x).1) ∧ mPl (planS s (gn g) wh x).2 I' ∧ frX [141, 142] [38] I I') → ¬ wh = -nI 1 → ¬ (isIn wh 4 = true ∧ (wh = nI 1 → prB (gn g) x = true) ∧ (nI 1 < wh → isIn x (gn g) = true)) → zS X (sg K N Rf I L) 0 0 48 [(0, .ref 100), (1, .int wh), (2, .int x)] [] := by
    intro X hX c1 hn
    refine bk hX lkX12_ok (pc' := 49) [.iconst (Int.negSucc 0)] (by decide +kernel) (And.intro trivial ?_)
    exact z_iret hX (by decide +kernel) rfl (rfl) (by decide) (by decide) (⟨I, rfl, by unfold planS; rw [if_neg c1, if_neg hn], by unfold planS; rw [if_neg c1, if_neg hn]; exact ⟨hs0, hs5, hsk⟩, frX_rf _ _ _⟩)
  have hyes : ∀ X : zX, zD X E mX12_plan 3 0 0 (fun r σ' => ∃ I', σ' = sg K N Rf I' L ∧ r = some (.int (planS s (gn g) wh x).1) ∧ mPl (planS s (gn g) wh x).2 I' ∧ frX [141, 142] [38] I I') → ¬ wh = -nI 1 → (isIn wh 4 = true ∧ (wh = nI 1 → prB (gn g) x = true) ∧ (nI 1 < wh → isIn x (gn g) = true)) → zS X (sg K N Rf I L) 0 0 50 [(0, .ref 100), (1, .int wh), (2, .int x)] [] := by
    intro X hX c1 hn
    obtain ⟨k, hk4, rfl⟩ := (isIn_iff (by decide)).mp hn.1
    have hadd : ∀ y : Int32, (y = nI (if nI 0 < nI k then jx x else 0)) → ¬ (nI k = nI 1 ∧ jx x / 10 = jx x % 10) → ¬ s.1 = 10 → (∃ I', sg K N Rf (up2 (up2 (up2 I 141 s.1 (nI k)) 142 s.1 y) 100 38 (nI (s.1 + 1))) L = sg K N Rf I' L ∧ some (Value.int (nI (s.1 + 1))) = some (.int (planS s (gn g) (nI k) x).1) ∧ mPl (planS s (gn g) (nI k) x).2 I' ∧ frX [141, 142] [38] I I') := by
      intro y hy h2 h10
      refine ⟨_, rfl, by unfold planS; rw [if_neg c1, if_pos hn, if_neg h2, if_neg h10], ?_, frX_tr (frX_tr (frX_at (by decide) (by decide)) (frX_at (by decide) (by decide))) (frX_f (by decide))⟩
      unfold planS; rw [if_neg c1, if_pos hn, if_neg h2, if_neg h10, jx_nI (by omega)]
      refine ⟨by simp [up2_v], by show s.1 + 1 ≤ 10; omega, fun j hj => ?_⟩
      by_cases hj2 : j = s.1
      · subst hj2
        simp [up2_v, upN, hy]
      · have hj3 : j < s.1 + 1 := hj
        have hj4 := hsk j (by omega)
        simp [up2_v, upN, hj2, hj4]
    have hpx : nI k = nI 1 → x = nI (jx x) ∧ jx x < 2 ^ 31 := fun z => by
      have := hn.2.1 z
      simp only [prB, Bool.and_eq_true, decide_eq_true_eq] at this
      obtain ⟨ex, hx31, -⟩ := i_ofn (x := x) (fun y => (i_neg.mp y) this.1)
      exact ⟨ex, hx31⟩
    refine bk hX lkX12_ok (pc' := 52) [.iload_n 1, .iconst 1] (by decide +kernel) (And.intro trivial ?_)
    refine ic_ne hX (17) 69 (by decide +kernel) (by decide) (fun ck => ?_) (fun ck => ?_)
    · have h2 : ¬ (nI k = nI 1 ∧ jx x / 10 = jx x % 10) := fun z => by first | exact ck z.1 | exact ce (by rw [z.2])
      refine bk hX lkX12_ok (pc' := 75) [.aload_n 0, .getfield 126, .bipush 10] (by decide +kernel) (And.intro trivial ?_)
      rw [hs0]
      refine ic_ne hX (6) 81 (by decide +kernel) (by decide) (fun c10 => ?_) (fun c10 => ?_)
      · refine bk hX lkX12_ok (pc' := 91) [.aload_n 0, .getfield 132, .aload_n 0, .getfield 126, .iload_n 1, .iastore] (by decide +kernel) (And.intro (by rw [hs0]; exact vin 10 (by have : ¬ s.1 = 10 := fun z => c10 (by rw [z]); omega)) (And.intro trivial ?_))
        rw [hs0, cs]
        refine bk hX lkX12_ok (pc' := 99) [.aload_n 0, .getfield 135, .aload_n 0, .getfield 126] (by decide +kernel) (And.intro trivial ?_)
        rw [up2_ne _ _ _ (show (100 : Nat) ≠ 101 + 40 by decide), hs0]
        refine bk hX lkX12_ok (pc' := 100) [.iload_n 1] (by decide +kernel) (And.intro trivial ?_)
        refine if_le hX (7) 107 (by decide +kernel) (by decide) (fun cz => ?_) (fun cz => ?_)
        · refine bk hX lkX12_ok (pc' := 109) [.iconst 0, .iastore] (by decide +kernel) (And.intro (by exact vin 10 (by have : ¬ s.1 = 10 := fun z => c10 (by rw [z]); omega)) (And.intro trivial ?_))
          rw [cs]
          refine bk hX lkX12_ok (pc' := 119) [.aload_n 0, .dup, .getfield 126, .iconst 1, .iadd, .putfield 126] (by decide +kernel) (And.intro trivial ?_)
          rw [up2_ne _ _ _ (show (100 : Nat) ≠ 101 + 41 by decide), up2_ne _ _ _ (show (100 : Nat) ≠ 101 + 40 by decide), hs0, nI_add]
          refine bk hX lkX12_ok (pc' := 123) [.aload_n 0, .getfield 126] (by decide +kernel) (And.intro trivial ?_)
          rw [up2_self]
          exact z_iret hX (by decide +kernel) rfl (rfl) (by decide) (by decide) (by
  have e10 : ¬ s.1 = 10 := fun z => c10 (by rw [z])
  have hx := hn.2.2
  have hpos : nI 0 < nI k → x = nI (jx x) := fun h0 => by
    have hk0 : 0 < k := (nI_ltI (by decide) (by omega)).mp h0
    rcases Nat.lt_or_ge 1 k with z | z
    · obtain ⟨j, hj, hj2⟩ := (isIn_iff (by omega)).mp (hx (nI_lt (a := 1) z (by omega)))
      rw [hj2, jx_nI (by omega)]
    · exact (hpx (by rw [show k = 1 by omega])).1
  first
    | exact hadd (nI 0) (by rw [if_neg (show ¬ nI 0 < nI k from fun z => absurd z (i_nlt.mpr cz))]) h2 e10
    | exact hadd x (by rw [if_pos (show nI 0 < nI k from i_nle.mp cz)]; exact hpos (i_nle.mp cz)) h2 e10)
        · refine bk hX lkX12_ok (pc' := 104) [.iload_n 2] (by decide +kernel) (And.intro trivial ?_)
          refine gt_ hX (4) 108 (by decide +kernel) (by decide) ?_
          refine bk hX lkX12_ok (pc' := 109) [.iastore] (by decide +kernel) (And.intro (by exact vin 10 (by have : ¬ s.1 = 10 := fun z => c10 (by rw [z]); omega)) (And.intro trivial ?_))
          rw [cs]
          refine bk hX lkX12_ok (pc' := 119) [.aload_n 0, .dup, .getfield 126, .iconst 1, .iadd, .putfield 126] (by decide +kernel) (And.intro trivial ?_)
          rw [up2_ne _ _ _ (show (100 : Nat) ≠ 101 + 41 by decide), up2_ne _ _ _ (show (100 : Nat) ≠ 101 + 40 by decide), hs0, nI_add]
          refine bk hX lkX12_ok (pc' := 123) [.aload_n 0, .getfield 126] (by decide +kernel) (And.intro trivial ?_)
          rw [up2_self]
          exact z_iret hX (by decide +kernel) rfl (rfl) (by decide) (by decide) (by
  have e10 : ¬ s.1 = 10 := fun z => c10 (by rw [z])
  have hx := hn.2.2
  have hpos : nI 0 < nI k → x = nI (jx x) := fun h0 => by
    have hk0 : 0 < k := (nI_ltI (by decide) (by omega)).mp h0
    rcases Nat.lt_or_ge 1 k with z | z
    · obtain ⟨j, hj, hj2⟩ := (isIn_iff (by omega)).mp (hx (nI_lt (a := 1) z (by omega)))
      rw [hj2, jx_nI (by omega)]
    · exact (hpx (by rw [show k = 1 by omega])).1
  first
    | exact hadd (nI 0) (by rw [if_neg (show ¬ nI 0 < nI k from fun z => absurd z (i_nlt.mpr cz))]) h2 e10
    | exact hadd x (by rw [if_pos (show nI 0 < nI k from i_nle.mp cz)]; exact hpos (i_nle.mp cz)) h2 e10)
      · refine bk hX lkX12_ok (pc' := 80) [.bipush (Int.negSucc 3)] (by decide +kernel) (And.intro trivial ?_)
        exact z_iret hX (by decide +kernel) rfl (rfl) (by decide) (by decide) (by have e10 : s.1 = 10 := nI_inj (b := 10) (by omega) (by decide) c10; exact ⟨I, rfl, by unfold planS; rw [if_neg c1, if_pos hn, if_neg h2, if_pos e10], by unfold planS; rw [if_neg c1, if_pos hn, if_neg h2, if_pos e10]; exact ⟨hs0, hs5, hsk⟩, frX_rf _ _ _⟩)
    · refine bk hX lkX12_ok (pc' := 63) [.iload_n 2, .bipush 10, .idiv, .iload_n 2, .bipush 10, .irem] (by decide +kernel) (And.intro (by decide) (And.intro (by decide) (And.intro trivial ?_)))
      obtain ⟨ex, hx31⟩ := hpx ck
      have ed : x / nI 10 = nI (jx x / 10) := by rw [ex, i_div (d := 10) hx31 (by decide) (by decide), jx_nI hx31]
      have em : x - x / nI 10 * nI 10 = nI (jx x % 10) := by rw [ex, i_mod (d := 10) hx31 (by decide) (by decide), jx_nI hx31]
      rw [em, ed]
      refine ic_ne hX (6) 69 (by decide +kernel) (by decide) (fun ce => ?_) (fun ce => ?_)
      · have h2 : ¬ (nI k = nI 1 ∧ jx x / 10 = jx x % 10) := fun z => by first | exact ck z.1 | exact ce (by rw [z.2])
        refine bk hX lkX12_ok (pc' := 75) [.aload_n 0, .getfield 126, .bipush 10] (by decide +kernel) (And.intro trivial ?_)
        rw [hs0]
        refine ic_ne hX (6) 81 (by decide +kernel) (by decide) (fun c10 => ?_) (fun c10 => ?_)
        · refine bk hX lkX12_ok (pc' := 91) [.aload_n 0, .getfield 132, .aload_n 0, .getfield 126, .iload_n 1, .iastore] (by decide +kernel) (And.intro (by rw [hs0]; exact vin 10 (by have : ¬ s.1 = 10 := fun z => c10 (by rw [z]); omega)) (And.intro trivial ?_))
          rw [hs0, cs]
          refine bk hX lkX12_ok (pc' := 99) [.aload_n 0, .getfield 135, .aload_n 0, .getfield 126] (by decide +kernel) (And.intro trivial ?_)
          rw [up2_ne _ _ _ (show (100 : Nat) ≠ 101 + 40 by decide), hs0]
          refine bk hX lkX12_ok (pc' := 100) [.iload_n 1] (by decide +kernel) (And.intro trivial ?_)
          refine if_le hX (7) 107 (by decide +kernel) (by decide) (fun cz => ?_) (fun cz => ?_)
          · refine bk hX lkX12_ok (pc' := 109) [.iconst 0, .iastore] (by decide +kernel) (And.intro (by exact vin 10 (by have : ¬ s.1 = 10 := fun z => c10 (by rw [z]); omega)) (And.intro trivial ?_))
            rw [cs]
            refine bk hX lkX12_ok (pc' := 119) [.aload_n 0, .dup, .getfield 126, .iconst 1, .iadd, .putfield 126] (by decide +kernel) (And.intro trivial ?_)
            rw [up2_ne _ _ _ (show (100 : Nat) ≠ 101 + 41 by decide), up2_ne _ _ _ (show (100 : Nat) ≠ 101 + 40 by decide), hs0, nI_add]
            refine bk hX lkX12_ok (pc' := 123) [.aload_n 0, .getfield 126] (by decide +kernel) (And.intro trivial ?_)
            rw [up2_self]
            exact z_iret hX (by decide +kernel) rfl (rfl) (by decide) (by decide) (by
  have e10 : ¬ s.1 = 10 := fun z => c10 (by rw [z])
  have hx := hn.2.2
  have hpos : nI 0 < nI k → x = nI (jx x) := fun h0 => by
    have hk0 : 0 < k := (nI_ltI (by decide) (by omega)).mp h0
    rcases Nat.lt_or_ge 1 k with z | z
    · obtain ⟨j, hj, hj2⟩ := (isIn_iff (by omega)).mp (hx (nI_lt (a := 1) z (by omega)))
      rw [hj2, jx_nI (by omega)]
    · exact (hpx (by rw [show k = 1 by omega])).1
  first
    | exact hadd (nI 0) (by rw [if_neg (show ¬ nI 0 < nI k from fun z => absurd z (i_nlt.mpr cz))]) h2 e10
    | exact hadd x (by rw [if_pos (show nI 0 < nI k from i_nle.mp cz)]; exact hpos (i_nle.mp cz)) h2 e10)
          · refine bk hX lkX12_ok (pc' := 104) [.iload_n 2] (by decide +kernel) (And.intro trivial ?_)
            refine gt_ hX (4) 108 (by decide +kernel) (by decide) ?_
            refine bk hX lkX12_ok (pc' := 109) [.iastore] (by decide +kernel) (And.intro (by exact vin 10 (by have : ¬ s.1 = 10 := fun z => c10 (by rw [z]); omega)) (And.intro trivial ?_))
            rw [cs]
            refine bk hX lkX12_ok (pc' := 119) [.aload_n 0, .dup, .getfield 126, .iconst 1, .iadd, .putfield 126] (by decide +kernel) (And.intro trivial ?_)
            rw [up2_ne _ _ _ (show (100 : Nat) ≠ 101 + 41 by decide), up2_ne _ _ _ (show (100 : Nat) ≠ 101 + 40 by decide), hs0, nI_add]
            refine bk hX lkX12_ok (pc' := 123) [.aload_n 0, .getfield 126] (by decide +kernel) (And.intro trivial ?_)
            rw [up2_self]
            exact z_iret hX (by decide +kernel) rfl (rfl) (by decide) (by decide) (by
  have e10 : ¬ s.1 = 10 := fun z => c10 (by rw [z])
  have hx := hn.2.2
  have hpos : nI 0 < nI k → x = nI (jx x) := fun h0 => by
    have hk0 : 0 < k := (nI_ltI (by decide) (by omega)).mp h0
    rcases Nat.lt_or_ge 1 k with z | z
    · obtain ⟨j, hj, hj2⟩ := (isIn_iff (by omega)).mp (hx (nI_lt (a := 1) z (by omega)))
      rw [hj2, jx_nI (by omega)]
    · exact (hpx (by rw [show k = 1 by omega])).1
  first
    | exact hadd (nI 0) (by rw [if_neg (show ¬ nI 0 < nI k from fun z => absurd z (i_nlt.mpr cz))]) h2 e10
    | exact hadd x (by rw [if_pos (show nI 0 < nI k from i_nle.mp cz)]; exact hpos (i_nle.mp cz)) h2 e10)
        · refine bk hX lkX12_ok (pc' := 80) [.bipush (Int.negSucc 3)] (by decide +kernel) (And.intro trivial ?_)
          exact z_iret hX (by decide +kernel) rfl (rfl) (by decide) (by decide) (by have e10 : s.1 = 10 := nI_inj (b := 10) (by omega) (by decide) c10; exact ⟨I, rfl, by unfold planS; rw [if_neg c1, if_pos hn, if_neg h2, if_pos e10], by unfold planS; rw [if_neg c1, if_pos hn, if_neg h2, if_pos e10]; exact ⟨hs0, hs5, hsk⟩, frX_rf _ _ _⟩)
      · refine bk hX lkX12_ok (pc' := 68) [.bipush (Int.negSucc 1)] (by decide +kernel) (And.intro trivial ?_)
        exact z_iret hX (by decide +kernel) rfl (rfl) (by decide) (by decide) (by have h2 : nI k = nI 1 ∧ jx x / 10 = jx x % 10 := ⟨ck, nI_inj (by omega) (by omega) ce⟩; exact ⟨I, rfl, by unfold planS; rw [if_neg c1, if_pos hn, if_pos h2], by unfold planS; rw [if_neg c1, if_pos hn, if_pos h2]; exact ⟨hs0, hs5, hsk⟩, frX_rf _ _ _⟩)
  refine z_intro (by decide) (Nat.le_of_ble_eq_true rfl) (fun X hX => ?_)
  refine bk hX lkX12_ok (pc' := 2) [.iload_n 1, .iconst (Int.negSucc 0)] (by decide +kernel) (And.intro trivial ?_)
  refine ic_ne hX (10) 12 (by decide +kernel) (by decide) (fun c1 => ?_) (fun c1 => ?_)
  · refine bk hX lkX12_ok (pc' := 16) [.aload_n 0, .iload_n 1, .iconst 0, .iconst 3] (by decide +kernel) (And.intro trivial ?_)
    refine z_callV hX kw_X12_228 (c_M_in E _ _ _ _ _) rfl rfl rfl rfl rfl (by decide +kernel) (by decide) (by decide) (by decide) (by decide) (Nat.le_of_ble_eq_true rfl) ?_
    rintro _ _ ⟨rfl, hh⟩
    rw [in_ix 3 (by decide)] at hh
    rcases hh with ⟨h4, rfl⟩ | ⟨h4, rfl⟩
    · refine if_eq hX (29) 48 (by decide +kernel) (by decide) (fun c => absurd c (by decide)) (fun c_19 => ?_)
      refine bk hX lkX12_ok (pc' := 24) [.iload_n 1, .iconst 1] (by decide +kernel) (And.intro trivial ?_)
      refine ic_ne hX (11) 35 (by decide +kernel) (by decide) (fun ca => ?_) (fun ca => ?_)
      · refine bk hX lkX12_ok (pc' := 37) [.iload_n 1, .iconst 1] (by decide +kernel) (And.intro trivial ?_)
        refine ic_le hX (13) 50 (by decide +kernel) (by decide) (fun cb => ?_) (fun cb => ?_)
        · refine z_lvk (lv' := [(0, _), (1, _), (2, _)]) [0, 1, 2] rfl ?_
          first | exact hyes X hX c1 ⟨h4, fun _ => hpr, fun z => absurd cb (i_nle.mpr z)⟩ | exact hyes X hX c1 ⟨h4, fun z => absurd z ca, fun z => absurd cb (i_nle.mpr z)⟩ | exact hyes X hX c1 ⟨h4, fun _ => hpr, fun _ => hxw⟩ | exact hyes X hX c1 ⟨h4, fun z => absurd z ca, fun _ => hxw⟩
        · refine bk hX lkX12_ok (pc' := 42) [.aload_n 0, .iload_n 2] (by decide +kernel) (And.intro trivial ?_)
          refine z_callV hX kw_X12_232 (c_M_isWorker E K N Rf I L _ hg.1 hG.1) rfl rfl rfl rfl rfl (by decide +kernel) (by decide) (by decide) (by decide) (by decide) (Nat.le_of_ble_eq_true rfl) ?_
          rintro _ _ ⟨rfl, hh⟩
          rw [← isIn_iff (by omega)] at hh
          rcases hh with ⟨hxw, rfl⟩ | ⟨hxw, rfl⟩
          · refine if_ne hX (5) 50 (by decide +kernel) (by decide) (fun c_45 => ?_) (fun c => absurd c (by decide))
            refine z_lvk (lv' := [(0, _), (1, _), (2, _)]) [0, 1, 2] rfl ?_
            first | exact hyes X hX c1 ⟨h4, fun _ => hpr, fun z => absurd cb (i_nle.mpr z)⟩ | exact hyes X hX c1 ⟨h4, fun z => absurd z ca, fun z => absurd cb (i_nle.mpr z)⟩ | exact hyes X hX c1 ⟨h4, fun _ => hpr, fun _ => hxw⟩ | exact hyes X hX c1 ⟨h4, fun z => absurd z ca, fun _ => hxw⟩
          · refine if_ne hX (5) 50 (by decide +kernel) (by decide) (fun c => absurd (by decide) c) (fun c_45 => ?_)
            refine z_lvk (lv' := [(0, _), (1, _), (2, _)]) [0, 1, 2] rfl ?_
            first | exact hno X hX c1 (fun z => h4 z.1) | exact hno X hX c1 (fun z => hpr (z.2.1 ca)) | exact hno X hX c1 (fun z => hxw (z.2.2 (i_nle.mp cb)))
      · refine bk hX lkX12_ok (pc' := 29) [.aload_n 0, .iload_n 2] (by decide +kernel) (And.intro trivial ?_)
        refine z_callV hX kw_X12_382 (c_M_isPair E K N Rf I L hg hG _) rfl rfl rfl rfl rfl (by decide +kernel) (by decide) (by decide) (by decide) (by decide) (Nat.le_of_ble_eq_true rfl) ?_
        rintro _ _ ⟨rfl, hh⟩
        rcases hh with ⟨hpr, rfl⟩ | ⟨hpr, rfl⟩
        · refine if_eq hX (16) 48 (by decide +kernel) (by decide) (fun c => absurd c (by decide)) (fun c_32 => ?_)
          refine bk hX lkX12_ok (pc' := 37) [.iload_n 1, .iconst 1] (by decide +kernel) (And.intro trivial ?_)
          refine ic_le hX (13) 50 (by decide +kernel) (by decide) (fun cb => ?_) (fun cb => ?_)
          · refine z_lvk (lv' := [(0, _), (1, _), (2, _)]) [0, 1, 2] rfl ?_
            first | exact hyes X hX c1 ⟨h4, fun _ => hpr, fun z => absurd cb (i_nle.mpr z)⟩ | exact hyes X hX c1 ⟨h4, fun z => absurd z ca, fun z => absurd cb (i_nle.mpr z)⟩ | exact hyes X hX c1 ⟨h4, fun _ => hpr, fun _ => hxw⟩ | exact hyes X hX c1 ⟨h4, fun z => absurd z ca, fun _ => hxw⟩
          · refine bk hX lkX12_ok (pc' := 42) [.aload_n 0, .iload_n 2] (by decide +kernel) (And.intro trivial ?_)
            refine z_callV hX kw_X12_232 (c_M_isWorker E K N Rf I L _ hg.1 hG.1) rfl rfl rfl rfl rfl (by decide +kernel) (by decide) (by decide) (by decide) (by decide) (Nat.le_of_ble_eq_true rfl) ?_
            rintro _ _ ⟨rfl, hh⟩
            rw [← isIn_iff (by omega)] at hh
            rcases hh with ⟨hxw, rfl⟩ | ⟨hxw, rfl⟩
            · refine if_ne hX (5) 50 (by decide +kernel) (by decide) (fun c_45 => ?_) (fun c => absurd c (by decide))
              refine z_lvk (lv' := [(0, _), (1, _), (2, _)]) [0, 1, 2] rfl ?_
              first | exact hyes X hX c1 ⟨h4, fun _ => hpr, fun z => absurd cb (i_nle.mpr z)⟩ | exact hyes X hX c1 ⟨h4, fun z => absurd z ca, fun z => absurd cb (i_nle.mpr z)⟩ | exact hyes X hX c1 ⟨h4, fun _ => hpr, fun _ => hxw⟩ | exact hyes X hX c1 ⟨h4, fun z => absurd z ca, fun _ => hxw⟩
            · refine if_ne hX (5) 50 (by decide +kernel) (by decide) (fun c => absurd (by decide) c) (fun c_45 => ?_)
              refine z_lvk (lv' := [(0, _), (1, _), (2, _)]) [0, 1, 2] rfl ?_
              first | exact hno X hX c1 (fun z => h4 z.1) | exact hno X hX c1 (fun z => hpr (z.2.1 ca)) | exact hno X hX c1 (fun z => hxw (z.2.2 (i_nle.mp cb)))
        · refine if_eq hX (16) 48 (by decide +kernel) (by decide) (fun c_32 => ?_) (fun c => absurd (by decide) c)
          refine z_lvk (lv' := [(0, _), (1, _), (2, _)]) [0, 1, 2] rfl ?_
          first | exact hno X hX c1 (fun z => h4 z.1) | exact hno X hX c1 (fun z => hpr (z.2.1 ca)) | exact hno X hX c1 (fun z => hxw (z.2.2 (i_nle.mp cb)))
    · refine if_eq hX (29) 48 (by decide +kernel) (by decide) (fun c_19 => ?_) (fun c => absurd (by decide) c)
      refine z_lvk (lv' := [(0, _), (1, _), (2, _)]) [0, 1, 2] rfl ?_
      first | exact hno X hX c1 (fun z => h4 z.1) | exact hno X hX c1 (fun z => hpr (z.2.1 ca)) | exact hno X hX c1 (fun z => hxw (z.2.2 (i_nle.mp cb)))
  · refine bk hX lkX12_ok (pc' := 11) [.aload_n 0, .iconst 0, .putfield 126, .iconst 0] (by decide +kernel) (And.intro trivial ?_)
    exact z_iret hX (by decide +kernel) rfl (rfl) (by decide) (by decide) (by
  refine ⟨_, rfl, by unfold planS; rw [if_pos c1]; rfl, ?_, frX_f (by decide)⟩
  unfold planS; rw [if_pos c1]
  exact ⟨by rw [up2_self], Nat.zero_le _, fun k hk => absurd hk (Nat.not_lt_zero _)⟩)
/-- a row of the plan goes -/
def gpS (r : Nat) (g : Gv) (wh x : Nat) : Gv := if wh = 0 then dayS r g else if wh = 1 then swG g (x / 10) (x % 10) else homG g (nI x) (if wh = 2 then 1 else 0)
theorem gpS_n (r : Nat) (g : Gv) (wh x : Nat) : gn (gpS r g wh x) = gn g := by
  unfold gpS
  split
  · rfl
  · split <;> rfl
theorem gpS_d (r : Nat) (g : Gv) (wh x : Nat) : gd (gpS r g wh x) ≤ gd g + 1 := by
  unfold gpS
  split
  · exact Nat.le_refl _
  · split <;> exact Nat.le_succ _
theorem c_M_goPlan (E : zE) (K N : Nat → Nat) (Rf : Nat → Nat → Option Nat) (I : Nat → Nat → Int32) (L : Nat → Nat → Int64) {g : Gv} (hg : gwf g) (hG : mG g I) {w : Wk} {b : Nat} (hB : mHB w b I) (hd : gd g < 100000) {wh x : Nat} (hw3 : wh ≤ 3) (hx : x < 100) (h1 : wh = 1 → x / 10 < gn g ∧ x % 10 < gn g) (h2 : 2 ≤ wh → x < gn g) : zCt E mX12_goPlan 4 0 0 (sg K N Rf I L) [.ref 100, .int (nI wh), .int (nI x)] (fun r σ' => ∃ I', σ' = sg K N Rf I' L ∧ r = none ∧ gwf (gpS (rdS w) g wh x) ∧ mG (gpS (rdS w) g wh x) I' ∧ frA I I') := by
  have h6 := hg.1
  have hc : wh = 0 ∨ wh = 1 ∨ wh = 2 ∨ wh = 3 := by omega
  refine z_intro (by decide) (Nat.le_of_ble_eq_true rfl) (fun X hX => ?_)
  rcases hc with rfl | rfl | rfl | rfl
  · refine bk hX lkX12_ok (pc' := 1) [.iload_n 1] (by decide +kernel) (And.intro trivial ?_)
    refine if_ne hX (7) 8 (by decide +kernel) (by decide) (fun c => absurd (rfl) c) (fun c_1 => ?_)
    refine bk hX lkX12_ok (pc' := 5) [.aload_n 0] (by decide +kernel) (And.intro trivial ?_)
    refine z_callV hX kw_X12_331 (c_M_goDay E K N Rf I L hg hG hd hB) rfl rfl rfl rfl rfl (by decide +kernel) (by decide) (by decide) (by decide) (by decide) (Nat.le_of_ble_eq_true rfl) ?_
    rintro _ _ ⟨I2, rfl, rfl, h3, h4⟩
    refine bk hX lkX12_ok (pc' := 10) [.iload_n 1, .iconst 1] (by decide +kernel) (And.intro trivial ?_)
    refine ic_ne hX (15) 25 (by decide +kernel) (by decide) (fun c_10 => ?_) (fun c => absurd c (by decide))
    refine bk hX lkX12_ok (pc' := 27) [.iload_n 1, .iconst 1] (by decide +kernel) (And.intro trivial ?_)
    refine ic_le hX (18) 45 (by decide +kernel) (by decide) (fun c_27 => ?_) (fun c => absurd (by decide) c)
    exact z_vret hX (by decide +kernel) rfl (by decide) (by decide) (⟨I2, rfl, rfl, gwf_day hg _, h3, frA_D h6 h4⟩)
  · obtain ⟨ha, hb⟩ := h1 rfl
    refine bk hX lkX12_ok (pc' := 1) [.iload_n 1] (by decide +kernel) (And.intro trivial ?_)
    refine if_ne hX (7) 8 (by decide +kernel) (by decide) (fun c_1 => ?_) (fun c => absurd c (by decide))
    refine bk hX lkX12_ok (pc' := 10) [.iload_n 1, .iconst 1] (by decide +kernel) (And.intro trivial ?_)
    refine ic_ne hX (15) 25 (by decide +kernel) (by decide) (fun c => absurd (rfl) c) (fun c_10 => ?_)
    refine bk hX lkX12_ok (pc' := 22) [.aload_n 0, .iload_n 2, .bipush 10, .idiv, .iload_n 2, .bipush 10, .irem] (by decide +kernel) (And.intro (by decide) (And.intro (by decide) (And.intro trivial ?_)))
    have ed : nI x / nI 10 = nI (x / 10) := i_div (a := x) (d := 10) (by omega) (by decide) (by decide)
    have em : nI x - nI x / nI 10 * nI 10 = nI (x % 10) := i_mod (a := x) (d := 10) (by omega) (by decide) (by decide)
    rw [em, ed]
    refine z_callV hX kw_X12_239 (c_M_swaps E K N Rf I L (x / 10) (x % 10) (by omega) (by omega)) rfl rfl rfl rfl rfl (by decide +kernel) (by decide) (by decide) (by decide) (by decide) (Nat.le_of_ble_eq_true rfl) ?_
    rintro _ _ ⟨rfl, rfl⟩
    refine bk hX lkX12_ok (pc' := 27) [.iload_n 1, .iconst 1] (by decide +kernel) (And.intro trivial ?_)
    refine ic_le hX (18) 45 (by decide +kernel) (by decide) (fun c_27 => ?_) (fun c => absurd (by decide) c)
    exact z_vret hX (by decide +kernel) rfl (by decide) (by decide) (⟨_, rfl, rfl, gwf_sw hg ha hb, mG_sw hg hG ha hb, frA_sw (by omega) (by omega)⟩)
  · refine bk hX lkX12_ok (pc' := 1) [.iload_n 1] (by decide +kernel) (And.intro trivial ?_)
    refine if_ne hX (7) 8 (by decide +kernel) (by decide) (fun c_1 => ?_) (fun c => absurd c (by decide))
    refine bk hX lkX12_ok (pc' := 10) [.iload_n 1, .iconst 1] (by decide +kernel) (And.intro trivial ?_)
    refine ic_ne hX (15) 25 (by decide +kernel) (by decide) (fun c_10 => ?_) (fun c => absurd c (by decide))
    refine bk hX lkX12_ok (pc' := 27) [.iload_n 1, .iconst 1] (by decide +kernel) (And.intro trivial ?_)
    refine ic_le hX (18) 45 (by decide +kernel) (by decide) (fun c => absurd c (by decide)) (fun c_27 => ?_)
    refine bk hX lkX12_ok (pc' := 34) [.aload_n 0, .iload_n 2, .iload_n 1, .iconst 2] (by decide +kernel) (And.intro trivial ?_)
    refine ic_ne hX (7) 41 (by decide +kernel) (by decide) (fun c => absurd (rfl) c) (fun c_34 => ?_)
    refine bk hX lkX12_ok (pc' := 38) [.iconst 1] (by decide +kernel) (And.intro trivial ?_)
    refine gt_ hX (4) 42 (by decide +kernel) (by decide) ?_
    refine z_callV hX kw_X12_243 (c_M_rests E K N Rf I L _ _) rfl rfl rfl rfl rfl (by decide +kernel) (by decide) (by decide) (by decide) (by decide) (Nat.le_of_ble_eq_true rfl) ?_
    rintro _ _ ⟨rfl, rfl⟩
    exact z_vret hX (by decide +kernel) rfl (by decide) (by decide) (⟨_, rfl, rfl, gwf_hom hg _ _, mG_hom hG (nI x) (nI 1), frA_hom _⟩)
  · refine bk hX lkX12_ok (pc' := 1) [.iload_n 1] (by decide +kernel) (And.intro trivial ?_)
    refine if_ne hX (7) 8 (by decide +kernel) (by decide) (fun c_1 => ?_) (fun c => absurd c (by decide))
    refine bk hX lkX12_ok (pc' := 10) [.iload_n 1, .iconst 1] (by decide +kernel) (And.intro trivial ?_)
    refine ic_ne hX (15) 25 (by decide +kernel) (by decide) (fun c_10 => ?_) (fun c => absurd c (by decide))
    refine bk hX lkX12_ok (pc' := 27) [.iload_n 1, .iconst 1] (by decide +kernel) (And.intro trivial ?_)
    refine ic_le hX (18) 45 (by decide +kernel) (by decide) (fun c => absurd c (by decide)) (fun c_27 => ?_)
    refine bk hX lkX12_ok (pc' := 34) [.aload_n 0, .iload_n 2, .iload_n 1, .iconst 2] (by decide +kernel) (And.intro trivial ?_)
    refine ic_ne hX (7) 41 (by decide +kernel) (by decide) (fun c_34 => ?_) (fun c => absurd c (by decide))
    refine bk hX lkX12_ok (pc' := 42) [.iconst 0] (by decide +kernel) (And.intro trivial ?_)
    refine z_callV hX kw_X12_243 (c_M_rests E K N Rf I L _ _) rfl rfl rfl rfl rfl (by decide +kernel) (by decide) (by decide) (by decide) (by decide) (Nat.le_of_ble_eq_true rfl) ?_
    rintro _ _ ⟨rfl, rfl⟩
    exact z_vret hX (by decide +kernel) rfl (by decide) (by decide) (⟨_, rfl, rfl, gwf_hom hg _ _, mG_hom hG (nI x) (nI 0), frA_hom _⟩)
/-- the gate behind the first k rows of the plan -/
def epN (r : Nat) (s : Rw) (g : Gv) : Nat → Gv
  | 0 => g
  | k + 1 => gpS r (epN r s g k) (s.2.1 k) (s.2.2.1 k)
theorem epN_n (r : Nat) (s : Rw) (g : Gv) : ∀ k, gn (epN r s g k) = gn g
  | 0 => rfl
  | k + 1 => (gpS_n r _ _ _).trans (epN_n r s g k)
theorem epN_d (r : Nat) (s : Rw) (g : Gv) : ∀ k, gd (epN r s g k) ≤ gd g + k
  | 0 => Nat.le_refl _
  | k + 1 => by
    have h1 := gpS_d r (epN r s g k) (s.2.1 k) (s.2.2.1 k)
    have h2 := epN_d r s g k
    show gd (gpS r (epN r s g k) (s.2.1 k) (s.2.2.1 k)) ≤ _
    omega
def endS (g : Gv) (w : Wk) (s : Rw) (wh : Int32) : Int32 := if isIn wh 2 = true then (if wh = 0 then nI (ahN (epN (rdS w) s g s.1) (gn g)) else atN (epN (rdS w) s g s.1) w (gn g)) else -nI 1001
set_option maxHeartbeats 2000000 in
theorem c_M_ends (E : zE) (K N : Nat → Nat) (Rf : Nat → Nat → Option Nat) (I : Nat → Nat → Int32) (L : Nat → Nat → Int64) {g : Gv} (hg : gwf g) (hG : mG g I) {w : Wk} {b : Nat} (hB : mHB w b I) (hd : gd g ≤ 90000) {s : Rw} (hs : mPl s I) (hws : wPl s g) (wh : Int32) : zCt E mX12_ends 7 0 0 (sg K N Rf I L) [.ref 100, .int wh] (fun r σ' => ∃ I', σ' = sg K N Rf I' L ∧ r = some (.int (endS g w s wh)) ∧ sE I I') := by
  have h6 := hg.1
  have hs5 := hs.2.1
  have hsv := sE_sv I
  have hB0 := mHB_sE hB hsv
  refine z_intro (by decide) (Nat.le_of_ble_eq_true rfl) (fun X hX => ?_)
  have hl : isIn wh 2 = true → ∀ m k (I1 : Nat → Nat → Int32), k + m = s.1 → gwf (epN (rdS w) s g k) → mG (epN (rdS w) s g k) I1 → frA (svI I 6) I1 → zS X (sg K N Rf I1 L) 0 0 20 [(0, .ref 100), (1, .int wh), (2, .int (nI k))] [] := by
    intro hwh m
    induction m with
    | zero =>
      intro k I1 hk hgk h1 h2
      obtain rfl : k = s.1 := by omega
      have e0 : I1 100 38 = nI s.1 := by rw [h2.2.1 _ (by decide) (by decide), hsv.2 _ (by decide)]; exact hs.1
      have hnk := epN_n (rdS w) s g s.1
      have hdk := epN_d (rdS w) s g s.1
      refine bk hX lkX12_ok (pc' := 25) [.iload_n 2, .aload_n 0, .getfield 126] (by decide +kernel) (And.intro trivial ?_)
      rw [e0]
      refine ic_ge hX (25) 50 (by decide +kernel) (by decide) (fun c_25 => ?_) (fun c => absurd (nI_le (by omega) (by omega)) c)
      refine bk hX lkX12_ok (pc' := 51) [.iload_n 1] (by decide +kernel) (And.intro trivial ?_)
      refine if_ne hX (10) 61 (by decide +kernel) (by decide) (fun cw => ?_) (fun cw => ?_)
      · refine bk hX lkX12_ok (pc' := 62) [.aload_n 0] (by decide +kernel) (And.intro trivial ?_)
        refine z_callV hX kw_X12_352 (c_M_allTemper E K N Rf I1 L hgk h1 (by omega) (mHB_frA hB0 h2)) rfl rfl rfl rfl rfl (by decide +kernel) (by decide) (by decide) (by decide) (by decide) (Nat.le_of_ble_eq_true rfl) ?_
        rintro _ _ ⟨I2, rfl, q3, rfl⟩
        refine bk hX lkX12_ok (pc' := 67) [.istore_n 2, .aload_n 0] (by decide +kernel) (And.intro trivial ?_)
        refine z_callV hX kw_X12_346 (c_M_putBack E K N Rf _ L) rfl rfl rfl rfl rfl (by decide +kernel) (by decide) (by decide) (by decide) (by decide) (Nat.le_of_ble_eq_true rfl) ?_
        rintro _ _ ⟨rfl, rfl⟩
        refine bk hX lkX12_ok (pc' := 71) [.iload_n 2] (by decide +kernel) (And.intro trivial ?_)
        exact z_iret hX (by decide +kernel) rfl (rfl) (by decide) (by decide) (by first | exact ⟨_, rfl, by unfold endS; rw [if_pos hwh, if_pos cw, hnk], ask_back h2⟩ | exact ⟨_, rfl, by unfold endS; rw [if_pos hwh, if_neg cw, hnk], ask_back (frA_tr h2 (frA_pile q3))⟩)
      · refine bk hX lkX12_ok (pc' := 55) [.aload_n 0] (by decide +kernel) (And.intro trivial ?_)
        refine z_callV hX kw_X12_343 (c_M_allHoles E K N Rf I1 L hgk h1) rfl rfl rfl rfl rfl (by decide +kernel) (by decide) (by decide) (by decide) (by decide) (Nat.le_of_ble_eq_true rfl) ?_
        rintro _ _ ⟨rfl, rfl⟩
        refine gt_ hX (7) 65 (by decide +kernel) (by decide) ?_
        refine bk hX lkX12_ok (pc' := 67) [.istore_n 2, .aload_n 0] (by decide +kernel) (And.intro trivial ?_)
        refine z_callV hX kw_X12_346 (c_M_putBack E K N Rf _ L) rfl rfl rfl rfl rfl (by decide +kernel) (by decide) (by decide) (by decide) (by decide) (Nat.le_of_ble_eq_true rfl) ?_
        rintro _ _ ⟨rfl, rfl⟩
        refine bk hX lkX12_ok (pc' := 71) [.iload_n 2] (by decide +kernel) (And.intro trivial ?_)
        exact z_iret hX (by decide +kernel) rfl (rfl) (by decide) (by decide) (by first | exact ⟨_, rfl, by unfold endS; rw [if_pos hwh, if_pos cw, hnk], ask_back h2⟩ | exact ⟨_, rfl, by unfold endS; rw [if_pos hwh, if_neg cw, hnk], ask_back (frA_tr h2 (frA_pile q3))⟩)
    | succ m ih =>
      intro k I1 hk hgk h1 h2
      have e0 : I1 100 38 = nI s.1 := by rw [h2.2.1 _ (by decide) (by decide), hsv.2 _ (by decide)]; exact hs.1
      obtain ⟨k1, k2⟩ := hs.2.2 k (by omega)
      obtain ⟨l1, l2, l3, l4⟩ := hws k (by omega)
      have hnk := epN_n (rdS w) s g k
      have hdk := epN_d (rdS w) s g k
      have f1 : I1 141 k = nI (s.2.1 k) := by rw [h2.1 _ (by decide) (by decide) (by decide) (by decide) (by decide), hsv.1 _ (by decide) (by decide)]; exact k1
      have f2 : I1 142 k = nI (s.2.2.1 k) := by rw [h2.1 _ (by decide) (by decide) (by decide) (by decide) (by decide), hsv.1 _ (by decide) (by decide)]; exact k2
      refine bk hX lkX12_ok (pc' := 25) [.iload_n 2, .aload_n 0, .getfield 126] (by decide +kernel) (And.intro trivial ?_)
      rw [e0]
      refine ic_ge hX (25) 50 (by decide +kernel) (by decide) (fun c => absurd c (nI_ge (by omega) (by omega))) (fun c_25 => ?_)
      refine bk hX lkX12_ok (pc' := 41) [.aload_n 0, .aload_n 0, .getfield 132, .iload_n 2, .iaload, .aload_n 0, .getfield 135, .iload_n 2, .iaload] (by decide +kernel) (And.intro (by exact vin 10 (by omega)) (And.intro (by exact vin 10 (by omega)) (And.intro trivial ?_)))
      rw [cl (by omega), show I1 (101 + 40) k = _ from f1, show I1 (101 + 41) k = _ from f2]
      refine z_callV hX kw_X12_385 (c_M_goPlan E K N Rf I1 L hgk h1 (mHB_frA hB0 h2) (by omega) l1 l2 (by rw [hnk]; exact l3) (by rw [hnk]; exact l4)) rfl rfl rfl rfl rfl (by decide +kernel) (by decide) (by decide) (by decide) (by decide) (Nat.le_of_ble_eq_true rfl) ?_
      rintro _ _ ⟨I2, rfl, rfl, h3, h4, h5⟩
      refine bk hX lkX12_ok (pc' := 47) [.iinc 2 1] (by decide +kernel) (And.intro trivial ?_)
      refine gt_ hX (-27) 20 (by decide +kernel) (by decide) ?_
      refine z_lvk (lv' := [(0, _), (1, _), (2, _)]) [1, 2, 0] rfl ?_
      rw [nI_add]
      exact ih (k + 1) I2 (by omega) h3 h4 (frA_tr h2 h5)
  refine bk hX lkX12_ok (pc' := 4) [.aload_n 0, .iload_n 1, .iconst 0, .iconst 1] (by decide +kernel) (And.intro trivial ?_)
  refine z_callV hX kw_X12_228 (c_M_in E _ _ _ _ _) rfl rfl rfl rfl rfl (by decide +kernel) (by decide) (by decide) (by decide) (by decide) (Nat.le_of_ble_eq_true rfl) ?_
  rintro _ _ ⟨rfl, hh⟩
  rw [in_ix 1 (by decide)] at hh
  rcases hh with ⟨hwh, rfl⟩ | ⟨hwh, rfl⟩
  · refine if_ne hX (7) 14 (by decide +kernel) (by decide) (fun c_7 => ?_) (fun c => absurd c (by decide))
    refine bk hX lkX12_ok (pc' := 15) [.aload_n 0] (by decide +kernel) (And.intro trivial ?_)
    refine z_callV hX kw_X12_340 (c_M_save E K N Rf I L) rfl rfl rfl rfl rfl (by decide +kernel) (by decide) (by decide) (by decide) (by decide) (Nat.le_of_ble_eq_true rfl) ?_
    rintro _ _ ⟨rfl, rfl⟩
    refine bk hX lkX12_ok (pc' := 20) [.iconst 0, .istore_n 2] (by decide +kernel) (And.intro trivial ?_)
    refine z_lvk (lv' := [(0, _), (1, _), (2, _)]) [1, 2, 0] rfl ?_
    exact hl hwh s.1 0 (svI I 6) (by omega) hg (mG_sE hG hsv) (frA_rf _)
  · refine if_ne hX (7) 14 (by decide +kernel) (by decide) (fun c => absurd (by decide) c) (fun c_7 => ?_)
    refine bk hX lkX12_ok (pc' := 13) [.sipush (Int.negSucc 1000)] (by decide +kernel) (And.intro trivial ?_)
    exact z_iret hX (by decide +kernel) rfl (rfl) (by decide) (by decide) (⟨I, rfl, by unfold endS; rw [if_neg hwh], sE_rf _⟩)
def bookS (s : Rw) (n : Nat) (c h : Int32) : Int32 × Rw := if c = -nI 1 then (0, (0, s.2)) else if isIn c n = true then (if isIn h 1024 = true then (if s.1 = 8 then (-nI 4, s) else (nI (s.1 + 1), (s.1 + 1, upN s.2.1 s.1 (jx c), upN s.2.2.1 s.1 (jx h), s.2.2.2))) else (-nI 2, s)) else (-nI 1, s)
theorem c_M_book (E : zE) (K N : Nat → Nat) (Rf : Nat → Nat → Option Nat) (I : Nat → Nat → Int32) (L : Nat → Nat → Int64) {g : Gv} (hg : gwf g) (hG : mG g I) {s : Rw} (hs : mBk s I) (c h : Int32) : zCt E mX12_book 2 0 0 (sg K N Rf I L) [.ref 100, .int c, .int h] (fun r σ' => ∃ I', σ' = sg K N Rf I' L ∧ r = some (.int (bookS s (gn g) c h).1) ∧ mBk (bookS s (gn g) c h).2 I' ∧ frX [143, 144] [39] I I') := by
  have h6 := hg.1
  obtain ⟨hs0, hs5, hsk⟩ := hs
  refine z_intro (by decide) (Nat.le_of_ble_eq_true rfl) (fun X hX => ?_)
  refine bk hX lkX12_ok (pc' := 2) [.iload_n 1, .iconst (Int.negSucc 0)] (by decide +kernel) (And.intro trivial ?_)
  refine ic_ne hX (10) 12 (by decide +kernel) (by decide) (fun c1 => ?_) (fun c1 => ?_)
  · refine bk hX lkX12_ok (pc' := 14) [.aload_n 0, .iload_n 1] (by decide +kernel) (And.intro trivial ?_)
    refine z_callV hX kw_X12_232 (c_M_isWorker E K N Rf I L _ hg.1 hG.1) rfl rfl rfl rfl rfl (by decide +kernel) (by decide) (by decide) (by decide) (by decide) (Nat.le_of_ble_eq_true rfl) ?_
    rintro _ _ ⟨rfl, hh⟩
    rw [← isIn_iff (by omega)] at hh
    rcases hh with ⟨hc, rfl⟩ | ⟨hc, rfl⟩
    · refine if_ne hX (5) 22 (by decide +kernel) (by decide) (fun c_17 => ?_) (fun c => absurd c (by decide))
      refine bk hX lkX12_ok (pc' := 24) [.aload_n 0, .iload_n 2] (by decide +kernel) (And.intro trivial ?_)
      refine z_callV hX kw_X12_236 (c_M_isHoles E _ rfl _) rfl rfl rfl rfl rfl (by decide +kernel) (by decide) (by decide) (by decide) (by decide) (Nat.le_of_ble_eq_true rfl) ?_
      rintro _ _ ⟨rfl, hh⟩
      rw [hol_in] at hh
      rcases hh with ⟨hh1, rfl⟩ | ⟨hh1, rfl⟩
      · refine if_ne hX (6) 33 (by decide +kernel) (by decide) (fun c_27 => ?_) (fun c => absurd c (by decide))
        refine bk hX lkX12_ok (pc' := 39) [.aload_n 0, .getfield 129, .bipush 8] (by decide +kernel) (And.intro trivial ?_)
        rw [hs0]
        refine ic_ne hX (6) 45 (by decide +kernel) (by decide) (fun c5 => ?_) (fun c5 => ?_)
        · have e5 : ¬ s.1 = 8 := fun z => c5 (by rw [z])
          obtain ⟨c, hcn, rfl⟩ := (isIn_iff (by omega)).mp hc
          obtain ⟨x, hx, rfl⟩ := (isIn_iff (by omega)).mp hh1
          have cs : (nI s.1).toNatClampNeg = s.1 := cl (by omega)
          refine bk hX lkX12_ok (pc' := 79) [.aload_n 0, .getfield 138, .aload_n 0, .getfield 129, .iload_n 1, .iastore, .aload_n 0, .getfield 141, .aload_n 0, .getfield 129, .iload_n 2, .iastore, .aload_n 0, .dup, .getfield 129, .iconst 1, .iadd, .putfield 129, .aload_n 0, .getfield 129] (by decide +kernel) (And.intro (by rw [hs0]; exact vin 8 (by omega)) (And.intro (by (show vp_in (up2 I 143 _ _ 100 39) _; rw [up2_ne _ _ _ (by decide), hs0]; exact vin 8 (by omega))) (And.intro trivial ?_)))
          exact z_iret hX (by decide +kernel) rfl (rfl) (by decide) (by decide) (by
  refine ⟨_, rfl, ?_, ?_, frX_tr (frX_tr (frX_at (by decide) (by decide)) (frX_at (by decide) (by decide))) (frX_f (by decide))⟩
  · unfold bookS; rw [if_neg c1, if_pos hc, if_pos hh1, if_neg e5]
    simp [up2_v, hs0, nI_add]
  · unfold bookS; rw [if_neg c1, if_pos hc, if_pos hh1, if_neg e5, jx_nI (by omega), jx_nI (by omega)]
    refine ⟨by simp [up2_v, hs0, nI_add], by show s.1 + 1 ≤ 8; omega, fun k hk => ?_⟩
    by_cases hk2 : k = s.1
    · subst hk2
      simp [up2_v, hs0, cs, upN]
    · have hk3 : k < s.1 + 1 := hk
      have hk4 := hsk k (by omega)
      simp [up2_v, hs0, cs, upN, hk2, hk4])
        · refine bk hX lkX12_ok (pc' := 44) [.bipush (Int.negSucc 3)] (by decide +kernel) (And.intro trivial ?_)
          exact z_iret hX (by decide +kernel) rfl (rfl) (by decide) (by decide) (by have e5 : s.1 = 8 := nI_inj (b := 8) (by omega) (by decide) c5; exact ⟨I, rfl, by unfold bookS; rw [if_neg c1, if_pos hc, if_pos hh1, if_pos e5], by unfold bookS; rw [if_neg c1, if_pos hc, if_pos hh1, if_pos e5]; exact ⟨hs0, hs5, hsk⟩, frX_rf _ _ _⟩)
      · refine if_ne hX (6) 33 (by decide +kernel) (by decide) (fun c => absurd (by decide) c) (fun c_27 => ?_)
        refine bk hX lkX12_ok (pc' := 32) [.bipush (Int.negSucc 1)] (by decide +kernel) (And.intro trivial ?_)
        exact z_iret hX (by decide +kernel) rfl (rfl) (by decide) (by decide) (⟨I, rfl, by unfold bookS; rw [if_neg c1, if_pos hc, if_neg hh1], by unfold bookS; rw [if_neg c1, if_pos hc, if_neg hh1]; exact ⟨hs0, hs5, hsk⟩, frX_rf _ _ _⟩)
    · refine if_ne hX (5) 22 (by decide +kernel) (by decide) (fun c => absurd (by decide) c) (fun c_17 => ?_)
      refine bk hX lkX12_ok (pc' := 21) [.iconst (Int.negSucc 0)] (by decide +kernel) (And.intro trivial ?_)
      exact z_iret hX (by decide +kernel) rfl (rfl) (by decide) (by decide) (⟨I, rfl, by unfold bookS; rw [if_neg c1, if_neg hc], by unfold bookS; rw [if_neg c1, if_neg hc]; exact ⟨hs0, hs5, hsk⟩, frX_rf _ _ _⟩)
  · refine bk hX lkX12_ok (pc' := 11) [.aload_n 0, .iconst 0, .putfield 129, .iconst 0] (by decide +kernel) (And.intro trivial ?_)
    exact z_iret hX (by decide +kernel) rfl (rfl) (by decide) (by decide) (by
  refine ⟨_, rfl, by unfold bookS; rw [if_pos c1]; rfl, ?_, frX_f (by decide)⟩
  unfold bookS; rw [if_pos c1]
  exact ⟨by rw [up2_self], Nat.zero_le _, fun k hk => absurd hk (Nat.not_lt_zero _)⟩)
def lokL (g : Gv) (s : Rw) : Nat → Nat → Int32
  | 0, _ => -nI 5
  | m + 1, k => if gh g (s.2.1 k) = s.2.2.1 k then lokL g s m (k + 1) else nI k
theorem c_M_looked (E : zE) (K N : Nat → Nat) (Rf : Nat → Nat → Option Nat) (I : Nat → Nat → Int32) (L : Nat → Nat → Int64) {g : Gv} (hg : gwf g) (hG : mG g I) {s : Rw} (hs : mBk s I) (hws : wBk s g) : zCt E mX12_looked 0 0 0 (sg K N Rf I L) [.ref 100] (fun r σ' => σ' = (sg K N Rf I L) ∧ r = some (.int (lokL g s s.1 0))) := by
  have h6 := hg.1
  obtain ⟨hs0, hs5, hsk⟩ := hs
  refine z_intro (by decide) (Nat.le_of_ble_eq_true rfl) (fun X hX => ?_)
  have hl : ∀ m k, k + m = s.1 → lokL g s m k = lokL g s s.1 0 → zS X (sg K N Rf I L) 0 0 2 [(0, .ref 100), (1, .int (nI k))] [] := by
    intro m
    induction m with
    | zero =>
      intro k hk hf
      obtain rfl : k = s.1 := by omega
      refine bk hX lkX12_ok (pc' := 7) [.iload_n 1, .aload_n 0, .getfield 129] (by decide +kernel) (And.intro trivial ?_)
      rw [hs0]
      refine ic_ge hX (31) 38 (by decide +kernel) (by decide) (fun c_7 => ?_) (fun c => absurd (nI_le (by omega) (by omega)) c)
      refine bk hX lkX12_ok (pc' := 40) [.bipush (Int.negSucc 4)] (by decide +kernel) (And.intro trivial ?_)
      exact z_iret hX (by decide +kernel) rfl (rfl) (by decide) (by decide) (by rw [← hf]; exact ⟨rfl, rfl⟩)
    | succ m ih =>
      intro k hk hf
      obtain ⟨k1, k2⟩ := hsk k (by omega)
      obtain ⟨l1, l2⟩ := hws k (by omega)
      have hgl := (hg.2.1 _ l1).2.2.2.1
      have ck : (nI k).toNatClampNeg = k := cl (by omega)
      have hf' : (if gh g (s.2.1 k) = s.2.2.1 k then lokL g s m (k + 1) else nI k) = lokL g s s.1 0 := hf
      refine bk hX lkX12_ok (pc' := 7) [.iload_n 1, .aload_n 0, .getfield 129] (by decide +kernel) (And.intro trivial ?_)
      rw [hs0]
      refine ic_ge hX (31) 38 (by decide +kernel) (by decide) (fun c => absurd c (nI_ge (by omega) (by omega))) (fun c_7 => ?_)
      refine bk hX lkX12_ok (pc' := 27) [.aload_n 0, .getfield 29, .aload_n 0, .getfield 138, .iload_n 1, .iaload, .iaload, .aload_n 0, .getfield 141, .iload_n 1, .iaload] (by decide +kernel) (And.intro (by exact vin 8 (by omega)) (And.intro (by rw [ck, show I (101 + 42) k = _ from k1]; exact vin 6 (by omega)) (And.intro (by exact vin 8 (by omega)) (And.intro trivial ?_))))
      rw [ck, show I (101 + 42) k = _ from k1, cl (by omega), show I (101 + 6) (s.2.1 k) = _ from mG_gh hG l1, show I (101 + 43) k = _ from k2]
      refine ic_eq hX (5) 32 (by decide +kernel) (by decide) (fun ce => ?_) (fun ce => ?_)
      · refine bk hX lkX12_ok (pc' := 35) [.iinc 1 1] (by decide +kernel) (And.intro trivial ?_)
        refine gt_ hX (-33) 2 (by decide +kernel) (by decide) ?_
        refine z_lvk (lv' := [(0, _), (1, _)]) [1, 0] rfl ?_
        rw [if_pos (nI_inj (by omega) (by omega) ce)] at hf'
        rw [nI_add]
        exact ih (k + 1) (by omega) hf'
      · refine bk hX lkX12_ok (pc' := 31) [.iload_n 1] (by decide +kernel) (And.intro trivial ?_)
        exact z_iret hX (by decide +kernel) rfl (rfl) (by decide) (by decide) (by rw [if_neg (fun z => ce (by rw [z]))] at hf'; rw [← hf']; exact ⟨rfl, rfl⟩)
  refine bk hX lkX12_ok (pc' := 2) [.iconst 0, .istore_n 1] (by decide +kernel) (And.intro trivial ?_)
  refine z_lvk (lv' := [(0, _), (1, _)]) [1, 0] rfl ?_
  exact hl s.1 0 (by omega) rfl
