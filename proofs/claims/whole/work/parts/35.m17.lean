/-- one more worker -/
def hireG (g : Gv) (k v : Nat) : Gv := (gn g + 1, upN (gk g) (gn g) k, upN (gv g) (gn g) v, upN (gc g) (gn g) (gn g), upN (gh g) (gn g) 0, (fun j => if j / 4 = gn g then 0 else gr g j), rstS (ga g) (nI (gn g)) 0, gd g)
def workS (g : Gv) (k v : Int32) : Int32 × Gv := if isIn k 7 = true then (if isIn v 10 = true then (if gn g = 6 then (-nI 4, g) else (nI (gn g), hireG g (jx k) (jx v))) else (-nI 2, g)) else (-nI 1, g)
theorem gwf_hire {g : Gv} (hg : gwf g) (hn : gn g < 6) {k v : Nat} (hk : k ≤ 6) (hv : v ≤ 9) : gwf (hireG g k v) := by
  obtain ⟨a1, a2, a3⟩ := hg
  refine ⟨by show gn g + 1 ≤ 6; omega, fun p hp => ?_, fun p q hp hq => ?_⟩
  · have hp' : p < gn g + 1 := hp
    show upN (gk g) (gn g) k p ≤ 6 ∧ upN (gv g) (gn g) v p ≤ 9 ∧ upN (gc g) (gn g) (gn g) p < gn g + 1 ∧ upN (gh g) (gn g) 0 p < 1024 ∧ ∀ j, j < 4 → (if (4 * p + j) / 4 = gn g then 0 else gr g (4 * p + j)) ≤ 9
    by_cases e : p = gn g
    · subst e
      refine ⟨by rw [upN_at]; exact hk, by rw [upN_at]; exact hv, by rw [upN_at]; omega, by rw [upN_at]; omega, fun j hj => ?_⟩
      rw [if_pos (by omega)]; omega
    · have h := a2 p (by omega)
      refine ⟨by rw [upN_ne _ _ e]; exact h.1, by rw [upN_ne _ _ e]; exact h.2.1, by rw [upN_ne _ _ e]; have := h.2.2.1; omega, by rw [upN_ne _ _ e]; exact h.2.2.2.1, fun j hj => ?_⟩
      rw [if_neg (by omega)]; exact h.2.2.2.2 j hj
  · have hp' : p < gn g + 1 := hp
    have hq' : q < gn g + 1 := hq
    show upN (gc g) (gn g) (gn g) p = upN (gc g) (gn g) (gn g) q → p = q
    by_cases e : p = gn g <;> by_cases e2 : q = gn g
    · intro _; omega
    · have := (a2 q (by omega)).2.2.1
      subst e
      rw [upN_at, upN_ne _ _ e2]
      omega
    · have := (a2 p (by omega)).2.2.1
      subst e2
      rw [upN_at, upN_ne _ _ e]
      omega
    · rw [upN_ne _ _ e, upN_ne _ _ e2]
      exact a3 p q (by omega) (by omega)
set_option maxHeartbeats 2000000 in
theorem c_M_worker (E : zE) (K N : Nat → Nat) (Rf : Nat → Nat → Option Nat) (I : Nat → Nat → Int32) (L : Nat → Nat → Int64) {g : Gv} (hg : gwf g) (hG : mG g I) (x y : Int32) : zCt E mX12_worker 1 0 0 (sg K N Rf I L) [.ref 100, .int x, .int y] (fun r σ' => ∃ I', σ' = sg K N Rf I' L ∧ r = some (.int (workS g x y).1) ∧ mG (workS g x y).2 I' ∧ frG I I') := by
  have h6 := hg.1
  have cn : (nI (gn g)).toNatClampNeg = gn g := cl (by omega)
  refine z_intro (by decide) (Nat.le_of_ble_eq_true rfl) (fun X hX => ?_)
  have hl : ∀ k v, gn g ≠ 6 → k < 7 → v < 10 → workS g x y = (nI (gn g), hireG g k v) → ∀ m i (I1 : Nat → Nat → Int32), i + m = 4 → (∀ q j, ¬ (q = 108 ∧ 4 * gn g ≤ j ∧ j < 4 * gn g + 4) → I1 q j = up2 (up2 (up2 (up2 (up2 I 104 (gn g) (nI k)) 105 (gn g) (nI v)) 106 (gn g) (nI (gn g))) 107 (gn g) 0) 100 1 (rstS (ga g) (nI (gn g)) 0) q j) → (∀ j, j < i → I1 108 (4 * gn g + j) = nI 0) → frG I I1 → zS X (sg K N Rf I1 L) 0 0 101 [(0, .ref 100), (1, .int x), (2, .int y), (3, .int (nI i))] [] := by
    intro k v hn6 hk hv hS m
    induction m with
    | zero =>
      intro i I1 hi h1 h2 h3
      obtain rfl : i = 4 := by omega
      have e0 : I1 100 0 = nI (gn g) := by rw [h1 _ _ (by omega)]; simp [up2_v, hG.1]
      refine bk hX lkX12_ok (pc' := 103) [.iload_n 3, .iconst 4] (by decide +kernel) (And.intro trivial ?_)
      refine ic_ge hX (23) 126 (by decide +kernel) (by decide) (fun c_103 => ?_) (fun c => absurd (by decide) c)
      refine bk hX lkX12_ok (pc' := 133) [.aload_n 0, .dup, .getfield 7, .iconst 1, .iadd] (by decide +kernel) (And.intro trivial ?_)
      rw [e0, nI_add]
      refine bk hX lkX12_ok (pc' := 142) [.putfield 7, .aload_n 0, .getfield 7, .iconst 1, .isub] (by decide +kernel) (And.intro trivial ?_)
      exact z_iret hX (by decide +kernel) rfl (rfl) (by decide) (by decide) (by
  rw [hS]
  refine ⟨_, rfl, by rw [up2_self, i_m1 (n := gn g + 1) (by omega)]; rfl, ?_, frG_tr h3 (frG_f (by decide))⟩
  obtain ⟨g1, g2, g3, g4⟩ := hG
  refine ⟨by rw [up2_self]; rfl, ?_, ?_, fun p hp => ?_⟩
  · rw [up2_v, if_neg (by omega), h1 _ _ (by omega)]; simp [up2_v]; rfl
  · rw [up2_v, if_neg (by omega), h1 _ _ (by omega)]; simp [up2_v, g3]; rfl
  · have hp' : p < gn g + 1 := hp
    show _ = nI (upN (gk g) (gn g) k p) ∧ _ = nI (upN (gv g) (gn g) v p) ∧ _ = nI (upN (gc g) (gn g) (gn g) p) ∧ _ = nI (upN (gh g) (gn g) 0 p) ∧ ∀ j, j < 4 → _ = nI (if (4 * p + j) / 4 = gn g then 0 else gr g (4 * p + j))
    by_cases e : p = gn g
    · subst e
      refine ⟨?_, ?_, ?_, ?_, fun j hj => ?_⟩
      · rw [up2_v, if_neg (by omega), h1 _ _ (by omega), upN_at]; simp [up2_v]
      · rw [up2_v, if_neg (by omega), h1 _ _ (by omega), upN_at]; simp [up2_v]
      · rw [up2_v, if_neg (by omega), h1 _ _ (by omega), upN_at]; simp [up2_v]
      · rw [up2_v, if_neg (by omega), h1 _ _ (by omega), upN_at]; simp [up2_v]; rfl
      · rw [up2_v, if_neg (by omega), if_pos (by omega)]; exact h2 j hj
    · obtain ⟨k1, k2, k3, k4, k5⟩ := g4 p (by omega)
      refine ⟨?_, ?_, ?_, ?_, fun j hj => ?_⟩
      · rw [up2_v, if_neg (by omega), h1 _ _ (by omega), upN_ne _ _ e]; simp [up2_v, e, k1]
      · rw [up2_v, if_neg (by omega), h1 _ _ (by omega), upN_ne _ _ e]; simp [up2_v, e, k2]
      · rw [up2_v, if_neg (by omega), h1 _ _ (by omega), upN_ne _ _ e]; simp [up2_v, e, k3]
      · rw [up2_v, if_neg (by omega), h1 _ _ (by omega), upN_ne _ _ e]; simp [up2_v, e, k4]
      · rw [up2_v, if_neg (by omega), if_neg (by omega), h1 _ _ (by omega)]; simp [up2_v, k5 j hj])
    | succ m ih =>
      intro i I1 hi h1 h2 h3
      have e0 : I1 100 0 = nI (gn g) := by rw [h1 _ _ (by omega)]; simp [up2_v, hG.1]
      have ci : (nI (4 * gn g + i)).toNatClampNeg = 4 * gn g + i := cl (by omega)
      refine bk hX lkX12_ok (pc' := 103) [.iload_n 3, .iconst 4] (by decide +kernel) (And.intro trivial ?_)
      refine ic_ge hX (23) 126 (by decide +kernel) (by decide) (fun c => absurd c (nI_ge (a := i) (b := 4) (by omega) (by decide))) (fun c_103 => ?_)
      refine bk hX lkX12_ok (pc' := 123) [.aload_n 0, .getfield 32, .iconst 4, .aload_n 0, .getfield 7, .imul, .iload_n 3, .iadd, .iconst 0, .iastore, .iinc 3 1] (by decide +kernel) (And.intro (by rw [e0, show nI 4 * nI (gn g) = nI (4 * gn g) from pk_mul _ _, nI_add]; exact vin 24 (by omega)) (And.intro trivial ?_))
      refine gt_ hX (-22) 101 (by decide +kernel) (by decide) ?_
      refine z_lvk (lv' := [(0, _), (1, _), (2, _), (3, _)]) [1, 2, 3, 0] rfl ?_
      rw [e0, show nI 4 * nI (gn g) = nI (4 * gn g) from pk_mul _ _, nI_add, nI_add, ci]
      exact ih (i + 1) _ (by omega) (fun q j hq => by rw [up2_v, if_neg (by omega)]; exact h1 q j hq) (fun j hj => by
        rw [up2_v]
        split
        · rfl
        · exact h2 j (by omega)) (frG_tr h3 (frG_at (by decide)))
  refine bk hX lkX12_ok (pc' := 5) [.aload_n 0, .iload_n 1, .iconst 0, .bipush 6] (by decide +kernel) (And.intro trivial ?_)
  refine z_callV hX kw_X12_228 (c_M_in E _ _ _ _ _) rfl rfl rfl rfl rfl (by decide +kernel) (by decide) (by decide) (by decide) (by decide) (Nat.le_of_ble_eq_true rfl) ?_
  rintro _ _ ⟨rfl, hh⟩
  rw [in_ix 6 (by decide)] at hh
  rcases hh with ⟨hx, rfl⟩ | ⟨hx, rfl⟩
  · refine if_ne hX (5) 13 (by decide +kernel) (by decide) (fun c_8 => ?_) (fun c => absurd c (by decide))
    refine bk hX lkX12_ok (pc' := 18) [.aload_n 0, .iload_n 2, .iconst 0, .bipush 9] (by decide +kernel) (And.intro trivial ?_)
    refine z_callV hX kw_X12_228 (c_M_in E _ _ _ _ _) rfl rfl rfl rfl rfl (by decide +kernel) (by decide) (by decide) (by decide) (by decide) (Nat.le_of_ble_eq_true rfl) ?_
    rintro _ _ ⟨rfl, hh⟩
    rw [in_ix 9 (by decide)] at hh
    rcases hh with ⟨hy, rfl⟩ | ⟨hy, rfl⟩
    · refine if_ne hX (6) 27 (by decide +kernel) (by decide) (fun c_21 => ?_) (fun c => absurd c (by decide))
      refine bk hX lkX12_ok (pc' := 33) [.aload_n 0, .getfield 7, .bipush 6] (by decide +kernel) (And.intro trivial ?_)
      rw [hG.1]
      refine ic_ne hX (6) 39 (by decide +kernel) (by decide) (fun c6 => ?_) (fun c6 => ?_)
      · have e6 : ¬ gn g = 6 := fun z => c6 (by rw [z])
        obtain ⟨k, hk, rfl⟩ := (isIn_iff (by decide)).mp hx
        obtain ⟨v, hv, rfl⟩ := (isIn_iff (by decide)).mp hy
        have hlt : gn g < 6 := by omega
        refine bk hX lkX12_ok (pc' := 87) [.aload_n 0, .getfield 19, .aload_n 0, .getfield 7, .iload_n 1, .iastore, .aload_n 0, .getfield 23, .aload_n 0, .getfield 7, .iload_n 2, .iastore, .aload_n 0, .getfield 26, .aload_n 0, .getfield 7, .aload_n 0, .getfield 7, .iastore, .aload_n 0, .getfield 29, .aload_n 0, .getfield 7, .iconst 0, .iastore, .aload_n 0, .dup, .getfield 13] (by decide +kernel) (And.intro (by rw [hG.1]; exact vin 6 hlt) (And.intro (by (show vp_in (up2 I 104 _ _ 100 0) _; rw [up2_ne _ _ _ (by decide), hG.1]; exact vin 6 hlt)) (And.intro (by (show vp_in (up2 (up2 I 104 _ _) 105 _ _ 100 0) _; rw [up2_ne _ _ _ (by decide), up2_ne _ _ _ (by decide), hG.1]; exact vin 6 hlt)) (And.intro (by (show vp_in (up2 (up2 (up2 I 104 _ _) 105 _ _) 106 _ _ 100 0) _; rw [up2_ne _ _ _ (by decide), up2_ne _ _ _ (by decide), up2_ne _ _ _ (by decide), hG.1]; exact vin 6 hlt)) (And.intro trivial ?_)))))
        refine bk hX lkX12_ok (pc' := 101) [.iconst 1, .aload_n 0, .getfield 7, .ishl, .iconst (Int.negSucc 0), .ixor, .iand, .putfield 13, .iconst 0, .istore_n 3] (by decide +kernel) (And.intro trivial ?_)
        refine z_lvk (lv' := [(0, _), (1, _), (2, _), (3, _)]) [1, 2, 3, 0] rfl ?_
        refine hl k v e6 hk hv (by unfold workS; rw [if_pos hx, if_pos hy, if_neg e6, jx_nI (by omega), jx_nI (by omega)]) 4 0 _ (by omega) (fun q j _ => ?_) (fun j hj => absurd hj (Nat.not_lt_zero _)) ?_
        · have e1 : I 100 1 = ga g := hG.2.1
          simp [up2_v, hG.1, cn, e1, rstS]
          rfl
        · exact frG_tr (frG_tr (frG_tr (frG_tr (frG_at (by decide)) (frG_at (by decide))) (frG_at (by decide))) (frG_at (by decide))) (frG_f (by decide))
      · refine bk hX lkX12_ok (pc' := 38) [.bipush (Int.negSucc 3)] (by decide +kernel) (And.intro trivial ?_)
        exact z_iret hX (by decide +kernel) rfl (rfl) (by decide) (by decide) (by have e6 : gn g = 6 := nI_inj (b := 6) (by omega) (by decide) c6; exact ⟨I, rfl, by unfold workS; rw [if_pos hx, if_pos hy, if_pos e6], by unfold workS; rw [if_pos hx, if_pos hy, if_pos e6]; exact hG, frG_rf _⟩)
    · refine if_ne hX (6) 27 (by decide +kernel) (by decide) (fun c => absurd (by decide) c) (fun c_21 => ?_)
      refine bk hX lkX12_ok (pc' := 26) [.bipush (Int.negSucc 1)] (by decide +kernel) (And.intro trivial ?_)
      exact z_iret hX (by decide +kernel) rfl (rfl) (by decide) (by decide) (⟨I, rfl, by unfold workS; rw [if_pos hx, if_neg hy], by unfold workS; rw [if_pos hx, if_neg hy]; exact hG, frG_rf _⟩)
  · refine if_ne hX (5) 13 (by decide +kernel) (by decide) (fun c => absurd (by decide) c) (fun c_8 => ?_)
    refine bk hX lkX12_ok (pc' := 12) [.iconst (Int.negSucc 0)] (by decide +kernel) (And.intro trivial ?_)
    exact z_iret hX (by decide +kernel) rfl (rfl) (by decide) (by decide) (⟨I, rfl, by unfold workS; rw [if_neg hx], by unfold workS; rw [if_neg hx]; exact hG, frG_rf _⟩)
/-- the text that was fed -/
def mTx (t : List Nat) (I : Nat → Nat → Int32) : Prop := I 100 10 = nI t.length ∧ t.length ≤ 100 ∧ ∀ k, k < t.length → I 114 k = nI (t.getD k 0)
def feedS (t : List Nat) (x : Int32) : Int32 × List Nat := if isIn x 128 = true then (if t.length = 100 then (-nI 4, t) else (nI (t.length + 1), t ++ [jx x])) else (-nI 2, t)
theorem c_M_feed (E : zE) (K N : Nat → Nat) (Rf : Nat → Nat → Option Nat) (I : Nat → Nat → Int32) (L : Nat → Nat → Int64) {t : List Nat} (ht : mTx t I) (x : Int32) : zCt E mX12_feed 1 0 0 (sg K N Rf I L) [.ref 100, .int x] (fun r σ' => ∃ I', σ' = sg K N Rf I' L ∧ r = some (.int (feedS t x).1) ∧ mTx (feedS t x).2 I' ∧ frX [114] [10] I I') := by
  obtain ⟨t1, t2, t3⟩ := ht
  refine z_intro (by decide) (Nat.le_of_ble_eq_true rfl) (fun X hX => ?_)
  refine bk hX lkX12_ok (pc' := 5) [.aload_n 0, .iload_n 1, .iconst 0, .bipush 127] (by decide +kernel) (And.intro trivial ?_)
  refine z_callV hX kw_X12_228 (c_M_in E _ _ _ _ _) rfl rfl rfl rfl rfl (by decide +kernel) (by decide) (by decide) (by decide) (by decide) (Nat.le_of_ble_eq_true rfl) ?_
  rintro _ _ ⟨rfl, hh⟩
  rw [in_ix 127 (by decide)] at hh
  rcases hh with ⟨hx, rfl⟩ | ⟨hx, rfl⟩
  · refine if_ne hX (6) 14 (by decide +kernel) (by decide) (fun c_8 => ?_) (fun c => absurd c (by decide))
    refine bk hX lkX12_ok (pc' := 20) [.aload_n 0, .getfield 41, .bipush 100] (by decide +kernel) (And.intro trivial ?_)
    rw [t1]
    refine ic_ne hX (6) 26 (by decide +kernel) (by decide) (fun c1 => ?_) (fun c1 => ?_)
    · have e : ¬ t.length = 100 := fun z => c1 (by rw [z])
      obtain ⟨k, hk, rfl⟩ := (isIn_iff (by decide)).mp hx
      have cn : (nI t.length).toNatClampNeg = t.length := cl (by omega)
      refine bk hX lkX12_ok (pc' := 50) [.aload_n 0, .getfield 50, .aload_n 0, .getfield 41, .iload_n 1, .iastore, .aload_n 0, .dup, .getfield 41, .iconst 1, .iadd, .putfield 41, .aload_n 0, .getfield 41] (by decide +kernel) (And.intro (by rw [t1]; exact vin 100 (by omega)) (And.intro trivial ?_))
      exact z_iret hX (by decide +kernel) rfl (rfl) (by decide) (by decide) (by
  unfold feedS
  rw [if_pos hx, if_neg e, jx_nI (by omega)]
  refine ⟨_, rfl, by simp [up2_v, t1, nI_add], ⟨by simp [up2_v, t1, nI_add], by rw [List.length_append, List.length_singleton]; omega, fun j hj => ?_⟩, frX_tr (frX_at (by decide) (by decide)) (frX_f (by decide))⟩
  rw [List.length_append, List.length_singleton] at hj
  by_cases h : j = t.length
  · subst h
    simp [up2_v, t1, cn]
  · have := t3 j (by omega)
    simp [up2_v, t1, cn, h, this, List.getElem?_append_left (show j < t.length by omega)])
    · refine bk hX lkX12_ok (pc' := 25) [.bipush (Int.negSucc 3)] (by decide +kernel) (And.intro trivial ?_)
      exact z_iret hX (by decide +kernel) rfl (rfl) (by decide) (by decide) (by have e : t.length = 100 := nI_inj (b := 100) (by omega) (by decide) c1; exact ⟨I, rfl, by unfold feedS; rw [if_pos hx, if_pos e], by unfold feedS; rw [if_pos hx, if_pos e]; exact ⟨t1, t2, t3⟩, frX_rf _ _ _⟩)
  · refine if_ne hX (6) 14 (by decide +kernel) (by decide) (fun c => absurd (by decide) c) (fun c_8 => ?_)
    refine bk hX lkX12_ok (pc' := 13) [.bipush (Int.negSucc 1)] (by decide +kernel) (And.intro trivial ?_)
    exact z_iret hX (by decide +kernel) rfl (rfl) (by decide) (by decide) (⟨I, rfl, by unfold feedS; rw [if_neg hx], by unfold feedS; rw [if_neg hx]; exact ⟨t1, t2, t3⟩, frX_rf _ _ _⟩)
def tknS (g : Gv) (x k : Int32) : Int32 := if isIn k 7 = true then (if isIn x (gn g) = true then (if jx k = 0 ∨ gk g (jx x) = jx k ∨ (jx k = 1 ∧ gk g (jx x) = 4) ∨ (jx k = 2 ∧ gk g (jx x) = 5) ∨ (jx k = 3 ∧ gk g (jx x) = 6) then nI (gk g (jx x)) else -nI 12) else -nI 11) else -nI 2
set_option maxHeartbeats 1000000 in
theorem c_M_taken (E : zE) (K N : Nat → Nat) (Rf : Nat → Nat → Option Nat) (I : Nat → Nat → Int32) (L : Nat → Nat → Int64) {g : Gv} (hg : gwf g) (hG : mG g I) (x y : Int32) : zCt E mX12_taken 2 0 0 (sg K N Rf I L) [.ref 100, .int x, .int y] (fun r σ' => σ' = (sg K N Rf I L) ∧ r = some (.int (tknS g x y))) := by
  have h6 := hg.1
  refine z_intro (by decide) (Nat.le_of_ble_eq_true rfl) (fun X hX => ?_)
  refine bk hX lkX12_ok (pc' := 5) [.aload_n 0, .iload_n 2, .iconst 0, .bipush 6] (by decide +kernel) (And.intro trivial ?_)
  refine z_callV hX kw_X12_228 (c_M_in E _ _ _ _ _) rfl rfl rfl rfl rfl (by decide +kernel) (by decide) (by decide) (by decide) (by decide) (Nat.le_of_ble_eq_true rfl) ?_
  rintro _ _ ⟨rfl, hh⟩
  rw [in_ix 6 (by decide)] at hh
  rcases hh with ⟨hy, rfl⟩ | ⟨hy, rfl⟩
  · refine if_ne hX (6) 14 (by decide +kernel) (by decide) (fun c_8 => ?_) (fun c => absurd c (by decide))
    refine bk hX lkX12_ok (pc' := 16) [.aload_n 0, .iload_n 1] (by decide +kernel) (And.intro trivial ?_)
    refine z_callV hX kw_X12_232 (c_M_isWorker E K N Rf I L _ hg.1 hG.1) rfl rfl rfl rfl rfl (by decide +kernel) (by decide) (by decide) (by decide) (by decide) (Nat.le_of_ble_eq_true rfl) ?_
    rintro _ _ ⟨rfl, hh⟩
    rw [← isIn_iff (by omega)] at hh
    rcases hh with ⟨hx, rfl⟩ | ⟨hx, rfl⟩
    · refine if_ne hX (6) 25 (by decide +kernel) (by decide) (fun c_19 => ?_) (fun c => absurd c (by decide))
      obtain ⟨k, hk, rfl⟩ := (isIn_iff (by decide)).mp hy
      obtain ⟨p, hp, rfl⟩ := (isIn_iff (by omega)).mp hx
      have cp : (nI p).toNatClampNeg = p := cl (by omega)
      obtain ⟨k1, -⟩ := hG.2.2.2 p hp
      have k6 := (hg.2.1 p hp).1
      have hS : tknS g (nI p) (nI k) = if k = 0 ∨ gk g p = k ∨ (k = 1 ∧ gk g p = 4) ∨ (k = 2 ∧ gk g p = 5) ∨ (k = 3 ∧ gk g p = 6) then nI (gk g p) else -nI 12 := by
        unfold tknS; rw [if_pos hy, if_pos hx, jx_nI (by omega), jx_nI (by omega)]
      have q : ∀ {a b : Nat}, a < 2 ^ 31 → b < 2 ^ 31 → ¬ nI a = nI b → ¬ a = b := fun ha hb h z => h (by rw [z])
      have q0 : k = 0 ↔ nI k = 0 := ⟨fun z => by rw [z]; rfl, fun z => nI_inj (by omega) (by decide) (show nI k = nI 0 from z)⟩
      have qk : gk g p = k ↔ nI (gk g p) = nI k := (nI_eq (by omega) (by omega)).symm
      have q1 : k = 1 ↔ nI k = nI 1 := (nI_eq (by omega) (by omega)).symm
      have q2 : k = 2 ↔ nI k = nI 2 := (nI_eq (by omega) (by omega)).symm
      have q3 : k = 3 ↔ nI k = nI 3 := (nI_eq (by omega) (by omega)).symm
      have q4 : gk g p = 4 ↔ nI (gk g p) = nI 4 := (nI_eq (by omega) (by omega)).symm
      have q5 : gk g p = 5 ↔ nI (gk g p) = nI 5 := (nI_eq (by omega) (by omega)).symm
      have q6 : gk g p = 6 ↔ nI (gk g p) = nI 6 := (nI_eq (by omega) (by omega)).symm
      refine bk hX lkX12_ok (pc' := 32) [.aload_n 0, .getfield 19, .iload_n 1, .iaload, .istore_n 3] (by decide +kernel) (And.intro (by exact vin 6 (by omega)) (And.intro trivial ?_))
      rw [cp, show I (101 + 3) p = _ from k1]
      refine bk hX lkX12_ok (pc' := 33) [.iload_n 2] (by decide +kernel) (And.intro trivial ?_)
      refine if_eq hX (39) 72 (by decide +kernel) (by decide) (fun c_33 => ?_) (fun c_33 => ?_)
      · refine bk hX lkX12_ok (pc' := 73) [.iload_n 3] (by decide +kernel) (And.intro trivial ?_)
        refine gt_ hX (5) 78 (by decide +kernel) (by decide) ?_
        exact z_iret hX (by decide +kernel) rfl (rfl) (by decide) (by decide) (by refine ⟨rfl, ?_⟩; rw [hS]; first | (rw [if_neg (by rw [q0, qk, q1, q2, q3, q4, q5, q6]; grind)]; done) | (rw [if_pos (by rw [q0, qk, q1, q2, q3, q4, q5, q6]; grind)]; done))
      · refine bk hX lkX12_ok (pc' := 38) [.iload_n 3, .iload_n 2] (by decide +kernel) (And.intro trivial ?_)
        refine ic_eq hX (34) 72 (by decide +kernel) (by decide) (fun c_38 => ?_) (fun c_38 => ?_)
        · refine bk hX lkX12_ok (pc' := 73) [.iload_n 3] (by decide +kernel) (And.intro trivial ?_)
          refine gt_ hX (5) 78 (by decide +kernel) (by decide) ?_
          exact z_iret hX (by decide +kernel) rfl (rfl) (by decide) (by decide) (by refine ⟨rfl, ?_⟩; rw [hS]; first | (rw [if_neg (by rw [q0, qk, q1, q2, q3, q4, q5, q6]; grind)]; done) | (rw [if_pos (by rw [q0, qk, q1, q2, q3, q4, q5, q6]; grind)]; done))
        · refine bk hX lkX12_ok (pc' := 43) [.iload_n 2, .iconst 1] (by decide +kernel) (And.intro trivial ?_)
          refine ic_ne hX (8) 51 (by decide +kernel) (by decide) (fun c_43 => ?_) (fun c_43 => ?_)
          · refine bk hX lkX12_ok (pc' := 53) [.iload_n 2, .iconst 2] (by decide +kernel) (And.intro trivial ?_)
            refine ic_ne hX (8) 61 (by decide +kernel) (by decide) (fun c_53 => ?_) (fun c_53 => ?_)
            · refine bk hX lkX12_ok (pc' := 63) [.iload_n 2, .iconst 3] (by decide +kernel) (And.intro trivial ?_)
              refine ic_ne hX (13) 76 (by decide +kernel) (by decide) (fun c_63 => ?_) (fun c_63 => ?_)
              · refine bk hX lkX12_ok (pc' := 78) [.bipush (Int.negSucc 11)] (by decide +kernel) (And.intro trivial ?_)
                exact z_iret hX (by decide +kernel) rfl (rfl) (by decide) (by decide) (by refine ⟨rfl, ?_⟩; rw [hS]; first | (rw [if_neg (by rw [q0, qk, q1, q2, q3, q4, q5, q6]; grind)]; done) | (rw [if_pos (by rw [q0, qk, q1, q2, q3, q4, q5, q6]; grind)]; done))
              · refine bk hX lkX12_ok (pc' := 69) [.iload_n 3, .bipush 6] (by decide +kernel) (And.intro trivial ?_)
                refine ic_ne hX (7) 76 (by decide +kernel) (by decide) (fun c_69 => ?_) (fun c_69 => ?_)
                · refine bk hX lkX12_ok (pc' := 78) [.bipush (Int.negSucc 11)] (by decide +kernel) (And.intro trivial ?_)
                  exact z_iret hX (by decide +kernel) rfl (rfl) (by decide) (by decide) (by refine ⟨rfl, ?_⟩; rw [hS]; first | (rw [if_neg (by rw [q0, qk, q1, q2, q3, q4, q5, q6]; grind)]; done) | (rw [if_pos (by rw [q0, qk, q1, q2, q3, q4, q5, q6]; grind)]; done))
                · refine bk hX lkX12_ok (pc' := 73) [.iload_n 3] (by decide +kernel) (And.intro trivial ?_)
                  refine gt_ hX (5) 78 (by decide +kernel) (by decide) ?_
                  exact z_iret hX (by decide +kernel) rfl (rfl) (by decide) (by decide) (by refine ⟨rfl, ?_⟩; rw [hS]; first | (rw [if_neg (by rw [q0, qk, q1, q2, q3, q4, q5, q6]; grind)]; done) | (rw [if_pos (by rw [q0, qk, q1, q2, q3, q4, q5, q6]; grind)]; done))
            · refine bk hX lkX12_ok (pc' := 58) [.iload_n 3, .iconst 5] (by decide +kernel) (And.intro trivial ?_)
              refine ic_eq hX (14) 72 (by decide +kernel) (by decide) (fun c_58 => ?_) (fun c_58 => ?_)
              · refine bk hX lkX12_ok (pc' := 73) [.iload_n 3] (by decide +kernel) (And.intro trivial ?_)
                refine gt_ hX (5) 78 (by decide +kernel) (by decide) ?_
                exact z_iret hX (by decide +kernel) rfl (rfl) (by decide) (by decide) (by refine ⟨rfl, ?_⟩; rw [hS]; first | (rw [if_neg (by rw [q0, qk, q1, q2, q3, q4, q5, q6]; grind)]; done) | (rw [if_pos (by rw [q0, qk, q1, q2, q3, q4, q5, q6]; grind)]; done))
              · refine bk hX lkX12_ok (pc' := 63) [.iload_n 2, .iconst 3] (by decide +kernel) (And.intro trivial ?_)
                refine ic_ne hX (13) 76 (by decide +kernel) (by decide) (fun c_63 => ?_) (fun c_63 => ?_)
                · refine bk hX lkX12_ok (pc' := 78) [.bipush (Int.negSucc 11)] (by decide +kernel) (And.intro trivial ?_)
                  exact z_iret hX (by decide +kernel) rfl (rfl) (by decide) (by decide) (by refine ⟨rfl, ?_⟩; rw [hS]; first | (rw [if_neg (by rw [q0, qk, q1, q2, q3, q4, q5, q6]; grind)]; done) | (rw [if_pos (by rw [q0, qk, q1, q2, q3, q4, q5, q6]; grind)]; done))
                · refine bk hX lkX12_ok (pc' := 69) [.iload_n 3, .bipush 6] (by decide +kernel) (And.intro trivial ?_)
                  refine ic_ne hX (7) 76 (by decide +kernel) (by decide) (fun c_69 => ?_) (fun c_69 => ?_)
                  · refine bk hX lkX12_ok (pc' := 78) [.bipush (Int.negSucc 11)] (by decide +kernel) (And.intro trivial ?_)
                    exact z_iret hX (by decide +kernel) rfl (rfl) (by decide) (by decide) (by refine ⟨rfl, ?_⟩; rw [hS]; first | (rw [if_neg (by rw [q0, qk, q1, q2, q3, q4, q5, q6]; grind)]; done) | (rw [if_pos (by rw [q0, qk, q1, q2, q3, q4, q5, q6]; grind)]; done))
                  · refine bk hX lkX12_ok (pc' := 73) [.iload_n 3] (by decide +kernel) (And.intro trivial ?_)
                    refine gt_ hX (5) 78 (by decide +kernel) (by decide) ?_
                    exact z_iret hX (by decide +kernel) rfl (rfl) (by decide) (by decide) (by refine ⟨rfl, ?_⟩; rw [hS]; first | (rw [if_neg (by rw [q0, qk, q1, q2, q3, q4, q5, q6]; grind)]; done) | (rw [if_pos (by rw [q0, qk, q1, q2, q3, q4, q5, q6]; grind)]; done))
          · refine bk hX lkX12_ok (pc' := 48) [.iload_n 3, .iconst 4] (by decide +kernel) (And.intro trivial ?_)
            refine ic_eq hX (24) 72 (by decide +kernel) (by decide) (fun c_48 => ?_) (fun c_48 => ?_)
            · refine bk hX lkX12_ok (pc' := 73) [.iload_n 3] (by decide +kernel) (And.intro trivial ?_)
              refine gt_ hX (5) 78 (by decide +kernel) (by decide) ?_
              exact z_iret hX (by decide +kernel) rfl (rfl) (by decide) (by decide) (by refine ⟨rfl, ?_⟩; rw [hS]; first | (rw [if_neg (by rw [q0, qk, q1, q2, q3, q4, q5, q6]; grind)]; done) | (rw [if_pos (by rw [q0, qk, q1, q2, q3, q4, q5, q6]; grind)]; done))
            · refine bk hX lkX12_ok (pc' := 53) [.iload_n 2, .iconst 2] (by decide +kernel) (And.intro trivial ?_)
              refine ic_ne hX (8) 61 (by decide +kernel) (by decide) (fun c_53 => ?_) (fun c_53 => ?_)
              · refine bk hX lkX12_ok (pc' := 63) [.iload_n 2, .iconst 3] (by decide +kernel) (And.intro trivial ?_)
                refine ic_ne hX (13) 76 (by decide +kernel) (by decide) (fun c_63 => ?_) (fun c_63 => ?_)
                · refine bk hX lkX12_ok (pc' := 78) [.bipush (Int.negSucc 11)] (by decide +kernel) (And.intro trivial ?_)
                  exact z_iret hX (by decide +kernel) rfl (rfl) (by decide) (by decide) (by refine ⟨rfl, ?_⟩; rw [hS]; first | (rw [if_neg (by rw [q0, qk, q1, q2, q3, q4, q5, q6]; grind)]; done) | (rw [if_pos (by rw [q0, qk, q1, q2, q3, q4, q5, q6]; grind)]; done))
                · refine bk hX lkX12_ok (pc' := 69) [.iload_n 3, .bipush 6] (by decide +kernel) (And.intro trivial ?_)
                  refine ic_ne hX (7) 76 (by decide +kernel) (by decide) (fun c_69 => ?_) (fun c_69 => ?_)
                  · refine bk hX lkX12_ok (pc' := 78) [.bipush (Int.negSucc 11)] (by decide +kernel) (And.intro trivial ?_)
                    exact z_iret hX (by decide +kernel) rfl (rfl) (by decide) (by decide) (by refine ⟨rfl, ?_⟩; rw [hS]; first | (rw [if_neg (by rw [q0, qk, q1, q2, q3, q4, q5, q6]; grind)]; done) | (rw [if_pos (by rw [q0, qk, q1, q2, q3, q4, q5, q6]; grind)]; done))
                  · refine bk hX lkX12_ok (pc' := 73) [.iload_n 3] (by decide +kernel) (And.intro trivial ?_)
                    refine gt_ hX (5) 78 (by decide +kernel) (by decide) ?_
                    exact z_iret hX (by decide +kernel) rfl (rfl) (by decide) (by decide) (by refine ⟨rfl, ?_⟩; rw [hS]; first | (rw [if_neg (by rw [q0, qk, q1, q2, q3, q4, q5, q6]; grind)]; done) | (rw [if_pos (by rw [q0, qk, q1, q2, q3, q4, q5, q6]; grind)]; done))
              · refine bk hX lkX12_ok (pc' := 58) [.iload_n 3, .iconst 5] (by decide +kernel) (And.intro trivial ?_)
                refine ic_eq hX (14) 72 (by decide +kernel) (by decide) (fun c_58 => ?_) (fun c_58 => ?_)
                · refine bk hX lkX12_ok (pc' := 73) [.iload_n 3] (by decide +kernel) (And.intro trivial ?_)
                  refine gt_ hX (5) 78 (by decide +kernel) (by decide) ?_
                  exact z_iret hX (by decide +kernel) rfl (rfl) (by decide) (by decide) (by refine ⟨rfl, ?_⟩; rw [hS]; first | (rw [if_neg (by rw [q0, qk, q1, q2, q3, q4, q5, q6]; grind)]; done) | (rw [if_pos (by rw [q0, qk, q1, q2, q3, q4, q5, q6]; grind)]; done))
                · refine bk hX lkX12_ok (pc' := 63) [.iload_n 2, .iconst 3] (by decide +kernel) (And.intro trivial ?_)
                  refine ic_ne hX (13) 76 (by decide +kernel) (by decide) (fun c_63 => ?_) (fun c_63 => ?_)
                  · refine bk hX lkX12_ok (pc' := 78) [.bipush (Int.negSucc 11)] (by decide +kernel) (And.intro trivial ?_)
                    exact z_iret hX (by decide +kernel) rfl (rfl) (by decide) (by decide) (by refine ⟨rfl, ?_⟩; rw [hS]; first | (rw [if_neg (by rw [q0, qk, q1, q2, q3, q4, q5, q6]; grind)]; done) | (rw [if_pos (by rw [q0, qk, q1, q2, q3, q4, q5, q6]; grind)]; done))
                  · refine bk hX lkX12_ok (pc' := 69) [.iload_n 3, .bipush 6] (by decide +kernel) (And.intro trivial ?_)
                    refine ic_ne hX (7) 76 (by decide +kernel) (by decide) (fun c_69 => ?_) (fun c_69 => ?_)
                    · refine bk hX lkX12_ok (pc' := 78) [.bipush (Int.negSucc 11)] (by decide +kernel) (And.intro trivial ?_)
                      exact z_iret hX (by decide +kernel) rfl (rfl) (by decide) (by decide) (by refine ⟨rfl, ?_⟩; rw [hS]; first | (rw [if_neg (by rw [q0, qk, q1, q2, q3, q4, q5, q6]; grind)]; done) | (rw [if_pos (by rw [q0, qk, q1, q2, q3, q4, q5, q6]; grind)]; done))
                    · refine bk hX lkX12_ok (pc' := 73) [.iload_n 3] (by decide +kernel) (And.intro trivial ?_)
                      refine gt_ hX (5) 78 (by decide +kernel) (by decide) ?_
                      exact z_iret hX (by decide +kernel) rfl (rfl) (by decide) (by decide) (by refine ⟨rfl, ?_⟩; rw [hS]; first | (rw [if_neg (by rw [q0, qk, q1, q2, q3, q4, q5, q6]; grind)]; done) | (rw [if_pos (by rw [q0, qk, q1, q2, q3, q4, q5, q6]; grind)]; done))
    · refine if_ne hX (6) 25 (by decide +kernel) (by decide) (fun c => absurd (by decide) c) (fun c_19 => ?_)
      refine bk hX lkX12_ok (pc' := 24) [.bipush (Int.negSucc 10)] (by decide +kernel) (And.intro trivial ?_)
      exact z_iret hX (by decide +kernel) rfl (rfl) (by decide) (by decide) (⟨rfl, by unfold tknS; rw [if_pos hy, if_neg hx]⟩)
  · refine if_ne hX (6) 14 (by decide +kernel) (by decide) (fun c => absurd (by decide) c) (fun c_8 => ?_)
    refine bk hX lkX12_ok (pc' := 13) [.bipush (Int.negSucc 1)] (by decide +kernel) (And.intro trivial ?_)
    exact z_iret hX (by decide +kernel) rfl (rfl) (by decide) (by decide) (⟨rfl, by unfold tknS; rw [if_neg hy]⟩)
