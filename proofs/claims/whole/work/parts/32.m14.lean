def frX (Ps Fs : List Nat) (I I' : Nat → Nat → Int32) : Prop := (∀ q, q ∉ Ps → q ≠ 100 → I' q = I q) ∧ (∀ k, k ∉ Fs → I' 100 k = I 100 k)
theorem frX_rf (Ps Fs : List Nat) (I : Nat → Nat → Int32) : frX Ps Fs I I := ⟨fun _ _ _ => rfl, fun _ _ => rfl⟩
theorem frX_tr {Ps Fs : List Nat} {I I1 I2 : Nat → Nat → Int32} (h1 : frX Ps Fs I I1) (h2 : frX Ps Fs I1 I2) : frX Ps Fs I I2 := ⟨fun q a b => (h2.1 q a b).trans (h1.1 q a b), fun k a => (h2.2 k a).trans (h1.2 k a)⟩
theorem frX_at {Ps Fs : List Nat} {I : Nat → Nat → Int32} {p k : Nat} {v : Int32} (h : p ∈ Ps) (h0 : p ≠ 100) : frX Ps Fs I (up2 I p k v) := ⟨fun q a b => up2_ne _ _ _ (fun z => a (by rw [z]; exact h)), fun j a => by rw [up2_ne _ _ _ (fun z => h0 z.symm)]⟩
theorem frX_f {Ps Fs : List Nat} {I : Nat → Nat → Int32} {k : Nat} {v : Int32} (h : k ∈ Fs) : frX Ps Fs I (up2 I 100 k v) := ⟨fun q a b => up2_ne _ _ _ b, fun j a => by rw [up2_at, if_neg (fun z => a (by rw [z]; exact h))]⟩
/-- rows told by hand: how many, three numbers each -/
abbrev Rw : Type := Nat × (Nat → Nat) × (Nat → Nat) × (Nat → Nat)
def mSn (s : Rw) (I : Nat → Nat → Int32) : Prop := I 100 34 = nI s.1 ∧ s.1 ≤ 5 ∧ ∀ k, k < s.1 → I 136 k = nI (s.2.1 k) ∧ I 137 k = nI (s.2.2.1 k) ∧ I 138 k = nI (s.2.2.2 k)
def wSn (s : Rw) (g : Gv) : Prop := ∀ k, k < s.1 → s.2.1 k < gn g ∧ s.2.2.1 k < 1024 ∧ s.2.2.2 k ≤ 20
theorem mSn_eq {s : Rw} {I I' : Nat → Nat → Int32} (h : mSn s I) (e0 : I' 100 34 = I 100 34) (e1 : I' 136 = I 136) (e2 : I' 137 = I 137) (e3 : I' 138 = I 138) : mSn s I' := by
  unfold mSn
  rw [e0, e1, e2, e3]
  exact h
def seeS (s : Rw) (g : Gv) (c h d : Int32) : Int32 × Rw := if c = -nI 1 then (0, (0, s.2)) else if isIn c (gn g) = true then (if isIn h 1024 = true ∧ isIn d 21 = true then (if s.1 = 5 then (-nI 4, s) else (nI (s.1 + 1), (s.1 + 1, upN s.2.1 s.1 (jx c), upN s.2.2.1 s.1 (jx h), upN s.2.2.2 s.1 (jx d)))) else (-nI 2, s)) else (-nI 1, s)
theorem upN_at (f : Nat → Nat) (k v : Nat) : upN f k v k = v := by simp [upN]
theorem upN_ne (f : Nat → Nat) {k j : Nat} (v : Nat) (h : j ≠ k) : upN f k v j = f j := by simp [upN, h]
theorem c_M_see (E : zE) (K N : Nat → Nat) (Rf : Nat → Nat → Option Nat) (I : Nat → Nat → Int32) (L : Nat → Nat → Int64) {g : Gv} (hg : gwf g) (hG : mG g I) {s : Rw} (hs : mSn s I) (c h d : Int32) : zCt E mX12_see 2 0 0 (sg K N Rf I L) [.ref 100, .int c, .int h, .int d] (fun r σ' => ∃ I', σ' = sg K N Rf I' L ∧ r = some (.int (seeS s g c h d).1) ∧ mSn (seeS s g c h d).2 I' ∧ frX [136, 137, 138] [34] I I') := by
  have h6 := hg.1
  obtain ⟨hs0, hs5, hsk⟩ := hs
  refine z_intro (by decide) (Nat.le_of_ble_eq_true rfl) (fun X hX => ?_)
  refine bk hX lkX12_ok (pc' := 2) [.iload_n 1, .iconst (Int.negSucc 0)] (by decide +kernel) (And.intro trivial ?_)
  refine ic_ne hX (10) 12 (by decide +kernel) (by decide) (fun c1 => ?_) (fun c1 => ?_)
  · refine bk hX lkX12_ok (pc' := 14) [.aload_n 0, .iload_n 1] (by decide +kernel) (And.intro trivial ?_)
    refine z_callV hX kw_X12_232 (c_M_isWorker E K N Rf I L _ hg.1 hG.1) rfl rfl rfl rfl rfl (by decide +kernel) (by decide) (by decide) (by decide) (by decide) (Nat.le_of_ble_eq_true rfl) ?_
    rintro _ _ ⟨rfl, hh⟩
    rw [← isIn_iff (by omega)] at hh
    rcases hh with ⟨hc, rfl⟩ | ⟨hc, rfl⟩
    · refine if_ne hX (5) 22 (by decide +kernel) (by decide) (fun c_17 => ?_) (fun c => absurd c (by decide))
      refine bk hX lkX12_ok (pc' := 24) [.aload_n 0, .iload_n 2] (by decide +kernel) (And.intro trivial ?_)
      refine z_callV hX kw_X12_236 (c_M_isHoles E _ rfl _) rfl rfl rfl rfl rfl (by decide +kernel) (by decide) (by decide) (by decide) (by decide) (Nat.le_of_ble_eq_true rfl) ?_
      rintro _ _ ⟨rfl, hh⟩
      rw [hol_in] at hh
      rcases hh with ⟨hh1, rfl⟩ | ⟨hh1, rfl⟩
      · refine if_eq hX (14) 41 (by decide +kernel) (by decide) (fun c => absurd c (by decide)) (fun c_27 => ?_)
        refine bk hX lkX12_ok (pc' := 35) [.aload_n 0, .iload_n 3, .iconst 0, .bipush 20] (by decide +kernel) (And.intro trivial ?_)
        refine z_callV hX kw_X12_228 (c_M_in E _ _ _ _ _) rfl rfl rfl rfl rfl (by decide +kernel) (by decide) (by decide) (by decide) (by decide) (Nat.le_of_ble_eq_true rfl) ?_
        rintro _ _ ⟨rfl, hh⟩
        rw [in_ix 20 (by decide)] at hh
        rcases hh with ⟨hd1, rfl⟩ | ⟨hd1, rfl⟩
        · refine if_ne hX (6) 44 (by decide +kernel) (by decide) (fun c_38 => ?_) (fun c => absurd c (by decide))
          refine bk hX lkX12_ok (pc' := 49) [.aload_n 0, .getfield 114, .iconst 5] (by decide +kernel) (And.intro trivial ?_)
          rw [hs0]
          refine ic_ne hX (6) 55 (by decide +kernel) (by decide) (fun c5 => ?_) (fun c5 => ?_)
          · have e5 : ¬ s.1 = 5 := fun z => c5 (by rw [z])
            obtain ⟨c, hcn, rfl⟩ := (isIn_iff (by omega)).mp hc
            obtain ⟨x, hx, rfl⟩ := (isIn_iff (by omega)).mp hh1
            obtain ⟨y, hy, rfl⟩ := (isIn_iff (by omega)).mp hd1
            have cs : (nI s.1).toNatClampNeg = s.1 := cl (by omega)
            refine bk hX lkX12_ok (pc' := 99) [.aload_n 0, .getfield 117, .aload_n 0, .getfield 114, .iload_n 1, .iastore, .aload_n 0, .getfield 120, .aload_n 0, .getfield 114, .iload_n 2, .iastore, .aload_n 0, .getfield 123, .aload_n 0, .getfield 114, .iload_n 3, .iastore, .aload_n 0, .dup, .getfield 114, .iconst 1, .iadd, .putfield 114, .aload_n 0, .getfield 114] (by decide +kernel) (And.intro (by rw [hs0]; exact vin 5 (by omega)) (And.intro (by (show vp_in (up2 I 136 _ _ 100 34) _; rw [up2_ne _ _ _ (by decide), hs0]; exact vin 5 (by omega))) (And.intro (by (show vp_in (up2 (up2 I 136 _ _) 137 _ _ 100 34) _; rw [up2_ne _ _ _ (by decide), up2_ne _ _ _ (by decide), hs0]; exact vin 5 (by omega))) (And.intro trivial ?_))))
            exact z_iret hX (by decide +kernel) rfl (rfl) (by decide) (by decide) (by
  refine ⟨_, rfl, ?_, ?_, frX_tr (frX_tr (frX_tr (frX_at (by decide) (by decide)) (frX_at (by decide) (by decide))) (frX_at (by decide) (by decide))) (frX_f (by decide))⟩
  · unfold seeS; rw [if_neg c1, if_pos hc, if_pos ⟨hh1, hd1⟩, if_neg e5]
    simp [up2_v, hs0, nI_add]
  · unfold seeS; rw [if_neg c1, if_pos hc, if_pos ⟨hh1, hd1⟩, if_neg e5, jx_nI (by omega), jx_nI (by omega), jx_nI (by omega)]
    refine ⟨by simp [up2_v, hs0, nI_add], by show s.1 + 1 ≤ 5; omega, fun k hk => ?_⟩
    by_cases hk2 : k = s.1
    · subst hk2
      simp [up2_v, hs0, cs, upN]
    · have hk3 : k < s.1 + 1 := hk
      have hk4 := hsk k (by omega)
      simp [up2_v, hs0, cs, upN, hk2, hk4])
          · refine bk hX lkX12_ok (pc' := 54) [.bipush (Int.negSucc 3)] (by decide +kernel) (And.intro trivial ?_)
            exact z_iret hX (by decide +kernel) rfl (rfl) (by decide) (by decide) (by have e5 : s.1 = 5 := nI_inj (b := 5) (by omega) (by decide) c5; exact ⟨I, rfl, by unfold seeS; rw [if_neg c1, if_pos hc, if_pos ⟨hh1, hd1⟩, if_pos e5], by unfold seeS; rw [if_neg c1, if_pos hc, if_pos ⟨hh1, hd1⟩, if_pos e5]; exact ⟨hs0, hs5, hsk⟩, frX_rf _ _ _⟩)
        · refine if_ne hX (6) 44 (by decide +kernel) (by decide) (fun c => absurd (by decide) c) (fun c_38 => ?_)
          refine bk hX lkX12_ok (pc' := 43) [.bipush (Int.negSucc 1)] (by decide +kernel) (And.intro trivial ?_)
          exact z_iret hX (by decide +kernel) rfl (rfl) (by decide) (by decide) (by first | exact ⟨I, rfl, by unfold seeS; rw [if_neg c1, if_pos hc, if_neg (fun z => hh1 z.1)], by unfold seeS; rw [if_neg c1, if_pos hc, if_neg (fun z => hh1 z.1)]; exact ⟨hs0, hs5, hsk⟩, frX_rf _ _ _⟩ | exact ⟨I, rfl, by unfold seeS; rw [if_neg c1, if_pos hc, if_neg (fun z => hd1 z.2)], by unfold seeS; rw [if_neg c1, if_pos hc, if_neg (fun z => hd1 z.2)]; exact ⟨hs0, hs5, hsk⟩, frX_rf _ _ _⟩)
      · refine if_eq hX (14) 41 (by decide +kernel) (by decide) (fun c_27 => ?_) (fun c => absurd (by decide) c)
        refine bk hX lkX12_ok (pc' := 43) [.bipush (Int.negSucc 1)] (by decide +kernel) (And.intro trivial ?_)
        exact z_iret hX (by decide +kernel) rfl (rfl) (by decide) (by decide) (by first | exact ⟨I, rfl, by unfold seeS; rw [if_neg c1, if_pos hc, if_neg (fun z => hh1 z.1)], by unfold seeS; rw [if_neg c1, if_pos hc, if_neg (fun z => hh1 z.1)]; exact ⟨hs0, hs5, hsk⟩, frX_rf _ _ _⟩ | exact ⟨I, rfl, by unfold seeS; rw [if_neg c1, if_pos hc, if_neg (fun z => hd1 z.2)], by unfold seeS; rw [if_neg c1, if_pos hc, if_neg (fun z => hd1 z.2)]; exact ⟨hs0, hs5, hsk⟩, frX_rf _ _ _⟩)
    · refine if_ne hX (5) 22 (by decide +kernel) (by decide) (fun c => absurd (by decide) c) (fun c_17 => ?_)
      refine bk hX lkX12_ok (pc' := 21) [.iconst (Int.negSucc 0)] (by decide +kernel) (And.intro trivial ?_)
      exact z_iret hX (by decide +kernel) rfl (rfl) (by decide) (by decide) (⟨I, rfl, by unfold seeS; rw [if_neg c1, if_neg hc], by unfold seeS; rw [if_neg c1, if_neg hc]; exact ⟨hs0, hs5, hsk⟩, frX_rf _ _ _⟩)
  · refine bk hX lkX12_ok (pc' := 11) [.aload_n 0, .iconst 0, .putfield 114, .iconst 0] (by decide +kernel) (And.intro trivial ?_)
    exact z_iret hX (by decide +kernel) rfl (rfl) (by decide) (by decide) (by
  refine ⟨_, rfl, by unfold seeS; rw [if_pos c1]; rfl, ?_, frX_f (by decide)⟩
  unfold seeS; rw [if_pos c1]
  exact ⟨by rw [up2_self], Nat.zero_le _, fun k hk => absurd hk (Nat.not_lt_zero _)⟩)
/-- all of seen is so -/
def snB (g : Gv) (r : Nat) (s : Rw) : Nat → Bool
  | 0 => true
  | k + 1 => snB g r s k && decide (gh (daysS r (s.2.2.2 k) g) (s.2.1 k) = s.2.2.1 k)
theorem mSn_sE {s : Rw} {I I1 : Nat → Nat → Int32} (h : mSn s I) (h1 : sE I I1) : mSn s I1 := mSn_eq h (h1.2 34 (by decide)) (h1.1 _ (by decide) (by decide)) (h1.1 _ (by decide) (by decide)) (h1.1 _ (by decide) (by decide))
theorem snB_f {g : Gv} {r : Nat} {s : Rw} {j : Nat} (h : snB g r s j = false) : ∀ m, snB g r s (j + m) = false
  | 0 => h
  | m + 1 => by
    show (snB g r s (j + m) && _) = false
    rw [snB_f h m]; rfl
set_option maxHeartbeats 2000000 in
theorem c_M_isSeen (E : zE) (K N : Nat → Nat) (Rf : Nat → Nat → Option Nat) (I : Nat → Nat → Int32) (L : Nat → Nat → Int64) {g : Gv} (hg : gwf g) (hG : mG g I) {w : Wk} {b : Nat} (hB : mHB w b I) (hd : gd g ≤ 90000) {s : Rw} (hs : mSn s I) (hws : wSn s g) : zCt E mX12_isSeen 5 0 0 (sg K N Rf I L) [.ref 100] (fun r σ' => ∃ I', σ' = sg K N Rf I' L ∧ r = some (.int (b2i (snB g (rdS w) s s.1))) ∧ sE I I') := by
  have h6 := hg.1
  have hs5 := hs.2.1
  refine z_intro (by decide) (Nat.le_of_ble_eq_true rfl) (fun X hX => ?_)
  have hl : ∀ m k (I1 : Nat → Nat → Int32), k + m = s.1 → sE I I1 → zS X (sg K N Rf I1 L) 0 0 4 [(0, .ref 100), (1, .int (b2i (snB g (rdS w) s k))), (2, .int (nI k))] [] := by
    intro m
    induction m with
    | zero =>
      intro k I1 hk h1
      obtain rfl : k = s.1 := by omega
      have e0 := (mSn_sE hs h1).1
      refine bk hX lkX12_ok (pc' := 9) [.iload_n 2, .aload_n 0, .getfield 114] (by decide +kernel) (And.intro trivial ?_)
      rw [e0]
      refine ic_ge hX (57) 66 (by decide +kernel) (by decide) (fun c_9 => ?_) (fun c => absurd (nI_le (by omega) (by omega)) c)
      refine bk hX lkX12_ok (pc' := 67) [.iload_n 1] (by decide +kernel) (And.intro trivial ?_)
      exact z_iret hX (by decide +kernel) rfl (by cases snB g (rdS w) s s.1 <;> rfl) (by decide) (by decide) (⟨I1, rfl, rfl, h1⟩)
    | succ m ih =>
      intro k I1 hk h1
      have hS1 := mSn_sE hs h1
      have e0 := hS1.1
      obtain ⟨k1, k2, k3⟩ := hS1.2.2 k (by omega)
      obtain ⟨l1, l2, l3⟩ := hws k (by omega)
      have hG1 := mG_sE hG h1
      have hB1 := mHB_sE hB h1
      have hsv := sE_sv I1
      have ck : (nI k).toNatClampNeg = k := cl (by omega)
      have hg2 := gwf_days hg (rdS w) (s.2.2.2 k)
      have hn2 := gn_days (rdS w) (s.2.2.2 k) g
      have hsb : snB g (rdS w) s (k + 1) = (snB g (rdS w) s k && decide (gh (daysS (rdS w) (s.2.2.2 k) g) (s.2.1 k) = s.2.2.1 k)) := rfl
      refine bk hX lkX12_ok (pc' := 9) [.iload_n 2, .aload_n 0, .getfield 114] (by decide +kernel) (And.intro trivial ?_)
      rw [e0]
      refine ic_ge hX (57) 66 (by decide +kernel) (by decide) (fun c => absurd c (nI_ge (by omega) (by omega))) (fun c_9 => ?_)
      refine bk hX lkX12_ok (pc' := 13) [.iload_n 1] (by decide +kernel) (And.intro trivial ?_)
      refine if_eq hX (53) 66 (by decide +kernel) (by decide) (fun cb => ?_) (fun cb => ?_)
      · have hfb := b2i_f cb
        have hff := snB_f hfb (m + 1)
        rw [hk] at hff
        refine bk hX lkX12_ok (pc' := 67) [.iload_n 1] (by decide +kernel) (And.intro trivial ?_)
        exact z_iret hX (by decide +kernel) rfl (by rw [hfb]; rfl) (by decide) (by decide) (⟨I1, rfl, by rw [hff, hfb], h1⟩)
      · refine bk hX lkX12_ok (pc' := 17) [.aload_n 0] (by decide +kernel) (And.intro trivial ?_)
        refine z_callV hX kw_X12_340 (c_M_save E K N Rf I1 L) rfl rfl rfl rfl rfl (by decide +kernel) (by decide) (by decide) (by decide) (by decide) (Nat.le_of_ble_eq_true rfl) ?_
        rintro _ _ ⟨rfl, rfl⟩
        have e3 : svI I1 6 138 k = nI (s.2.2.2 k) := by rw [hsv.1 _ (by decide) (by decide)]; exact k3
        refine bk hX lkX12_ok (pc' := 27) [.aload_n 0, .aload_n 0, .getfield 123, .iload_n 2, .iaload] (by decide +kernel) (And.intro (by exact vin 5 (by omega)) (And.intro trivial ?_))
        rw [ck, show svI I1 6 (101 + 37) k = _ from e3]
        refine z_callV hX kw_X12_337 (c_M_goDays E K N Rf (svI I1 6) L hg (mG_sE hG1 hsv) (mHB_sE hB1 hsv) (k := s.2.2.2 k) (by omega) (by omega)) rfl rfl rfl rfl rfl (by decide +kernel) (by decide) (by decide) (by decide) (by decide) (Nat.le_of_ble_eq_true rfl) ?_
        rintro _ _ ⟨I2, rfl, rfl, h3, h4⟩
        have hback := ask_back (frA_D h6 h4)
        have f1 : I2 136 k = nI (s.2.1 k) := by rw [h4.1 _ (by decide) (by decide) (by decide) (by decide), hsv.1 _ (by decide) (by decide)]; exact k1
        have f2 : I2 137 k = nI (s.2.2.1 k) := by rw [h4.1 _ (by decide) (by decide) (by decide) (by decide), hsv.1 _ (by decide) (by decide)]; exact k2
        have f3 : I2 107 (s.2.1 k) = nI (gh (daysS (rdS w) (s.2.2.2 k) g) (s.2.1 k)) := mG_gh h3 (by rw [hn2]; exact l1)
        have hgl := (hg2.2.1 (s.2.1 k) (by rw [hn2]; exact l1)).2.2.2.1
        refine bk hX lkX12_ok (pc' := 47) [.aload_n 0, .getfield 29, .aload_n 0, .getfield 117, .iload_n 2, .iaload, .iaload, .aload_n 0, .getfield 120, .iload_n 2, .iaload] (by decide +kernel) (And.intro (by exact vin 5 (by omega)) (And.intro (by rw [ck, show I2 (101 + 35) k = _ from f1]; exact vin 6 (by omega)) (And.intro (by exact vin 5 (by omega)) (And.intro trivial ?_))))
        rw [ck, show I2 (101 + 35) k = _ from f1, cl (by omega), show I2 (101 + 6) (s.2.1 k) = _ from f3, show I2 (101 + 36) k = _ from f2]
        refine ic_ne hX (7) 54 (by decide +kernel) (by decide) (fun ce => ?_) (fun ce => ?_)
        · refine bk hX lkX12_ok (pc' := 57) [.iconst 0, .istore_n 1, .aload_n 0] (by decide +kernel) (And.intro trivial ?_)
          refine z_callV hX kw_X12_346 (c_M_putBack E K N Rf I2 L) rfl rfl rfl rfl rfl (by decide +kernel) (by decide) (by decide) (by decide) (by decide) (Nat.le_of_ble_eq_true rfl) ?_
          rintro _ _ ⟨rfl, rfl⟩
          refine bk hX lkX12_ok (pc' := 63) [.iinc 2 1] (by decide +kernel) (And.intro trivial ?_)
          refine gt_ hX (-59) 4 (by decide +kernel) (by decide) ?_
          refine z_lvk (lv' := [(0, _), (1, _), (2, _)]) [2, 1, 0] rfl ?_
          rw [nI_add]
          have hi := ih (k + 1) (pbI I2 6) (by omega) (sE_tr h1 hback)
          rw [hsb, b2i_t cb] at hi
          first
            | (rw [decide_eq_true (nI_inj (by omega) (by omega) ce)] at hi; exact hi)
            | (rw [decide_eq_false (fun z => ce (by rw [z]))] at hi; exact hi)
        · refine bk hX lkX12_ok (pc' := 51) [.iconst 1] (by decide +kernel) (And.intro trivial ?_)
          refine gt_ hX (4) 55 (by decide +kernel) (by decide) ?_
          refine bk hX lkX12_ok (pc' := 57) [.istore_n 1, .aload_n 0] (by decide +kernel) (And.intro trivial ?_)
          refine z_callV hX kw_X12_346 (c_M_putBack E K N Rf I2 L) rfl rfl rfl rfl rfl (by decide +kernel) (by decide) (by decide) (by decide) (by decide) (Nat.le_of_ble_eq_true rfl) ?_
          rintro _ _ ⟨rfl, rfl⟩
          refine bk hX lkX12_ok (pc' := 63) [.iinc 2 1] (by decide +kernel) (And.intro trivial ?_)
          refine gt_ hX (-59) 4 (by decide +kernel) (by decide) ?_
          refine z_lvk (lv' := [(0, _), (1, _), (2, _)]) [2, 1, 0] rfl ?_
          rw [nI_add]
          have hi := ih (k + 1) (pbI I2 6) (by omega) (sE_tr h1 hback)
          rw [hsb, b2i_t cb] at hi
          first
            | (rw [decide_eq_true (nI_inj (by omega) (by omega) ce)] at hi; exact hi)
            | (rw [decide_eq_false (fun z => ce (by rw [z]))] at hi; exact hi)
  refine bk hX lkX12_ok (pc' := 4) [.iconst 1, .istore_n 1, .iconst 0, .istore_n 2] (by decide +kernel) (And.intro trivial ?_)
  refine z_lvk (lv' := [(0, _), (1, _), (2, _)]) [2, 1, 0] rfl ?_
  exact hl s.1 0 I (by omega) (sE_rf _)
/-- had: the first j cards -/
def hdN (g : Gv) (r : Nat) (s : Rw) (p : Nat) : Nat → Nat
  | 0 => 0
  | c + 1 => hdN g r s p c ||| (if snB (swG g p (wh (gc g) c)) r s s.1 = true then 2 ^ c else 0)
def hadS (g : Gv) (r : Nat) (s : Rw) (x : Int32) : Int32 := if isIn x (gn g) = true then nI (hdN g r s (jx x) (gn g)) else -nI 1
theorem sw_back {I I2 : Nat → Nat → Int32} {i j : Nat} (h : sE (up2 (up2 I 106 i (I 106 j)) 106 j (I 106 i)) I2) : sE I (up2 (up2 I2 106 i (I2 106 j)) 106 j (I2 106 i)) := by
  obtain ⟨h1, h2⟩ := h
  have hc := h1 106 (by decide) (by decide)
  refine ⟨fun q a b => ?_, fun k a => ?_⟩
  · by_cases hq : q = 106
    · subst hq
      funext k
      simp only [up2_at, hc]
      grind
    · rw [up2_ne _ _ _ hq, up2_ne _ _ _ hq, h1 q a b, up2_ne _ _ _ hq, up2_ne _ _ _ hq]
  · rw [up2_ne _ _ _ (by decide), up2_ne _ _ _ (by decide), h2 k a, up2_ne _ _ _ (by decide), up2_ne _ _ _ (by decide)]
theorem mHB_c {w : Wk} {b : Nat} {I : Nat → Nat → Int32} {p k : Nat} {v : Int32} (hB : mHB w b I) (hp : p = 106 ∨ p = 105) : mHB w b (up2 I p k v) := by
  refine mHB_eq hB ?_ ?_ ?_ ?_ ?_ ?_ ?_ <;> rcases hp with rfl | rfl <;> rw [up2_ne _ _ _ (by decide)]
theorem mSn_c {s : Rw} {I : Nat → Nat → Int32} {p k : Nat} {v : Int32} (hB : mSn s I) (hp : p = 106 ∨ p = 105) : mSn s (up2 I p k v) := by
  refine mSn_eq hB ?_ ?_ ?_ ?_ <;> rcases hp with rfl | rfl <;> rw [up2_ne _ _ _ (by decide)]
set_option maxHeartbeats 2000000 in
theorem c_M_had (E : zE) (K N : Nat → Nat) (Rf : Nat → Nat → Option Nat) (I : Nat → Nat → Int32) (L : Nat → Nat → Int64) {g : Gv} (hg : gwf g) (hG : mG g I) {w : Wk} {b : Nat} (hB : mHB w b I) (hd : gd g ≤ 90000) {s : Rw} (hs : mSn s I) (hws : wSn s g) (x : Int32) : zCt E mX12_had 6 0 0 (sg K N Rf I L) [.ref 100, .int x] (fun r σ' => ∃ I', σ' = sg K N Rf I' L ∧ r = some (.int (hadS g (rdS w) s x)) ∧ sE I I') := by
  have h6 := hg.1
  have hl : ∀ (p : Nat), p < gn g → ∀ X : zX, zD X E mX12_had 6 0 0 (fun r σ' => ∃ I', σ' = sg K N Rf I' L ∧ r = some (.int (hadS g (rdS w) s (nI p))) ∧ sE I I') → ∀ m c (I1 : Nat → Nat → Int32), c + m = gn g → sE I I1 → zS X (sg K N Rf I1 L) 0 0 14 [(0, .ref 100), (1, .int (nI p)), (2, .int (nI (hdN g (rdS w) s p c))), (3, .int (nI c))] [] := by
    intro p hp X hX m
    have hful : hadS g (rdS w) s (nI p) = nI (hdN g (rdS w) s p (gn g)) := by
      unfold hadS; rw [if_pos (isIn_nI hp (by omega)), jx_nI (by omega)]
    induction m with
    | zero =>
      intro c I1 hc h1
      obtain rfl : c = gn g := by omega
      have e0 : I1 100 0 = nI (gn g) := (mG_sE hG h1).1
      refine bk hX lkX12_ok (pc' := 19) [.iload_n 3, .aload_n 0, .getfield 7] (by decide +kernel) (And.intro trivial ?_)
      rw [e0]
      refine ic_ge hX (47) 66 (by decide +kernel) (by decide) (fun c_19 => ?_) (fun c => absurd (nI_le (by omega) (by omega)) c)
      refine bk hX lkX12_ok (pc' := 67) [.iload_n 2] (by decide +kernel) (And.intro trivial ?_)
      exact z_iret hX (by decide +kernel) rfl (rfl) (by decide) (by decide) (⟨I1, rfl, by rw [hful], h1⟩)
    | succ m ih =>
      intro c I1 hc h1
      have hG1 := mG_sE hG h1
      have e0 : I1 100 0 = nI (gn g) := hG1.1
      have hcn : c < gn g := by omega
      obtain ⟨hw1, hw2⟩ := wh_sp hg hcn
      have hgs := gwf_sw hg hp hw1
      have hGs := mG_sw hg hG1 hp hw1
      have hBs := mHB_c (k := wh (gc g) c) (v := I1 106 p) (mHB_c (k := p) (v := I1 106 (wh (gc g) c)) (mHB_sE hB h1) (Or.inl rfl)) (Or.inl rfl)
      have hSs := mSn_c (k := wh (gc g) c) (v := I1 106 p) (mSn_c (k := p) (v := I1 106 (wh (gc g) c)) (mSn_sE hs h1) (Or.inl rfl)) (Or.inl rfl)
      have hhd : hdN g (rdS w) s p (c + 1) = hdN g (rdS w) s p c ||| (if snB (swG g p (wh (gc g) c)) (rdS w) s s.1 = true then 2 ^ c else 0) := rfl
      refine bk hX lkX12_ok (pc' := 19) [.iload_n 3, .aload_n 0, .getfield 7] (by decide +kernel) (And.intro trivial ?_)
      rw [e0]
      refine ic_ge hX (47) 66 (by decide +kernel) (by decide) (fun c => absurd c (nI_ge (by omega) (by omega))) (fun c_19 => ?_)
      refine bk hX lkX12_ok (pc' := 24) [.aload_n 0, .iload_n 3] (by decide +kernel) (And.intro trivial ?_)
      refine z_callV hX kw_X12_322 (c_M_whoHas E K N Rf I1 L hg hG1 hcn) rfl rfl rfl rfl rfl (by decide +kernel) (by decide) (by decide) (by decide) (by decide) (Nat.le_of_ble_eq_true rfl) ?_
      rintro _ _ ⟨rfl, rfl⟩
      refine bk hX lkX12_ok (pc' := 33) [.istore 4, .aload_n 0, .iload_n 1, .iload 4] (by decide +kernel) (And.intro trivial ?_)
      refine z_callV hX kw_X12_239 (c_M_swaps E K N Rf I1 L p (wh (gc g) c) (by omega) (by omega)) rfl rfl rfl rfl rfl (by decide +kernel) (by decide) (by decide) (by decide) (by decide) (Nat.le_of_ble_eq_true rfl) ?_
      rintro _ _ ⟨rfl, rfl⟩
      refine bk hX lkX12_ok (pc' := 38) [.iload_n 2, .aload_n 0] (by decide +kernel) (And.intro trivial ?_)
      refine z_callV hX kw_X12_367 (c_M_isSeen E K N Rf _ L hgs hGs hBs hd hSs hws) rfl rfl rfl rfl rfl (by decide +kernel) (by decide) (by decide) (by decide) (by decide) (Nat.le_of_ble_eq_true rfl) ?_
      rintro _ _ ⟨I2, rfl, rfl, h3⟩
      refine if_eq hX (9) 50 (by decide +kernel) (by decide) (fun cb => ?_) (fun cb => ?_)
      · refine bk hX lkX12_ok (pc' := 57) [.iconst 0, .ior, .istore_n 2, .aload_n 0, .iload_n 1, .iload 4] (by decide +kernel) (And.intro trivial ?_)
        refine z_callV hX kw_X12_239 (c_M_swaps E K N Rf I2 L p (wh (gc g) c) (by omega) (by omega)) rfl rfl rfl rfl rfl (by decide +kernel) (by decide) (by decide) (by decide) (by decide) (Nat.le_of_ble_eq_true rfl) ?_
        rintro _ _ ⟨rfl, rfl⟩
        refine bk hX lkX12_ok (pc' := 63) [.iinc 3 1] (by decide +kernel) (And.intro trivial ?_)
        refine gt_ hX (-49) 14 (by decide +kernel) (by decide) ?_
        refine z_lvk (lv' := [(0, _), (1, _), (2, _), (3, _)]) [3, 4, 1, 0] rfl ?_
        have hi := ih (c + 1) _ (by omega) (sE_tr h1 (sw_back h3))
        rw [hhd] at hi
        first
          | (rw [b2i_f cb] at hi
             rw [i_or, nI_add]
             exact hi)
          | (rw [b2i_t cb, if_pos rfl] at hi
             rw [i_1shl (by omega), i_or, nI_add]
             exact hi)
      · refine bk hX lkX12_ok (pc' := 47) [.iconst 1, .iload_n 3, .ishl] (by decide +kernel) (And.intro trivial ?_)
        refine gt_ hX (4) 51 (by decide +kernel) (by decide) ?_
        refine bk hX lkX12_ok (pc' := 57) [.ior, .istore_n 2, .aload_n 0, .iload_n 1, .iload 4] (by decide +kernel) (And.intro trivial ?_)
        refine z_callV hX kw_X12_239 (c_M_swaps E K N Rf I2 L p (wh (gc g) c) (by omega) (by omega)) rfl rfl rfl rfl rfl (by decide +kernel) (by decide) (by decide) (by decide) (by decide) (Nat.le_of_ble_eq_true rfl) ?_
        rintro _ _ ⟨rfl, rfl⟩
        refine bk hX lkX12_ok (pc' := 63) [.iinc 3 1] (by decide +kernel) (And.intro trivial ?_)
        refine gt_ hX (-49) 14 (by decide +kernel) (by decide) ?_
        refine z_lvk (lv' := [(0, _), (1, _), (2, _), (3, _)]) [3, 4, 1, 0] rfl ?_
        have hi := ih (c + 1) _ (by omega) (sE_tr h1 (sw_back h3))
        rw [hhd] at hi
        first
          | (rw [b2i_f cb] at hi
             rw [i_or, nI_add]
             exact hi)
          | (rw [b2i_t cb, if_pos rfl] at hi
             rw [i_1shl (by omega), i_or, nI_add]
             exact hi)
  refine z_intro (by decide) (Nat.le_of_ble_eq_true rfl) (fun X hX => ?_)
  refine bk hX lkX12_ok (pc' := 2) [.aload_n 0, .iload_n 1] (by decide +kernel) (And.intro trivial ?_)
  refine z_callV hX kw_X12_232 (c_M_isWorker E K N Rf I L _ hg.1 hG.1) rfl rfl rfl rfl rfl (by decide +kernel) (by decide) (by decide) (by decide) (by decide) (Nat.le_of_ble_eq_true rfl) ?_
  rintro _ _ ⟨rfl, hh⟩
  rw [← isIn_iff (by omega)] at hh
  rcases hh with ⟨hx, rfl⟩ | ⟨hx, rfl⟩
  · refine if_ne hX (5) 10 (by decide +kernel) (by decide) (fun c_5 => ?_) (fun c => absurd c (by decide))
    obtain ⟨p, hp, rfl⟩ := (isIn_iff (by omega)).mp hx
    refine bk hX lkX12_ok (pc' := 14) [.iconst 0, .istore_n 2, .iconst 0, .istore_n 3] (by decide +kernel) (And.intro trivial ?_)
    refine z_lvk (lv' := [(0, _), (1, _), (2, _), (3, _)]) [2, 3, 1, 0] rfl ?_
    exact hl p hp X hX (gn g) 0 I (by omega) (sE_rf _)
  · refine if_ne hX (5) 10 (by decide +kernel) (by decide) (fun c => absurd (by decide) c) (fun c_5 => ?_)
    refine bk hX lkX12_ok (pc' := 9) [.iconst (Int.negSucc 0)] (by decide +kernel) (And.intro trivial ?_)
    exact z_iret hX (by decide +kernel) rfl (rfl) (by decide) (by decide) (⟨I, rfl, by unfold hadS; rw [if_neg hx], sE_rf _⟩)
