theorem days_in {x : Int32} : (∃ j, j ≤ 60 ∧ x = nI j) ↔ isIn x 61 = true := by
  rw [isIn_iff (by decide)]
  exact ⟨fun ⟨j, h, e⟩ => ⟨j, by omega, e⟩, fun ⟨j, h, e⟩ => ⟨j, by omega, e⟩⟩
def onS (g : Gv) (r : Nat) (x what : Int32) : Int32 := if what = 0 ∨ isIn (what - nI 10) (gn g) = true ∨ isIn (what - nI 20) (gn g) = true then (if isIn x 61 = true then (if what = 0 then nI (ahN (daysS r (jx x) g) (gn g)) else if isIn (what - nI 10) (gn g) = true then nI (gh (daysS r (jx x) g) (jx (what - nI 10))) else nI (gc (daysS r (jx x) g) (jx (what - nI 20)))) else -nI 2) else -nI 1
theorem d10_20 {x : Int32} {n : Nat} (hn : n ≤ 6) (h1 : isIn (x - nI 10) n = true) : ¬ x = 0 ∧ ¬ nI 20 ≤ x ∧ x - nI 10 = nI (jx (x - nI 10)) ∧ jx (x - nI 10) < n := by
  obtain ⟨j, hj, he⟩ := (isIn_iff (by omega)).mp h1
  have hx : x = nI (j + 10) := by rw [← nI_add, ← he, Int32.sub_add_cancel]
  refine ⟨fun z => ?_, ?_, by rw [he, jx_nI (by omega)], by rw [he, jx_nI (by omega)]; exact hj⟩
  · rw [hx] at z
    exact absurd (nI_inj (b := 0) (by omega) (by decide) z) (by omega)
  · rw [hx]; exact nI_ge (a := j + 10) (b := 20) (by omega) (by decide)
theorem d20 {x : Int32} {n : Nat} (hn : n ≤ 6) (h1 : isIn (x - nI 20) n = true) : ¬ x = 0 ∧ nI 20 ≤ x ∧ x - nI 20 = nI (jx (x - nI 20)) ∧ jx (x - nI 20) < n := by
  obtain ⟨j, hj, he⟩ := (isIn_iff (by omega)).mp h1
  have hx : x = nI (j + 20) := by rw [← nI_add, ← he, Int32.sub_add_cancel]
  refine ⟨fun z => ?_, ?_, by rw [he, jx_nI (by omega)], by rw [he, jx_nI (by omega)]; exact hj⟩
  · rw [hx] at z
    exact absurd (nI_inj (b := 0) (by omega) (by decide) z) (by omega)
  · rw [hx]; exact nI_le (a := 20) (by omega) (by omega)
theorem mG_gh {g : Gv} {I : Nat → Nat → Int32} (hG : mG g I) {c : Nat} (hc : c < gn g) : I 107 c = nI (gh g c) := (hG.2.2.2 c hc).2.2.2.1
theorem mG_gc {g : Gv} {I : Nat → Nat → Int32} (hG : mG g I) {c : Nat} (hc : c < gn g) : I 106 c = nI (gc g c) := (hG.2.2.2 c hc).2.2.1
set_option maxHeartbeats 2000000 in
theorem c_M_on (E : zE) (K N : Nat → Nat) (Rf : Nat → Nat → Option Nat) (I : Nat → Nat → Int32) (L : Nat → Nat → Int64) {g : Gv} (hg : gwf g) (hG : mG g I) {w : Wk} {b : Nat} (hB : mHB w b I) (hd : gd g ≤ 90000) (x what : Int32) : zCt E mX12_on 5 0 0 (sg K N Rf I L) [.ref 100, .int x, .int what] (fun r σ' => ∃ I', σ' = sg K N Rf I' L ∧ r = some (.int (onS g (rdS w) x what)) ∧ sE I I') := by
  have h6 := hg.1
  have hsv := sE_sv I
  have key : ∀ (hc : what = 0 ∨ isIn (what - nI 10) (gn g) = true ∨ isIn (what - nI 20) (gn g) = true) (X : zX), zD X E mX12_on 5 0 0 (fun r σ' => ∃ I', σ' = sg K N Rf I' L ∧ r = some (.int (onS g (rdS w) x what)) ∧ sE I I') → zS X (sg K N Rf I L) 0 0 40 [(0, .ref 100), (1, .int x), (2, .int what)] [] := by
    intro hc X hX
    refine bk hX lkX12_ok (pc' := 42) [.aload_n 0, .iload_n 1] (by decide +kernel) (And.intro trivial ?_)
    refine z_callV hX kw_X12_334 (c_M_isDays E _ rfl _) rfl rfl rfl rfl rfl (by decide +kernel) (by decide) (by decide) (by decide) (by decide) (Nat.le_of_ble_eq_true rfl) ?_
    rintro _ _ ⟨rfl, hh⟩
    rw [days_in] at hh
    rcases hh with ⟨hq, rfl⟩ | ⟨hq, rfl⟩
    · refine if_ne hX (6) 51 (by decide +kernel) (by decide) (fun c_45 => ?_) (fun c => absurd c (by decide))
      obtain ⟨k, hk, rfl⟩ := (isIn_iff (by decide)).mp hq
      have hj : jx (nI k) = k := jx_nI (by omega)
      refine bk hX lkX12_ok (pc' := 52) [.aload_n 0] (by decide +kernel) (And.intro trivial ?_)
      refine z_callV hX kw_X12_340 (c_M_save E K N Rf I L) rfl rfl rfl rfl rfl (by decide +kernel) (by decide) (by decide) (by decide) (by decide) (Nat.le_of_ble_eq_true rfl) ?_
      rintro _ _ ⟨rfl, rfl⟩
      refine bk hX lkX12_ok (pc' := 57) [.aload_n 0, .iload_n 1] (by decide +kernel) (And.intro trivial ?_)
      refine z_callV hX kw_X12_337 (c_M_goDays E K N Rf (svI I 6) L hg (mG_sE hG hsv) (mHB_sE hB hsv) (k := k) (by omega) (by omega)) rfl rfl rfl rfl rfl (by decide +kernel) (by decide) (by decide) (by decide) (by decide) (Nat.le_of_ble_eq_true rfl) ?_
      rintro _ _ ⟨I2, rfl, rfl, h3, h4⟩
      have hg2 := gwf_days hg (rdS w) k
      have hn2 := gn_days (rdS w) k g
      have hback := ask_back (frA_D h6 h4)
      refine bk hX lkX12_ok (pc' := 61) [.iload_n 2] (by decide +kernel) (And.intro trivial ?_)
      refine if_ne hX (10) 71 (by decide +kernel) (by decide) (fun c61 => ?_) (fun c61 => ?_)
      · refine bk hX lkX12_ok (pc' := 74) [.iload_n 2, .bipush 20] (by decide +kernel) (And.intro trivial ?_)
        refine ic_ge hX (15) 89 (by decide +kernel) (by decide) (fun c74 => ?_) (fun c74 => ?_)
        · have h20 : isIn (what - nI 20) (gn g) = true := by
            rcases hc with z | z | z
            · exact absurd z c61
            · exact absurd c74 (d10_20 h6 z).2.1
            · exact z
          have h10 : ¬ isIn (what - nI 10) (gn g) = true := fun z => (d10_20 h6 z).2.1 c74
          obtain ⟨-, -, e20, l20⟩ := d20 h6 h20
          refine bk hX lkX12_ok (pc' := 98) [.aload_n 0, .getfield 26, .iload_n 2, .bipush 20, .isub, .iaload] (by decide +kernel) (And.intro (by rw [e20]; exact vin 6 (by omega)) (And.intro trivial ?_))
          try rw [e20, cl (by omega), show I2 (101 + 5) (jx (what - nI 20)) = _ from mG_gc h3 (by rw [hn2]; exact l20)]
          refine bk hX lkX12_ok (pc' := 100) [.istore_n 3, .aload_n 0] (by decide +kernel) (And.intro trivial ?_)
          refine z_callV hX kw_X12_346 (c_M_putBack E K N Rf I2 L) rfl rfl rfl rfl rfl (by decide +kernel) (by decide) (by decide) (by decide) (by decide) (Nat.le_of_ble_eq_true rfl) ?_
          rintro _ _ ⟨rfl, rfl⟩
          refine bk hX lkX12_ok (pc' := 104) [.iload_n 3] (by decide +kernel) (And.intro trivial ?_)
          exact z_iret hX (by decide +kernel) rfl (rfl) (by decide) (by decide) (by
  refine ⟨_, rfl, ?_, hback⟩
  unfold onS
  rw [if_pos hc, if_pos hq, hj]
  first
    | (rw [if_pos c61, hn2])
    | (rw [if_neg c61, if_pos h10])
    | (rw [if_neg c61, if_neg h10]))
        · have h10 : isIn (what - nI 10) (gn g) = true := by
            rcases hc with z | z | z
            · exact absurd z c61
            · exact z
            · exact absurd (d20 h6 z).2.1 c74
          obtain ⟨-, -, e10, l10⟩ := d10_20 h6 h10
          refine bk hX lkX12_ok (pc' := 86) [.aload_n 0, .getfield 29, .iload_n 2, .bipush 10, .isub, .iaload] (by decide +kernel) (And.intro (by rw [e10]; exact vin 6 (by omega)) (And.intro trivial ?_))
          rw [e10, cl (by omega), show I2 (101 + 6) (jx (what - nI 10)) = _ from mG_gh h3 (by rw [hn2]; exact l10)]
          refine gt_ hX (12) 98 (by decide +kernel) (by decide) ?_
          try rw [e20, cl (by omega), show I2 (101 + 5) (jx (what - nI 20)) = _ from mG_gc h3 (by rw [hn2]; exact l20)]
          refine bk hX lkX12_ok (pc' := 100) [.istore_n 3, .aload_n 0] (by decide +kernel) (And.intro trivial ?_)
          refine z_callV hX kw_X12_346 (c_M_putBack E K N Rf I2 L) rfl rfl rfl rfl rfl (by decide +kernel) (by decide) (by decide) (by decide) (by decide) (Nat.le_of_ble_eq_true rfl) ?_
          rintro _ _ ⟨rfl, rfl⟩
          refine bk hX lkX12_ok (pc' := 104) [.iload_n 3] (by decide +kernel) (And.intro trivial ?_)
          exact z_iret hX (by decide +kernel) rfl (rfl) (by decide) (by decide) (by
  refine ⟨_, rfl, ?_, hback⟩
  unfold onS
  rw [if_pos hc, if_pos hq, hj]
  first
    | (rw [if_pos c61, hn2])
    | (rw [if_neg c61, if_pos h10])
    | (rw [if_neg c61, if_neg h10]))
      · refine bk hX lkX12_ok (pc' := 65) [.aload_n 0] (by decide +kernel) (And.intro trivial ?_)
        refine z_callV hX kw_X12_343 (c_M_allHoles E K N Rf I2 L hg2 h3) rfl rfl rfl rfl rfl (by decide +kernel) (by decide) (by decide) (by decide) (by decide) (Nat.le_of_ble_eq_true rfl) ?_
        rintro _ _ ⟨rfl, rfl⟩
        refine gt_ hX (30) 98 (by decide +kernel) (by decide) ?_
        try rw [e20, cl (by omega), show I2 (101 + 5) (jx (what - nI 20)) = _ from mG_gc h3 (by rw [hn2]; exact l20)]
        refine bk hX lkX12_ok (pc' := 100) [.istore_n 3, .aload_n 0] (by decide +kernel) (And.intro trivial ?_)
        refine z_callV hX kw_X12_346 (c_M_putBack E K N Rf I2 L) rfl rfl rfl rfl rfl (by decide +kernel) (by decide) (by decide) (by decide) (by decide) (Nat.le_of_ble_eq_true rfl) ?_
        rintro _ _ ⟨rfl, rfl⟩
        refine bk hX lkX12_ok (pc' := 104) [.iload_n 3] (by decide +kernel) (And.intro trivial ?_)
        exact z_iret hX (by decide +kernel) rfl (rfl) (by decide) (by decide) (by
  refine ⟨_, rfl, ?_, hback⟩
  unfold onS
  rw [if_pos hc, if_pos hq, hj]
  first
    | (rw [if_pos c61, hn2])
    | (rw [if_neg c61, if_pos h10])
    | (rw [if_neg c61, if_neg h10]))
    · refine if_ne hX (6) 51 (by decide +kernel) (by decide) (fun c => absurd (by decide) c) (fun c_45 => ?_)
      refine bk hX lkX12_ok (pc' := 50) [.bipush (Int.negSucc 1)] (by decide +kernel) (And.intro trivial ?_)
      exact z_iret hX (by decide +kernel) rfl (rfl) (by decide) (by decide) (⟨I, rfl, by unfold onS; rw [if_pos hc, if_neg hq], sE_rf _⟩)
  refine z_intro (by decide) (Nat.le_of_ble_eq_true rfl) (fun X hX => ?_)
  refine bk hX lkX12_ok (pc' := 1) [.iload_n 2] (by decide +kernel) (And.intro trivial ?_)
  refine if_eq hX (39) 40 (by decide +kernel) (by decide) (fun c1 => ?_) (fun c1 => ?_)
  · refine z_lvk (lv' := [(0, _), (1, _), (2, _)]) [0, 1, 2] rfl ?_
    first | exact key (Or.inl c1) X hX | exact key (Or.inr (Or.inl h10)) X hX | exact key (Or.inr (Or.inr h20)) X hX
  · refine bk hX lkX12_ok (pc' := 15) [.aload_n 0, .iload_n 2, .bipush 10, .bipush 9, .aload_n 0, .getfield 7, .iadd] (by decide +kernel) (And.intro trivial ?_)
    refine z_callV hX kw_X12_228 (c_M_in E _ _ _ _ _) rfl rfl rfl rfl rfl (by decide +kernel) (by decide) (by decide) (by decide) (by decide) (Nat.le_of_ble_eq_true rfl) ?_
    rintro _ _ ⟨rfl, hh⟩
    rw [hG.1, show (nI 9 : Int32) = nI (10 - 1) from rfl, in10 10 (by omega) h6] at hh
    rcases hh with ⟨h10, rfl⟩ | ⟨h10, rfl⟩
    · refine if_ne hX (22) 40 (by decide +kernel) (by decide) (fun c_18 => ?_) (fun c => absurd c (by decide))
      refine z_lvk (lv' := [(0, _), (1, _), (2, _)]) [0, 1, 2] rfl ?_
      first | exact key (Or.inl c1) X hX | exact key (Or.inr (Or.inl h10)) X hX | exact key (Or.inr (Or.inr h20)) X hX
    · refine if_ne hX (22) 40 (by decide +kernel) (by decide) (fun c => absurd (by decide) c) (fun c_18 => ?_)
      refine bk hX lkX12_ok (pc' := 32) [.aload_n 0, .iload_n 2, .bipush 20, .bipush 19, .aload_n 0, .getfield 7, .iadd] (by decide +kernel) (And.intro trivial ?_)
      refine z_callV hX kw_X12_228 (c_M_in E _ _ _ _ _) rfl rfl rfl rfl rfl (by decide +kernel) (by decide) (by decide) (by decide) (by decide) (Nat.le_of_ble_eq_true rfl) ?_
      rintro _ _ ⟨rfl, hh⟩
      rw [hG.1, show (nI 19 : Int32) = nI (20 - 1) from rfl, in10 20 (by omega) h6] at hh
      rcases hh with ⟨h20, rfl⟩ | ⟨h20, rfl⟩
      · refine if_ne hX (5) 40 (by decide +kernel) (by decide) (fun c_35 => ?_) (fun c => absurd c (by decide))
        refine z_lvk (lv' := [(0, _), (1, _), (2, _)]) [0, 1, 2] rfl ?_
        first | exact key (Or.inl c1) X hX | exact key (Or.inr (Or.inl h10)) X hX | exact key (Or.inr (Or.inr h20)) X hX
      · refine if_ne hX (5) 40 (by decide +kernel) (by decide) (fun c => absurd (by decide) c) (fun c_35 => ?_)
        refine bk hX lkX12_ok (pc' := 39) [.iconst (Int.negSucc 0)] (by decide +kernel) (And.intro trivial ?_)
        exact z_iret hX (by decide +kernel) rfl (rfl) (by decide) (by decide) (⟨I, rfl, by unfold onS; rw [if_neg (fun z => z.elim c1 (fun z => z.elim h10 h20))], sE_rf _⟩)
/-- the fewest days behind which a card has q holes or more -/
def fuK (r c q : Nat) (g : Gv) : Nat → Nat → Nat
  | 0, k => k
  | m + 1, k => if q ≤ pcN (gh (daysS r k g) c) 10 then k else fuK r c q g m (k + 1)
def fullS (g : Gv) (r : Nat) (c q : Int32) : Int32 := if isIn c (gn g) = true then (if isIn q 11 = true then (if fuK r (jx c) (jx q) g 61 0 < 61 then nI (fuK r (jx c) (jx q) g 61 0) else -nI 5) else -nI 2) else -nI 1
theorem fuK_le (r c q : Nat) (g : Gv) : ∀ m k, fuK r c q g m k ≤ k + m
  | 0, k => Nat.le_refl k
  | m + 1, k => by
    show (if _ then k else _) ≤ _
    split
    · omega
    · have := fuK_le r c q g m (k + 1)
      omega
set_option maxHeartbeats 2000000 in
theorem c_M_full (E : zE) (K N : Nat → Nat) (Rf : Nat → Nat → Option Nat) (I : Nat → Nat → Int32) (L : Nat → Nat → Int64) {g : Gv} (hg : gwf g) (hG : mG g I) {w : Wk} {b : Nat} (hB : mHB w b I) (hd : gd g ≤ 90000) (c q : Int32) : zCt E mX12_full 5 0 0 (sg K N Rf I L) [.ref 100, .int c, .int q] (fun r σ' => ∃ I', σ' = sg K N Rf I' L ∧ r = some (.int (fullS g (rdS w) c q)) ∧ sE I I') := by
  have h6 := hg.1
  have hsv := sE_sv I
  have hl : ∀ (c q : Nat), c < gn g → q ≤ 10 → ∀ X : zX, zD X E mX12_full 5 0 0 (fun r σ' => ∃ I', σ' = sg K N Rf I' L ∧ r = some (.int (fullS g (rdS w) (nI c) (nI q))) ∧ sE I I') → ∀ m k (I1 : Nat → Nat → Int32), k + m = 61 → mG (daysS (rdS w) k g) I1 → frA (svI I 6) I1 → fuK (rdS w) c q g m k = fuK (rdS w) c q g 61 0 → zS X (sg K N Rf I1 L) 0 0 30 [(0, .ref 100), (1, .int (nI c)), (2, .int (nI q)), (3, .int (nI k))] [] := by
    intro c q hc hq X hX m
    have hful : fullS g (rdS w) (nI c) (nI q) = if fuK (rdS w) c q g 61 0 < 61 then nI (fuK (rdS w) c q g 61 0) else -nI 5 := by
      unfold fullS
      rw [if_pos (isIn_nI hc (by omega)), if_pos (isIn_nI (show q < 11 by omega) (by decide)), jx_nI (by omega), jx_nI (by omega)]
    induction m with
    | zero =>
      intro k I1 hk h1 h2 hf
      obtain rfl : k = 61 := by omega
      refine bk hX lkX12_ok (pc' := 33) [.iload_n 3, .bipush 61] (by decide +kernel) (And.intro trivial ?_)
      refine ic_ge hX (27) 60 (by decide +kernel) (by decide) (fun c_33 => ?_) (fun c => absurd (nI_le (a := 61) (b := 61) (by omega) (by omega)) c)
      refine bk hX lkX12_ok (pc' := 61) [.aload_n 0] (by decide +kernel) (And.intro trivial ?_)
      refine z_callV hX kw_X12_346 (c_M_putBack E K N Rf I1 L) rfl rfl rfl rfl rfl (by decide +kernel) (by decide) (by decide) (by decide) (by decide) (Nat.le_of_ble_eq_true rfl) ?_
      rintro _ _ ⟨rfl, rfl⟩
      refine bk hX lkX12_ok (pc' := 67) [.iload_n 3, .bipush 61] (by decide +kernel) (And.intro trivial ?_)
      refine ic_ge hX (7) 74 (by decide +kernel) (by decide) (fun c_67 => ?_) (fun c => absurd (nI_le (a := 61) (b := 61) (by omega) (by omega)) c)
      refine bk hX lkX12_ok (pc' := 76) [.bipush (Int.negSucc 4)] (by decide +kernel) (And.intro trivial ?_)
      exact z_iret hX (by decide +kernel) rfl (rfl) (by decide) (by decide) (⟨_, rfl, by rw [hful, ← hf]; rfl, ask_back h2⟩)
    | succ m ih =>
      intro k I1 hk h1 h2 hf
      have hf' : (if q ≤ pcN (gh (daysS (rdS w) k g) c) 10 then k else fuK (rdS w) c q g m (k + 1)) = fuK (rdS w) c q g 61 0 := hf
      have hgk := gwf_days hg (rdS w) k
      have hnk := gn_days (rdS w) k g
      have hcl := (hgk.2.1 c (by rw [hnk]; exact hc)).2.2.2.1
      have hpc := pcN_le (gh (daysS (rdS w) k g) c) 10
      have hBk : mHB w b I1 := by
        obtain ⟨z1, z2, z3⟩ := h2
        refine mHB_eq (mHB_sE hB hsv) (z2 9 (by decide) (by decide)) ?_ ?_ ?_ ?_ ?_ ?_ <;> exact z1 _ (by decide) (by decide) (by decide) (by decide) (by decide)
      refine bk hX lkX12_ok (pc' := 33) [.iload_n 3, .bipush 61] (by decide +kernel) (And.intro trivial ?_)
      refine ic_ge hX (27) 60 (by decide +kernel) (by decide) (fun c => absurd c (nI_ge (a := k) (b := 61) (by omega) (by omega))) (fun c_33 => ?_)
      refine bk hX lkX12_ok (pc' := 43) [.aload_n 0, .aload_n 0, .getfield 29, .iload_n 1, .iaload] (by decide +kernel) (And.intro (by exact vin 6 (by omega)) (And.intro trivial ?_))
      rw [cl (by omega), show I1 (101 + 6) c = _ from mG_gh h1 (by rw [hnk]; exact hc)]
      refine z_callV hX kw_X12_299 (c_M_bits E _ rfl hcl) rfl rfl rfl rfl rfl (by decide +kernel) (by decide) (by decide) (by decide) (by decide) (Nat.le_of_ble_eq_true rfl) ?_
      rintro _ _ ⟨rfl, rfl⟩
      refine bk hX lkX12_ok (pc' := 47) [.iload_n 2] (by decide +kernel) (And.intro trivial ?_)
      refine ic_ge hX (13) 60 (by decide +kernel) (by decide) (fun cb => ?_) (fun cb => ?_)
      · refine bk hX lkX12_ok (pc' := 61) [.aload_n 0] (by decide +kernel) (And.intro trivial ?_)
        refine z_callV hX kw_X12_346 (c_M_putBack E K N Rf I1 L) rfl rfl rfl rfl rfl (by decide +kernel) (by decide) (by decide) (by decide) (by decide) (Nat.le_of_ble_eq_true rfl) ?_
        rintro _ _ ⟨rfl, rfl⟩
        refine bk hX lkX12_ok (pc' := 67) [.iload_n 3, .bipush 61] (by decide +kernel) (And.intro trivial ?_)
        refine ic_ge hX (7) 74 (by decide +kernel) (by decide) (fun c => absurd c (nI_ge (a := k) (b := 61) (by omega) (by omega))) (fun c_67 => ?_)
        refine bk hX lkX12_ok (pc' := 71) [.iload_n 3] (by decide +kernel) (And.intro trivial ?_)
        refine gt_ hX (5) 76 (by decide +kernel) (by decide) ?_
        exact z_iret hX (by decide +kernel) rfl (rfl) (by decide) (by decide) (by rw [if_pos ((nI_leI (by omega) (by omega)).mp cb)] at hf'; exact ⟨_, rfl, by rw [hful, ← hf', if_pos (by omega)], ask_back h2⟩)
      · refine bk hX lkX12_ok (pc' := 51) [.aload_n 0] (by decide +kernel) (And.intro trivial ?_)
        refine z_callV hX kw_X12_331 (c_M_goDay E K N Rf I1 L hgk h1 (by rw [gd_days]; omega) hBk) rfl rfl rfl rfl rfl (by decide +kernel) (by decide) (by decide) (by decide) (by decide) (Nat.le_of_ble_eq_true rfl) ?_
        rintro _ _ ⟨I2, rfl, rfl, h3, h4⟩
        refine bk hX lkX12_ok (pc' := 57) [.iinc 3 1] (by decide +kernel) (And.intro trivial ?_)
        refine gt_ hX (-27) 30 (by decide +kernel) (by decide) ?_
        refine z_lvk (lv' := [(0, _), (1, _), (2, _), (3, _)]) [1, 2, 3, 0] rfl ?_
        rw [if_neg (fun z => cb (nI_le z (by omega)))] at hf'
        rw [nI_add]
        exact ih (k + 1) I2 (by omega) h3 (frA_tr h2 (frA_D (by rw [hnk]; exact h6) h4)) hf'
  refine z_intro (by decide) (Nat.le_of_ble_eq_true rfl) (fun X hX => ?_)
  refine bk hX lkX12_ok (pc' := 2) [.aload_n 0, .iload_n 1] (by decide +kernel) (And.intro trivial ?_)
  refine z_callV hX kw_X12_232 (c_M_isWorker E K N Rf I L _ hg.1 hG.1) rfl rfl rfl rfl rfl (by decide +kernel) (by decide) (by decide) (by decide) (by decide) (Nat.le_of_ble_eq_true rfl) ?_
  rintro _ _ ⟨rfl, hh⟩
  rw [← isIn_iff (by omega)] at hh
  rcases hh with ⟨hc, rfl⟩ | ⟨hc, rfl⟩
  · refine if_ne hX (5) 10 (by decide +kernel) (by decide) (fun c_5 => ?_) (fun c => absurd c (by decide))
    refine bk hX lkX12_ok (pc' := 15) [.aload_n 0, .iload_n 2, .iconst 0, .bipush 10] (by decide +kernel) (And.intro trivial ?_)
    refine z_callV hX kw_X12_228 (c_M_in E _ _ _ _ _) rfl rfl rfl rfl rfl (by decide +kernel) (by decide) (by decide) (by decide) (by decide) (Nat.le_of_ble_eq_true rfl) ?_
    rintro _ _ ⟨rfl, hh⟩
    rw [i_le (n := 10) (by decide)] at hh
    rcases hh with ⟨hq, rfl⟩ | ⟨hq, rfl⟩
    · refine if_ne hX (6) 24 (by decide +kernel) (by decide) (fun c_18 => ?_) (fun c => absurd c (by decide))
      obtain ⟨c, hcn, rfl⟩ := (isIn_iff (by omega)).mp hc
      obtain ⟨q, hq10, rfl⟩ := hq
      refine bk hX lkX12_ok (pc' := 25) [.aload_n 0] (by decide +kernel) (And.intro trivial ?_)
      refine z_callV hX kw_X12_340 (c_M_save E K N Rf I L) rfl rfl rfl rfl rfl (by decide +kernel) (by decide) (by decide) (by decide) (by decide) (Nat.le_of_ble_eq_true rfl) ?_
      rintro _ _ ⟨rfl, rfl⟩
      refine bk hX lkX12_ok (pc' := 30) [.iconst 0, .istore_n 3] (by decide +kernel) (And.intro trivial ?_)
      refine z_lvk (lv' := [(0, _), (1, _), (2, _), (3, _)]) [1, 2, 3, 0] rfl ?_
      exact hl c q hcn hq10 X hX 61 0 (svI I 6) rfl (mG_sE hG hsv) (frA_rf _) rfl
    · refine if_ne hX (6) 24 (by decide +kernel) (by decide) (fun c => absurd (by decide) c) (fun c_18 => ?_)
      refine bk hX lkX12_ok (pc' := 23) [.bipush (Int.negSucc 1)] (by decide +kernel) (And.intro trivial ?_)
      exact z_iret hX (by decide +kernel) rfl (rfl) (by decide) (by decide) (⟨I, rfl, by unfold fullS; rw [if_pos hc, if_neg (fun z => hq (by obtain ⟨j, h1, h2⟩ := (isIn_iff (by decide)).mp z; exact ⟨j, by omega, h2⟩))], sE_rf _⟩)
  · refine if_ne hX (5) 10 (by decide +kernel) (by decide) (fun c => absurd (by decide) c) (fun c_5 => ?_)
    refine bk hX lkX12_ok (pc' := 9) [.iconst (Int.negSucc 0)] (by decide +kernel) (And.intro trivial ?_)
    exact z_iret hX (by decide +kernel) rfl (rfl) (by decide) (by decide) (⟨I, rfl, by unfold fullS; rw [if_neg hc], sE_rf _⟩)
