/-! ===== seen, plans, books of the class ===== -/
def frZ (Ps : List Nat) (I I' : Nat → Nat → Int32) : Prop := ∀ q, q ∉ Ps → I' q = I q
theorem frZ_rf (Ps : List Nat) (I : Nat → Nat → Int32) : frZ Ps I I := fun _ _ => rfl
theorem adI_fr (r n : Nat) (x y z : Int32) (I : Nat → Nat → Int32) : frZ [r, r + 1, r + 2, r + 3] I (adI r n x y z I) := by
  intro q hq
  simp only [List.mem_cons, not_or] at hq
  obtain ⟨h0, h1, h2, h3, -⟩ := hq
  unfold adI
  rw [up2_ne _ _ _ h0, up2_ne _ _ _ h3, up2_ne _ _ _ h2, up2_ne _ _ _ h1]
theorem adI_v (r n : Nat) (x y z : Int32) (I : Nat → Nat → Int32) : adI r n x y z I r 3 = nI (n + 1) ∧ ∀ k, adI r n x y z I (r + 1) k = (if k = n then x else I (r + 1) k) ∧ adI r n x y z I (r + 2) k = (if k = n then y else I (r + 2) k) ∧ adI r n x y z I (r + 3) k = (if k = n then z else I (r + 3) k) := by
  unfold adI
  refine ⟨up2_self _ _ _ _, fun k => ⟨?_, ?_, ?_⟩⟩
  · rw [up2_ne _ _ _ (by omega), up2_ne _ _ _ (by omega), up2_ne _ _ _ (by omega), up2_at]
  · rw [up2_ne _ _ _ (by omega), up2_ne _ _ _ (by omega), up2_at, up2_ne _ _ _ (by omega)]
  · rw [up2_ne _ _ _ (by omega), up2_at, up2_ne _ _ _ (by omega), up2_ne _ _ _ (by omega)]
theorem xSn_0 {r : Nat} {s : Rw} {I : Nat → Nat → Int32} : xSn r (0, s.2) (up2 I r 3 (nI 0)) := ⟨up2_self _ _ _ _, fun k hk => absurd hk (Nat.not_lt_zero _)⟩
theorem xPl_0 {r : Nat} {s : Rw} {I : Nat → Nat → Int32} : xPl r (0, s.2) (up2 I r 3 (nI 0)) := ⟨up2_self _ _ _ _, fun k hk => absurd hk (Nat.not_lt_zero _)⟩
theorem xBk_0 {r : Nat} {s : Rw} {I : Nat → Nat → Int32} : xBk r (0, s.2) (up2 I r 3 (nI 0)) := ⟨up2_self _ _ _ _, fun k hk => absurd hk (Nat.not_lt_zero _)⟩
theorem fr_0 {r : Nat} {I : Nat → Nat → Int32} (Ps : List Nat) (h : r ∈ Ps) : frZ Ps I (up2 I r 3 (nI 0)) := fun q hq => up2_ne _ _ _ (fun z => hq (by rw [z]; exact h))
theorem xSn_add {r : Nat} {s : Rw} {I : Nat → Nat → Int32} (hs : xSn r s I) (x y z : Nat) : xSn r (s.1 + 1, upN s.2.1 s.1 x, upN s.2.2.1 s.1 y, upN s.2.2.2 s.1 z) (adI r s.1 (nI x) (nI y) (nI z) I) := by
  obtain ⟨e1, e2⟩ := adI_v r s.1 (nI x) (nI y) (nI z) I
  refine ⟨e1, fun k hk => ?_⟩
  have hk' : k < s.1 + 1 := hk
  obtain ⟨a1, a2, a3⟩ := e2 k
  rw [a1, a2, a3]
  show _ = nI (upN s.2.1 s.1 x k) ∧ _ = nI (upN s.2.2.1 s.1 y k) ∧ _ = nI (upN s.2.2.2 s.1 z k)
  unfold upN
  by_cases e : k = s.1
  · simp only [if_pos e]; exact ⟨trivial, trivial, trivial⟩
  · simp only [if_neg e]; exact hs.2 k (by omega)
theorem xPl_add {r : Nat} {s : Rw} {I : Nat → Nat → Int32} (hs : xPl r s I) {x y : Nat} {v z : Int32} (hv : 1 ≤ x → v = nI y) : xPl r (s.1 + 1, upN s.2.1 s.1 x, upN s.2.2.1 s.1 y, s.2.2.2) (adI r s.1 (nI x) v z I) := by
  obtain ⟨e1, e2⟩ := adI_v r s.1 (nI x) v z I
  refine ⟨e1, fun k hk => ?_⟩
  have hk' : k < s.1 + 1 := hk
  obtain ⟨a1, a2, a3⟩ := e2 k
  rw [a1, a2]
  show _ = nI (upN s.2.1 s.1 x k) ∧ (1 ≤ upN s.2.1 s.1 x k → _ = nI (upN s.2.2.1 s.1 y k))
  unfold upN
  by_cases e : k = s.1
  · simp only [if_pos e]; exact ⟨trivial, hv⟩
  · simp only [if_neg e]; exact hs.2 k (by omega)
theorem xBk_add {r : Nat} {s : Rw} {I : Nat → Nat → Int32} (hs : xBk r s I) (x y : Nat) (z : Int32) : xBk r (s.1 + 1, upN s.2.1 s.1 x, upN s.2.2.1 s.1 y, s.2.2.2) (adI r s.1 (nI x) (nI y) z I) := by
  obtain ⟨e1, e2⟩ := adI_v r s.1 (nI x) (nI y) z I
  refine ⟨e1, fun k hk => ?_⟩
  have hk' : k < s.1 + 1 := hk
  obtain ⟨a1, a2, a3⟩ := e2 k
  rw [a1, a2]
  show _ = nI (upN s.2.1 s.1 x k) ∧ _ = nI (upN s.2.2.1 s.1 y k)
  unfold upN
  by_cases e : k = s.1
  · simp only [if_pos e]; exact ⟨trivial, trivial⟩
  · simp only [if_neg e]; exact hs.2 k (by omega)
theorem c_X_see (E : zE) (K N : Nat → Nat) (Rf : Nat → Nat → Option Nat) (I : Nat → Nat → Int32) (L : Nat → Nat → Int64) {g : Gv} (hg : gwf g) (hG : xG 300 g K Rf I) {s : Rw} (hs : xSn 310 s I) (h5 : s.1 ≤ 5) (c h d : Int32) : zCt E mX11_see 1 0 0 (sg K N Rf I L) [.ref 200, .int c, .int h, .int d] (fun r σ' => ∃ I', σ' = sg K N Rf I' L ∧ r = some (.int (seeS s g c h d).1) ∧ xSn 310 (seeS s g c h d).2 I' ∧ frZ [310, 310 + 1, 310 + 2, 310 + 3] I I') := by
  have h6 := hg.1
  refine z_intro (by decide) (Nat.le_of_ble_eq_true rfl) (fun X hX => ?_)
  refine bk hX lkX11_ok (pc' := 2) [.iload_n 1, .iconst (Int.negSucc 0)] (by decide +kernel) (And.intro trivial ?_)
  refine ic_ne hX (16) 18 (by decide +kernel) (by decide) (fun c2 => ?_) (fun c2 => ?_)
  · refine bk hX lkX11_ok (pc' := 20) [.aload_n 0, .iload_n 1] (by decide +kernel) (And.intro trivial ?_)
    refine z_callV hX kw_X11_77 (c_X_isWorker E K N Rf _ L _ hg.1 hG.1) rfl rfl rfl rfl rfl (by decide +kernel) (by decide) (by decide) (by decide) (by decide) (Nat.le_of_ble_eq_true rfl) ?_
    rintro _ _ ⟨rfl, hh⟩
    rcases hh with ⟨hw, rfl⟩ | ⟨hw, rfl⟩
    · refine if_ne hX (5) 28 (by decide +kernel) (by decide) (fun c_23 => ?_) (fun c => absurd c (by decide))
      refine bk hX lkX11_ok (pc' := 29) [.iload_n 2] (by decide +kernel) (And.intro trivial ?_)
      refine z_callS hX kw_X11_120 (c_X_areHoles E _ _) rfl rfl (by decide +kernel) (by decide) (by decide) (by decide) (by decide) (Nat.le_of_ble_eq_true rfl) ?_
      rintro _ _ ⟨rfl, hh⟩
      rcases hh with ⟨hh1, rfl⟩ | ⟨hh1, rfl⟩
      · refine if_eq hX (13) 45 (by decide +kernel) (by decide) (fun c => absurd c (by decide)) (fun c_32 => ?_)
        refine bk hX lkX11_ok (pc' := 36) [.iload_n 3] (by decide +kernel) (And.intro trivial ?_)
        refine if_lt hX (9) 45 (by decide +kernel) (by decide) (fun c36 => ?_) (fun c36 => ?_)
        · refine bk hX lkX11_ok (pc' := 47) [.bipush (Int.negSucc 1)] (by decide +kernel) (And.intro trivial ?_)
          exact z_iret hX (by decide +kernel) rfl (rfl) (by decide) (by decide) (by
  have e : ¬ (isIn h 1024 = true ∧ isIn d 21 = true) := by
    first
      | exact fun z => hh1 z.1
      | exact fun z => isIn_f1 c36 z.2
      | exact fun z => isIn_gt 20 (i_nle.mp c42) (by decide) (by decide) z.2
  rw [show seeS s g c h d = (-nI 2, s) by rw [seeS, if_neg c2, if_pos hw, if_neg e]]
  exact ⟨I, rfl, rfl, hs, frZ_rf _ _⟩)
        · refine bk hX lkX11_ok (pc' := 42) [.iload_n 3, .bipush 20] (by decide +kernel) (And.intro trivial ?_)
          refine ic_le hX (6) 48 (by decide +kernel) (by decide) (fun c42 => ?_) (fun c42 => ?_)
          · have hd21 : isIn d 21 = true := isIn_le 20 c36 (i_nlt.mpr c42)
            obtain ⟨i, hi, rfl⟩ := isIn_ex hw (by omega)
            obtain ⟨j, hj, rfl⟩ := isIn_ex hh1 (by decide)
            obtain ⟨k, hk, rfl⟩ := isIn_ex hd21 (by decide)
            refine bk hX lkX11_ok (pc' := 58) [.aload_n 0, .getfield 12, .getfield 202, .iload_n 1, .iload_n 2, .iload_n 3] (by decide +kernel) (And.intro trivial ?_)
            refine z_callV hX kw_X11_209 (c_R310_add E K N Rf I L h5 hs.1 _ _ _) rfl rfl rfl rfl rfl (by decide +kernel) (by decide) (by decide) (by decide) (by decide) (Nat.le_of_ble_eq_true rfl) ?_
            rintro _ _ (⟨hadd, rfl, rfl⟩ | ⟨hadd, rfl, rfl⟩)
            · exact z_iret hX (by decide +kernel) rfl (rfl) (by decide) (by decide) (by
  rw [show seeS s g (nI i) (nI j) (nI k) = (nI (s.1 + 1), (s.1 + 1, upN s.2.1 s.1 i, upN s.2.2.1 s.1 j, upN s.2.2.2 s.1 k)) by rw [seeS, if_neg c2, if_pos hw, if_pos ⟨hh1, hd21⟩, if_neg (by omega), jx_nI (by omega), jx_nI (by omega), jx_nI (by omega)]]
  exact ⟨_, rfl, rfl, xSn_add (r := 310) hs i j k, adI_fr 310 _ _ _ _ _⟩)
            · exact z_iret hX (by decide +kernel) rfl (rfl) (by decide) (by decide) (by
  rw [show seeS s g (nI i) (nI j) (nI k) = (-nI 4, s) by rw [seeS, if_neg c2, if_pos hw, if_pos ⟨hh1, hd21⟩, if_pos hadd]]
  exact ⟨I, rfl, rfl, hs, frZ_rf _ _⟩)
          · refine bk hX lkX11_ok (pc' := 47) [.bipush (Int.negSucc 1)] (by decide +kernel) (And.intro trivial ?_)
            exact z_iret hX (by decide +kernel) rfl (rfl) (by decide) (by decide) (by
  have e : ¬ (isIn h 1024 = true ∧ isIn d 21 = true) := by
    first
      | exact fun z => hh1 z.1
      | exact fun z => isIn_f1 c36 z.2
      | exact fun z => isIn_gt 20 (i_nle.mp c42) (by decide) (by decide) z.2
  rw [show seeS s g c h d = (-nI 2, s) by rw [seeS, if_neg c2, if_pos hw, if_neg e]]
  exact ⟨I, rfl, rfl, hs, frZ_rf _ _⟩)
      · refine if_eq hX (13) 45 (by decide +kernel) (by decide) (fun c_32 => ?_) (fun c => absurd (by decide) c)
        refine bk hX lkX11_ok (pc' := 47) [.bipush (Int.negSucc 1)] (by decide +kernel) (And.intro trivial ?_)
        exact z_iret hX (by decide +kernel) rfl (rfl) (by decide) (by decide) (by
  have e : ¬ (isIn h 1024 = true ∧ isIn d 21 = true) := by
    first
      | exact fun z => hh1 z.1
      | exact fun z => isIn_f1 c36 z.2
      | exact fun z => isIn_gt 20 (i_nle.mp c42) (by decide) (by decide) z.2
  rw [show seeS s g c h d = (-nI 2, s) by rw [seeS, if_neg c2, if_pos hw, if_neg e]]
  exact ⟨I, rfl, rfl, hs, frZ_rf _ _⟩)
    · refine if_ne hX (5) 28 (by decide +kernel) (by decide) (fun c => absurd (by decide) c) (fun c_23 => ?_)
      refine bk hX lkX11_ok (pc' := 27) [.iconst (Int.negSucc 0)] (by decide +kernel) (And.intro trivial ?_)
      exact z_iret hX (by decide +kernel) rfl (rfl) (by decide) (by decide) (by
  rw [show seeS s g c h d = (-nI 1, s) by rw [seeS, if_neg c2, if_neg hw]]
  exact ⟨I, rfl, rfl, hs, frZ_rf _ _⟩)
  · refine bk hX lkX11_ok (pc' := 17) [.aload_n 0, .getfield 12, .getfield 202, .iconst 0, .putfield 206, .iconst 0] (by decide +kernel) (And.intro trivial ?_)
    exact z_iret hX (by decide +kernel) rfl (rfl) (by decide) (by decide) (by
  rw [show seeS s g c h d = (0, (0, s.2)) by rw [seeS, if_pos c2]]
  exact ⟨_, rfl, rfl, xSn_0 (r := 310), fr_0 (r := 310) _ (by decide)⟩)
theorem c_X_book (E : zE) (K N : Nat → Nat) (Rf : Nat → Nat → Option Nat) (I : Nat → Nat → Int32) (L : Nat → Nat → Int64) {g : Gv} (hg : gwf g) (hG : xG 300 g K Rf I) {s : Rw} (hs : xBk 318 s I) (h5 : s.1 ≤ 8) (c h : Int32) : zCt E mX11_book 1 0 0 (sg K N Rf I L) [.ref 200, .int c, .int h] (fun r σ' => ∃ I', σ' = sg K N Rf I' L ∧ r = some (.int (bookS s (gn g) c h).1) ∧ xBk 318 (bookS s (gn g) c h).2 I' ∧ frZ [318, 318 + 1, 318 + 2, 318 + 3] I I') := by
  have h6 := hg.1
  refine z_intro (by decide) (Nat.le_of_ble_eq_true rfl) (fun X hX => ?_)
  refine bk hX lkX11_ok (pc' := 2) [.iload_n 1, .iconst (Int.negSucc 0)] (by decide +kernel) (And.intro trivial ?_)
  refine ic_ne hX (16) 18 (by decide +kernel) (by decide) (fun c2 => ?_) (fun c2 => ?_)
  · refine bk hX lkX11_ok (pc' := 20) [.aload_n 0, .iload_n 1] (by decide +kernel) (And.intro trivial ?_)
    refine z_callV hX kw_X11_77 (c_X_isWorker E K N Rf _ L _ hg.1 hG.1) rfl rfl rfl rfl rfl (by decide +kernel) (by decide) (by decide) (by decide) (by decide) (Nat.le_of_ble_eq_true rfl) ?_
    rintro _ _ ⟨rfl, hh⟩
    rcases hh with ⟨hw, rfl⟩ | ⟨hw, rfl⟩
    · refine if_ne hX (5) 28 (by decide +kernel) (by decide) (fun c_23 => ?_) (fun c => absurd c (by decide))
      refine bk hX lkX11_ok (pc' := 29) [.iload_n 2] (by decide +kernel) (And.intro trivial ?_)
      refine z_callS hX kw_X11_120 (c_X_areHoles E _ _) rfl rfl (by decide +kernel) (by decide) (by decide) (by decide) (by decide) (Nat.le_of_ble_eq_true rfl) ?_
      rintro _ _ ⟨rfl, hh⟩
      rcases hh with ⟨hh1, rfl⟩ | ⟨hh1, rfl⟩
      · refine if_ne hX (6) 38 (by decide +kernel) (by decide) (fun c_32 => ?_) (fun c => absurd c (by decide))
        obtain ⟨i, hi, rfl⟩ := isIn_ex hw (by omega)
        obtain ⟨j, hj, rfl⟩ := isIn_ex hh1 (by decide)
        refine bk hX lkX11_ok (pc' := 48) [.aload_n 0, .getfield 12, .getfield 236, .iload_n 1, .iload_n 2, .iconst 0] (by decide +kernel) (And.intro trivial ?_)
        refine z_callV hX kw_X11_209 (c_R318_add E K N Rf I L h5 hs.1 _ _ _) rfl rfl rfl rfl rfl (by decide +kernel) (by decide) (by decide) (by decide) (by decide) (Nat.le_of_ble_eq_true rfl) ?_
        rintro _ _ (⟨hadd, rfl, rfl⟩ | ⟨hadd, rfl, rfl⟩)
        · exact z_iret hX (by decide +kernel) rfl (rfl) (by decide) (by decide) (by
  rw [show bookS s (gn g) (nI i) (nI j) = (nI (s.1 + 1), (s.1 + 1, upN s.2.1 s.1 i, upN s.2.2.1 s.1 j, s.2.2.2)) by rw [bookS, if_neg c2, if_pos hw, if_pos hh1, if_neg (by omega), jx_nI (by omega), jx_nI (by omega)]]
  exact ⟨_, rfl, rfl, xBk_add (r := 318) hs i j _, adI_fr 318 _ _ _ _ _⟩)
        · exact z_iret hX (by decide +kernel) rfl (rfl) (by decide) (by decide) (by
  rw [show bookS s (gn g) (nI i) (nI j) = (-nI 4, s) by rw [bookS, if_neg c2, if_pos hw, if_pos hh1, if_pos hadd]]
  exact ⟨I, rfl, rfl, hs, frZ_rf _ _⟩)
      · refine if_ne hX (6) 38 (by decide +kernel) (by decide) (fun c => absurd (by decide) c) (fun c_32 => ?_)
        refine bk hX lkX11_ok (pc' := 37) [.bipush (Int.negSucc 1)] (by decide +kernel) (And.intro trivial ?_)
        exact z_iret hX (by decide +kernel) rfl (rfl) (by decide) (by decide) (by
  rw [show bookS s (gn g) c h = (-nI 2, s) by rw [bookS, if_neg c2, if_pos hw, if_neg hh1]]
  exact ⟨I, rfl, rfl, hs, frZ_rf _ _⟩)
    · refine if_ne hX (5) 28 (by decide +kernel) (by decide) (fun c => absurd (by decide) c) (fun c_23 => ?_)
      refine bk hX lkX11_ok (pc' := 27) [.iconst (Int.negSucc 0)] (by decide +kernel) (And.intro trivial ?_)
      exact z_iret hX (by decide +kernel) rfl (rfl) (by decide) (by decide) (by
  rw [show bookS s (gn g) c h = (-nI 1, s) by rw [bookS, if_neg c2, if_neg hw]]
  exact ⟨I, rfl, rfl, hs, frZ_rf _ _⟩)
  · refine bk hX lkX11_ok (pc' := 17) [.aload_n 0, .getfield 12, .getfield 236, .iconst 0, .putfield 206, .iconst 0] (by decide +kernel) (And.intro trivial ?_)
    exact z_iret hX (by decide +kernel) rfl (rfl) (by decide) (by decide) (by
  rw [show bookS s (gn g) c h = (0, (0, s.2)) by rw [bookS, if_pos c2]]
  exact ⟨_, rfl, rfl, xBk_0 (r := 318), fr_0 (r := 318) _ (by decide)⟩)
set_option maxHeartbeats 1000000 in
theorem c_X_plan (E : zE) (K N : Nat → Nat) (Rf : Nat → Nat → Option Nat) (I : Nat → Nat → Int32) (L : Nat → Nat → Int64) {g : Gv} (hg : gwf g) (hG : xG 300 g K Rf I) {s : Rw} (hs : xPl 314 s I) (h5 : s.1 ≤ 10) (wh x : Int32) : zCt E mX11_plan 1 0 0 (sg K N Rf I L) [.ref 200, .int wh, .int x] (fun r σ' => ∃ I', σ' = sg K N Rf I' L ∧ r = some (.int (planS s (gn g) wh x).1) ∧ xPl 314 (planS s (gn g) wh x).2 I' ∧ frZ [314, 314 + 1, 314 + 2, 314 + 3] I I') := by
  have h6 := hg.1
  refine z_intro (by decide) (Nat.le_of_ble_eq_true rfl) (fun X hX => ?_)
  refine bk hX lkX11_ok (pc' := 2) [.iload_n 1, .iconst (Int.negSucc 0)] (by decide +kernel) (And.intro trivial ?_)
  refine ic_ne hX (16) 18 (by decide +kernel) (by decide) (fun c2 => ?_) (fun c2 => ?_)
  · refine bk hX lkX11_ok (pc' := 19) [.iload_n 1] (by decide +kernel) (And.intro trivial ?_)
    refine if_lt hX (8) 27 (by decide +kernel) (by decide) (fun c19 => ?_) (fun c19 => ?_)
    · refine bk hX lkX11_ok (pc' := 28) [.iconst (Int.negSucc 0)] (by decide +kernel) (And.intro trivial ?_)
      exact z_iret hX (by decide +kernel) rfl (rfl) (by decide) (by decide) (by
  have e : ¬ (isIn wh 4 = true ∧ (wh = nI 1 → prB (gn g) x = true) ∧ (nI 1 < wh → isIn x (gn g) = true)) := by
    first
      | exact fun z => isIn_f1 c19 z.1
      | exact fun z => isIn_gt 3 (i_nle.mp c24) (by decide) (by decide) z.1
      | (intro z
         have z2 := z.2.1 c31
         unfold prB at z2
         simp only [Bool.and_eq_true, decide_eq_true_iff] at z2
         first
           | (have z3 := z2.1
              rw [Int32.lt_iff_toInt_lt, show (0 : Int32).toInt = 0 from rfl] at c35
              omega)
           | exact hwa ((isIn_iff (by omega)).mpr ⟨_, z2.2.1, e10⟩)
           | exact hwb ((isIn_iff (by omega)).mpr ⟨_, z2.2.2, r10⟩))
      | exact fun z => isIn_f1 c19 z.1
  rw [show planS s (gn g) wh x = (-nI 1, s) by rw [planS, if_neg c2, if_neg e]]
  exact ⟨I, rfl, rfl, hs, frZ_rf _ _⟩)
    · refine bk hX lkX11_ok (pc' := 24) [.iload_n 1, .iconst 3] (by decide +kernel) (And.intro trivial ?_)
      refine ic_le hX (5) 29 (by decide +kernel) (by decide) (fun c24 => ?_) (fun c24 => ?_)
      · have h4 : isIn wh 4 = true := isIn_le 3 c19 (i_nlt.mpr c24)
        obtain ⟨ww, hww, rfl⟩ := isIn_ex h4 (by decide)
        have hgt1 : ∀ (a : ¬ nI ww = nI 1) (b : ¬ nI ww = 0), nI 1 < nI ww := fun a b => nI_lt (by
          have h1 : ww ≠ 1 := fun z => a (by rw [z])
          have h2 : ww ≠ 0 := fun z => b (by rw [z]; rfl)
          omega) (by omega)
        refine bk hX lkX11_ok (pc' := 31) [.iload_n 1, .iconst 1] (by decide +kernel) (And.intro trivial ?_)
        refine ic_ne hX (45) 76 (by decide +kernel) (by decide) (fun c31 => ?_) (fun c31 => ?_)
        · refine bk hX lkX11_ok (pc' := 77) [.iload_n 1] (by decide +kernel) (And.intro trivial ?_)
          refine if_eq hX (13) 90 (by decide +kernel) (by decide) (fun c77 => ?_) (fun c77 => ?_)
          · have hfin : (isIn (nI ww) 4 = true ∧ (nI ww = nI 1 → prB (gn g) x = true) ∧ (nI 1 < nI ww → isIn x (gn g) = true)) ∧ ¬ (nI ww = nI 1 ∧ jx x / 10 = jx x % 10) ∧ (1 ≤ ww → x = nI (jx x)) := by
              first
                | (refine ⟨hOK, fun z => ?_, fun _ => by rw [hjx]; exact hxe⟩
                   exact c70 (by rw [z.2]))
                | (refine ⟨⟨h4, fun z => absurd z c31, fun z => ?_⟩, fun z => c31 z.1, fun z => ?_⟩
                   · rw [c77] at z; exact absurd z (by decide)
                   · exact absurd (nI_inj (a := ww) (b := 0) (by omega) (by decide) c77) (by omega))
                | (refine ⟨⟨h4, fun z => absurd z c31, fun _ => hwc⟩, fun z => c31 z.1, fun _ => ?_⟩
                   obtain ⟨j1, z1, z2⟩ := isIn_ex hwc (by omega)
                   rw [z2, jx_nI (by omega)])
            refine bk hX lkX11_ok (pc' := 100) [.aload_n 0, .getfield 12, .getfield 224, .iload_n 1, .iload_n 2, .iconst 0] (by decide +kernel) (And.intro trivial ?_)
            refine z_callV hX kw_X11_209 (c_R314_add E K N Rf I L h5 hs.1 _ _ _) rfl rfl rfl rfl rfl (by decide +kernel) (by decide) (by decide) (by decide) (by decide) (Nat.le_of_ble_eq_true rfl) ?_
            rintro _ _ (⟨hadd, rfl, rfl⟩ | ⟨hadd, rfl, rfl⟩)
            · exact z_iret hX (by decide +kernel) rfl (rfl) (by decide) (by decide) (by
  rw [show planS s (gn g) (nI ww) x = (nI (s.1 + 1), (s.1 + 1, upN s.2.1 s.1 ww, upN s.2.2.1 s.1 (if nI 0 < nI ww then jx x else 0), s.2.2.2)) by rw [planS, if_neg c2, if_pos hfin.1, if_neg hfin.2.1, if_neg (by omega), jx_nI (by omega)]]
  refine ⟨_, rfl, rfl, xPl_add (r := 314) hs (fun z => ?_), adI_fr 314 _ _ _ _ _⟩
  rw [if_pos (nI_lt (by omega) (by omega))]
  exact hfin.2.2 z)
            · exact z_iret hX (by decide +kernel) rfl (rfl) (by decide) (by decide) (by
  rw [show planS s (gn g) (nI ww) x = (-nI 4, s) by rw [planS, if_neg c2, if_pos hfin.1, if_neg hfin.2.1, if_pos hadd]]
  exact ⟨I, rfl, rfl, hs, frZ_rf _ _⟩)
          · refine bk hX lkX11_ok (pc' := 82) [.aload_n 0, .iload_n 2] (by decide +kernel) (And.intro trivial ?_)
            refine z_callV hX kw_X11_77 (c_X_isWorker E K N Rf _ L _ hg.1 hG.1) rfl rfl rfl rfl rfl (by decide +kernel) (by decide) (by decide) (by decide) (by decide) (Nat.le_of_ble_eq_true rfl) ?_
            rintro _ _ ⟨rfl, hh⟩
            rcases hh with ⟨hwc, rfl⟩ | ⟨hwc, rfl⟩
            · refine if_ne hX (5) 90 (by decide +kernel) (by decide) (fun c_85 => ?_) (fun c => absurd c (by decide))
              have hfin : (isIn (nI ww) 4 = true ∧ (nI ww = nI 1 → prB (gn g) x = true) ∧ (nI 1 < nI ww → isIn x (gn g) = true)) ∧ ¬ (nI ww = nI 1 ∧ jx x / 10 = jx x % 10) ∧ (1 ≤ ww → x = nI (jx x)) := by
                first
                  | (refine ⟨hOK, fun z => ?_, fun _ => by rw [hjx]; exact hxe⟩
                     exact c70 (by rw [z.2]))
                  | (refine ⟨⟨h4, fun z => absurd z c31, fun z => ?_⟩, fun z => c31 z.1, fun z => ?_⟩
                     · rw [c77] at z; exact absurd z (by decide)
                     · exact absurd (nI_inj (a := ww) (b := 0) (by omega) (by decide) c77) (by omega))
                  | (refine ⟨⟨h4, fun z => absurd z c31, fun _ => hwc⟩, fun z => c31 z.1, fun _ => ?_⟩
                     obtain ⟨j1, z1, z2⟩ := isIn_ex hwc (by omega)
                     rw [z2, jx_nI (by omega)])
              refine bk hX lkX11_ok (pc' := 100) [.aload_n 0, .getfield 12, .getfield 224, .iload_n 1, .iload_n 2, .iconst 0] (by decide +kernel) (And.intro trivial ?_)
              refine z_callV hX kw_X11_209 (c_R314_add E K N Rf I L h5 hs.1 _ _ _) rfl rfl rfl rfl rfl (by decide +kernel) (by decide) (by decide) (by decide) (by decide) (Nat.le_of_ble_eq_true rfl) ?_
              rintro _ _ (⟨hadd, rfl, rfl⟩ | ⟨hadd, rfl, rfl⟩)
              · exact z_iret hX (by decide +kernel) rfl (rfl) (by decide) (by decide) (by
  rw [show planS s (gn g) (nI ww) x = (nI (s.1 + 1), (s.1 + 1, upN s.2.1 s.1 ww, upN s.2.2.1 s.1 (if nI 0 < nI ww then jx x else 0), s.2.2.2)) by rw [planS, if_neg c2, if_pos hfin.1, if_neg hfin.2.1, if_neg (by omega), jx_nI (by omega)]]
  refine ⟨_, rfl, rfl, xPl_add (r := 314) hs (fun z => ?_), adI_fr 314 _ _ _ _ _⟩
  rw [if_pos (nI_lt (by omega) (by omega))]
  exact hfin.2.2 z)
              · exact z_iret hX (by decide +kernel) rfl (rfl) (by decide) (by decide) (by
  rw [show planS s (gn g) (nI ww) x = (-nI 4, s) by rw [planS, if_neg c2, if_pos hfin.1, if_neg hfin.2.1, if_pos hadd]]
  exact ⟨I, rfl, rfl, hs, frZ_rf _ _⟩)
            · refine if_ne hX (5) 90 (by decide +kernel) (by decide) (fun c => absurd (by decide) c) (fun c_85 => ?_)
              refine bk hX lkX11_ok (pc' := 89) [.iconst (Int.negSucc 0)] (by decide +kernel) (And.intro trivial ?_)
              exact z_iret hX (by decide +kernel) rfl (rfl) (by decide) (by decide) (by
  have e : ¬ (isIn (nI ww) 4 = true ∧ (nI ww = nI 1 → prB (gn g) x = true) ∧ (nI 1 < nI ww → isIn x (gn g) = true)) := by
    first
      | exact fun z => isIn_f1 c19 z.1
      | exact fun z => isIn_gt 3 (i_nle.mp c24) (by decide) (by decide) z.1
      | (intro z
         have z2 := z.2.1 c31
         unfold prB at z2
         simp only [Bool.and_eq_true, decide_eq_true_iff] at z2
         first
           | (have z3 := z2.1
              rw [Int32.lt_iff_toInt_lt, show (0 : Int32).toInt = 0 from rfl] at c35
              omega)
           | exact hwa ((isIn_iff (by omega)).mpr ⟨_, z2.2.1, e10⟩)
           | exact hwb ((isIn_iff (by omega)).mpr ⟨_, z2.2.2, r10⟩))
      | exact fun z => hwc (z.2.2 (hgt1 c31 c77))
  rw [show planS s (gn g) (nI ww) x = (-nI 1, s) by rw [planS, if_neg c2, if_neg e]]
  exact ⟨I, rfl, rfl, hs, frZ_rf _ _⟩)
        · refine bk hX lkX11_ok (pc' := 35) [.iload_n 2] (by decide +kernel) (And.intro trivial ?_)
          refine if_lt hX (25) 60 (by decide +kernel) (by decide) (fun c35 => ?_) (fun c35 => ?_)
          · refine bk hX lkX11_ok (pc' := 61) [.iconst (Int.negSucc 0)] (by decide +kernel) (And.intro trivial ?_)
            exact z_iret hX (by decide +kernel) rfl (rfl) (by decide) (by decide) (by
  have e : ¬ (isIn (nI ww) 4 = true ∧ (nI ww = nI 1 → prB (gn g) x = true) ∧ (nI 1 < nI ww → isIn x (gn g) = true)) := by
    first
      | exact fun z => isIn_f1 c19 z.1
      | exact fun z => isIn_gt 3 (i_nle.mp c24) (by decide) (by decide) z.1
      | (intro z
         have z2 := z.2.1 c31
         unfold prB at z2
         simp only [Bool.and_eq_true, decide_eq_true_iff] at z2
         first
           | (have z3 := z2.1
              rw [Int32.lt_iff_toInt_lt, show (0 : Int32).toInt = 0 from rfl] at c35
              omega)
           | exact hwa ((isIn_iff (by omega)).mpr ⟨_, z2.2.1, e10⟩)
           | exact hwb ((isIn_iff (by omega)).mpr ⟨_, z2.2.2, r10⟩))
      | exact fun z => hwc (z.2.2 (hgt1 c31 c77))
  rw [show planS s (gn g) (nI ww) x = (-nI 1, s) by rw [planS, if_neg c2, if_neg e]]
  exact ⟨I, rfl, rfl, hs, frZ_rf _ _⟩)
          · obtain ⟨xx, hxx, hxe⟩ := nI_of c35
            have hjx : jx x = xx := by rw [hxe]; exact jx_nI hxx
            have e10 : x / nI 10 = nI (jx x / 10) := by rw [hjx, hxe]; exact i_div hxx (by decide) (by decide)
            have r10 : x - x / nI 10 * nI 10 = nI (jx x % 10) := by rw [hjx, hxe]; exact i_mod hxx (by decide) (by decide)
            refine bk hX lkX11_ok (pc' := 43) [.aload_n 0, .iload_n 2, .bipush 10, .idiv] (by decide +kernel) (And.intro (by decide) (And.intro trivial ?_))
            refine z_callV hX kw_X11_77 (c_X_isWorker E K N Rf _ L _ hg.1 hG.1) rfl rfl rfl rfl rfl (by decide +kernel) (by decide) (by decide) (by decide) (by decide) (Nat.le_of_ble_eq_true rfl) ?_
            rintro _ _ ⟨rfl, hh⟩
            rcases hh with ⟨hwa, rfl⟩ | ⟨hwa, rfl⟩
            · refine if_eq hX (14) 60 (by decide +kernel) (by decide) (fun c => absurd c (by decide)) (fun c_46 => ?_)
              refine bk hX lkX11_ok (pc' := 54) [.aload_n 0, .iload_n 2, .bipush 10, .irem] (by decide +kernel) (And.intro (by decide) (And.intro trivial ?_))
              refine z_callV hX kw_X11_77 (c_X_isWorker E K N Rf _ L _ hg.1 hG.1) rfl rfl rfl rfl rfl (by decide +kernel) (by decide) (by decide) (by decide) (by decide) (Nat.le_of_ble_eq_true rfl) ?_
              rintro _ _ ⟨rfl, hh⟩
              rcases hh with ⟨hwb, rfl⟩ | ⟨hwb, rfl⟩
              · refine if_ne hX (5) 62 (by decide +kernel) (by decide) (fun c_57 => ?_) (fun c => absurd c (by decide))
                have hpr : prB (gn g) x = true := by
                  unfold prB
                  simp only [Bool.and_eq_true, decide_eq_true_iff]
                  rw [e10] at hwa
                  rw [r10] at hwb
                  obtain ⟨j1, z1, z2⟩ := isIn_ex hwa (by omega)
                  obtain ⟨j2, z3, z4⟩ := isIn_ex hwb (by omega)
                  have y1 := nI_inj (by omega) (by omega) z2
                  have y2 := nI_inj (by omega) (by omega) z4
                  refine ⟨by rw [hxe, nI_toInt hxx]; omega, by omega, by omega⟩
                have hOK : isIn (nI ww) 4 = true ∧ (nI ww = nI 1 → prB (gn g) x = true) ∧ (nI 1 < nI ww → isIn x (gn g) = true) := ⟨h4, fun _ => hpr, fun z => absurd c31 (fun y => by rw [y] at z; exact absurd z (by decide))⟩
                refine bk hX lkX11_ok (pc' := 70) [.iload_n 2, .bipush 10, .idiv, .iload_n 2, .bipush 10, .irem] (by decide +kernel) (And.intro (by decide) (And.intro (by decide) (And.intro trivial ?_)))
                rw [r10, e10]
                refine ic_ne hX (20) 90 (by decide +kernel) (by decide) (fun c70 => ?_) (fun c70 => ?_)
                · have hfin : (isIn (nI ww) 4 = true ∧ (nI ww = nI 1 → prB (gn g) x = true) ∧ (nI 1 < nI ww → isIn x (gn g) = true)) ∧ ¬ (nI ww = nI 1 ∧ jx x / 10 = jx x % 10) ∧ (1 ≤ ww → x = nI (jx x)) := by
                    first
                      | (refine ⟨hOK, fun z => ?_, fun _ => by rw [hjx]; exact hxe⟩
                         exact c70 (by rw [z.2]))
                      | (refine ⟨⟨h4, fun z => absurd z c31, fun z => ?_⟩, fun z => c31 z.1, fun z => ?_⟩
                         · rw [c77] at z; exact absurd z (by decide)
                         · exact absurd (nI_inj (a := ww) (b := 0) (by omega) (by decide) c77) (by omega))
                      | (refine ⟨⟨h4, fun z => absurd z c31, fun _ => hwc⟩, fun z => c31 z.1, fun _ => ?_⟩
                         obtain ⟨j1, z1, z2⟩ := isIn_ex hwc (by omega)
                         rw [z2, jx_nI (by omega)])
                  refine bk hX lkX11_ok (pc' := 100) [.aload_n 0, .getfield 12, .getfield 224, .iload_n 1, .iload_n 2, .iconst 0] (by decide +kernel) (And.intro trivial ?_)
                  refine z_callV hX kw_X11_209 (c_R314_add E K N Rf I L h5 hs.1 _ _ _) rfl rfl rfl rfl rfl (by decide +kernel) (by decide) (by decide) (by decide) (by decide) (Nat.le_of_ble_eq_true rfl) ?_
                  rintro _ _ (⟨hadd, rfl, rfl⟩ | ⟨hadd, rfl, rfl⟩)
                  · exact z_iret hX (by decide +kernel) rfl (rfl) (by decide) (by decide) (by
  rw [show planS s (gn g) (nI ww) x = (nI (s.1 + 1), (s.1 + 1, upN s.2.1 s.1 ww, upN s.2.2.1 s.1 (if nI 0 < nI ww then jx x else 0), s.2.2.2)) by rw [planS, if_neg c2, if_pos hfin.1, if_neg hfin.2.1, if_neg (by omega), jx_nI (by omega)]]
  refine ⟨_, rfl, rfl, xPl_add (r := 314) hs (fun z => ?_), adI_fr 314 _ _ _ _ _⟩
  rw [if_pos (nI_lt (by omega) (by omega))]
  exact hfin.2.2 z)
                  · exact z_iret hX (by decide +kernel) rfl (rfl) (by decide) (by decide) (by
  rw [show planS s (gn g) (nI ww) x = (-nI 4, s) by rw [planS, if_neg c2, if_pos hfin.1, if_neg hfin.2.1, if_pos hadd]]
  exact ⟨I, rfl, rfl, hs, frZ_rf _ _⟩)
                · refine bk hX lkX11_ok (pc' := 75) [.bipush (Int.negSucc 1)] (by decide +kernel) (And.intro trivial ?_)
                  exact z_iret hX (by decide +kernel) rfl (rfl) (by decide) (by decide) (by
  have hj : jx x / 10 = jx x % 10 := nI_inj (by omega) (by omega) c70
  rw [show planS s (gn g) (nI ww) x = (-nI 2, s) by rw [planS, if_neg c2, if_pos hOK, if_pos ⟨c31, hj⟩]]
  exact ⟨I, rfl, rfl, hs, frZ_rf _ _⟩)
              · refine if_ne hX (5) 62 (by decide +kernel) (by decide) (fun c => absurd (by decide) c) (fun c_57 => ?_)
                refine bk hX lkX11_ok (pc' := 61) [.iconst (Int.negSucc 0)] (by decide +kernel) (And.intro trivial ?_)
                exact z_iret hX (by decide +kernel) rfl (rfl) (by decide) (by decide) (by
  have e : ¬ (isIn (nI ww) 4 = true ∧ (nI ww = nI 1 → prB (gn g) x = true) ∧ (nI 1 < nI ww → isIn x (gn g) = true)) := by
    first
      | exact fun z => isIn_f1 c19 z.1
      | exact fun z => isIn_gt 3 (i_nle.mp c24) (by decide) (by decide) z.1
      | (intro z
         have z2 := z.2.1 c31
         unfold prB at z2
         simp only [Bool.and_eq_true, decide_eq_true_iff] at z2
         first
           | (have z3 := z2.1
              rw [Int32.lt_iff_toInt_lt, show (0 : Int32).toInt = 0 from rfl] at c35
              omega)
           | exact hwa ((isIn_iff (by omega)).mpr ⟨_, z2.2.1, e10⟩)
           | exact hwb ((isIn_iff (by omega)).mpr ⟨_, z2.2.2, r10⟩))
      | exact fun z => hwc (z.2.2 (hgt1 c31 c77))
  rw [show planS s (gn g) (nI ww) x = (-nI 1, s) by rw [planS, if_neg c2, if_neg e]]
  exact ⟨I, rfl, rfl, hs, frZ_rf _ _⟩)
            · refine if_eq hX (14) 60 (by decide +kernel) (by decide) (fun c_46 => ?_) (fun c => absurd (by decide) c)
              refine bk hX lkX11_ok (pc' := 61) [.iconst (Int.negSucc 0)] (by decide +kernel) (And.intro trivial ?_)
              exact z_iret hX (by decide +kernel) rfl (rfl) (by decide) (by decide) (by
  have e : ¬ (isIn (nI ww) 4 = true ∧ (nI ww = nI 1 → prB (gn g) x = true) ∧ (nI 1 < nI ww → isIn x (gn g) = true)) := by
    first
      | exact fun z => isIn_f1 c19 z.1
      | exact fun z => isIn_gt 3 (i_nle.mp c24) (by decide) (by decide) z.1
      | (intro z
         have z2 := z.2.1 c31
         unfold prB at z2
         simp only [Bool.and_eq_true, decide_eq_true_iff] at z2
         first
           | (have z3 := z2.1
              rw [Int32.lt_iff_toInt_lt, show (0 : Int32).toInt = 0 from rfl] at c35
              omega)
           | exact hwa ((isIn_iff (by omega)).mpr ⟨_, z2.2.1, e10⟩)
           | exact hwb ((isIn_iff (by omega)).mpr ⟨_, z2.2.2, r10⟩))
      | exact fun z => hwc (z.2.2 (hgt1 c31 c77))
  rw [show planS s (gn g) (nI ww) x = (-nI 1, s) by rw [planS, if_neg c2, if_neg e]]
  exact ⟨I, rfl, rfl, hs, frZ_rf _ _⟩)
      · refine bk hX lkX11_ok (pc' := 28) [.iconst (Int.negSucc 0)] (by decide +kernel) (And.intro trivial ?_)
        exact z_iret hX (by decide +kernel) rfl (rfl) (by decide) (by decide) (by
  have e : ¬ (isIn wh 4 = true ∧ (wh = nI 1 → prB (gn g) x = true) ∧ (nI 1 < wh → isIn x (gn g) = true)) := by
    first
      | exact fun z => isIn_f1 c19 z.1
      | exact fun z => isIn_gt 3 (i_nle.mp c24) (by decide) (by decide) z.1
      | (intro z
         have z2 := z.2.1 c31
         unfold prB at z2
         simp only [Bool.and_eq_true, decide_eq_true_iff] at z2
         first
           | (have z3 := z2.1
              rw [Int32.lt_iff_toInt_lt, show (0 : Int32).toInt = 0 from rfl] at c35
              omega)
           | exact hwa ((isIn_iff (by omega)).mpr ⟨_, z2.2.1, e10⟩)
           | exact hwb ((isIn_iff (by omega)).mpr ⟨_, z2.2.2, r10⟩))
      | exact fun z => isIn_f1 c19 z.1
  rw [show planS s (gn g) wh x = (-nI 1, s) by rw [planS, if_neg c2, if_neg e]]
  exact ⟨I, rfl, rfl, hs, frZ_rf _ _⟩)
  · refine bk hX lkX11_ok (pc' := 17) [.aload_n 0, .getfield 12, .getfield 224, .iconst 0, .putfield 206, .iconst 0] (by decide +kernel) (And.intro trivial ?_)
    exact z_iret hX (by decide +kernel) rfl (rfl) (by decide) (by decide) (by
  rw [show planS s (gn g) wh x = (0, (0, s.2)) by rw [planS, if_pos c2]]
  exact ⟨_, rfl, rfl, xPl_0 (r := 314), fr_0 (r := 314) _ (by decide)⟩)
