def vG (g : Gv) (p k : Nat) : Gv := (gn g, gk g, upN (gv g) p k, gc g, gh g, gr g, ga g, gd g)
theorem gwf_v {g : Gv} (hg : gwf g) {p k : Nat} (hk : k ≤ 9) : gwf (vG g p k) := by
  obtain ⟨a1, a2, a3⟩ := hg
  refine ⟨a1, fun q hq => ⟨(a2 q hq).1, ?_, (a2 q hq).2.2⟩, a3⟩
  show upN (gv g) p k q ≤ 9
  unfold upN
  split
  · exact hk
  · exact (a2 q hq).2.1
theorem mG_v {g : Gv} {I : Nat → Nat → Int32} (hG : mG g I) {x : Int32} {I1 : Nat → Nat → Int32} {p k : Nat} (h : sE (up2 I 105 p x) I1) : mG (vG g p k) (up2 I1 105 p (nI k)) := by
  obtain ⟨a1, a2, a3, a4⟩ := hG
  obtain ⟨h1, h2⟩ := h
  have hr : ∀ q, q ∉ scP → q ≠ 100 → q ≠ 105 → up2 I1 105 p (nI k) q = I q := fun q a b c => by rw [up2_ne _ _ _ c, h1 q a b, up2_ne _ _ _ c]
  have hf : ∀ j, j ∉ scF → up2 I1 105 p (nI k) 100 j = I 100 j := fun j a => by rw [up2_ne _ _ _ (by decide), h2 j a, up2_ne _ _ _ (by decide)]
  refine ⟨by rw [hf 0 (by decide)]; exact a1, by rw [hf 1 (by decide)]; exact a2, by rw [hf 2 (by decide)]; exact a3, fun q hq => ?_⟩
  obtain ⟨b1, b2, b3, b4, b5⟩ := a4 q hq
  refine ⟨by rw [hr _ (by decide) (by decide) (by decide)]; exact b1, ?_, by rw [hr _ (by decide) (by decide) (by decide)]; exact b3, by rw [hr _ (by decide) (by decide) (by decide)]; exact b4, fun j hj => by rw [hr _ (by decide) (by decide) (by decide)]; exact b5 j hj⟩
  show up2 I1 105 p (nI k) 105 q = nI (upN (gv g) p k q)
  rw [up2_at, h1 _ (by decide) (by decide), up2_at]
  unfold upN
  split
  · rfl
  · exact b2
theorem sE_v {I I1 : Nat → Nat → Int32} {p : Nat} {x : Int32} (h : sE (up2 I 105 p x) I1) (y : Int32) : sE (up2 I 105 p y) (up2 I1 105 p y) := by
  obtain ⟨h1, h2⟩ := h
  refine ⟨fun q a b => ?_, fun k a => ?_⟩
  · by_cases hq : q = 105
    · subst hq
      funext k
      rw [up2_at, up2_at, h1 _ a b, up2_at]
      split <;> rfl
    · rw [up2_ne _ _ _ hq, up2_ne _ _ _ hq, h1 q a b, up2_ne _ _ _ hq]
  · rw [up2_ne _ _ _ (by decide), up2_ne _ _ _ (by decide), h2 k a, up2_ne _ _ _ (by decide)]
theorem up2_id {I : Nat → Nat → Int32} (q k : Nat) : up2 I q k (I q k) = I := by
  funext a b
  rw [up2_v]
  split
  · rename_i h; rw [h.1, h.2]
  · rfl
/-- can: how many, the least -/
def cnL (g : Gv) (r : Nat) (s : Rw) (p : Nat) : Nat → Nat × Int32 → Nat × Int32
  | 0, x => x
  | k + 1, x => cnL g r s p k (if snB (vG g p k) r s s.1 = true then (x.1 + 1, nI k) else x)
def canS (g : Gv) (r : Nat) (s : Rw) (x what : Int32) : Int32 := if isIn x (gn g) = true ∧ isIn what 2 = true then (if what = 0 then nI (cnL g r s (jx x) 10 (0, -nI 5)).1 else (cnL g r s (jx x) 10 (0, -nI 5)).2) else -nI 1
set_option maxHeartbeats 2000000 in
theorem c_M_can (E : zE) (K N : Nat → Nat) (Rf : Nat → Nat → Option Nat) (I : Nat → Nat → Int32) (L : Nat → Nat → Int64) {g : Gv} (hg : gwf g) (hG : mG g I) {w : Wk} {b : Nat} (hB : mHB w b I) (hd : gd g ≤ 90000) {s : Rw} (hs : mSn s I) (hws : wSn s g) (x what : Int32) : zCt E mX12_can 6 0 0 (sg K N Rf I L) [.ref 100, .int x, .int what] (fun r σ' => ∃ I', σ' = sg K N Rf I' L ∧ r = some (.int (canS g (rdS w) s x what)) ∧ sE I I') := by
  have h6 := hg.1
  have hl : ∀ (p : Nat), p < gn g → isIn what 2 = true → ∀ X : zX, zD X E mX12_can 6 0 0 (fun r σ' => ∃ I', σ' = sg K N Rf I' L ∧ r = some (.int (canS g (rdS w) s (nI p) what)) ∧ sE I I') → ∀ k (y : Nat × Int32) (z : Int32) (I1 : Nat → Nat → Int32), k ≤ 10 → y.1 + k ≤ 10 → sE (up2 I 105 p z) I1 → cnL g (rdS w) s p k y = cnL g (rdS w) s p 10 (0, -nI 5) → zS X (sg K N Rf I1 L) 0 0 38 [(0, .ref 100), (1, .int (nI p)), (2, .int what), (3, .int (I 105 p)), (4, .int (nI y.1)), (5, .int y.2), (6, .int (nI k - nI 1))] [] := by
    intro p hp hwh X hX k
    have hful : canS g (rdS w) s (nI p) what = if what = 0 then nI (cnL g (rdS w) s p 10 (0, -nI 5)).1 else (cnL g (rdS w) s p 10 (0, -nI 5)).2 := by
      unfold canS; rw [if_pos ⟨isIn_nI hp (by omega), hwh⟩, jx_nI (by omega)]
    have cp : (nI p).toNatClampNeg = p := cl (by omega)
    induction k with
    | zero =>
      intro y z I1 hk hy h1 hf
      have hback := sE_v h1 (I 105 p)
      rw [up2_id] at hback
      refine bk hX lkX12_ok (pc' := 40) [.iload 6] (by decide +kernel) (And.intro trivial ?_)
      refine if_lt hX (34) 74 (by decide +kernel) (by decide) (fun c_40 => ?_) (fun c => absurd (by decide) c)
      refine bk hX lkX12_ok (pc' := 82) [.aload_n 0, .getfield 23, .iload_n 1, .iload_n 3, .iastore, .iload_n 2] (by decide +kernel) (And.intro (by exact vin 6 (by omega)) (And.intro trivial ?_))
      refine if_ne hX (8) 90 (by decide +kernel) (by decide) (fun cw => ?_) (fun cw => ?_)
      · refine bk hX lkX12_ok (pc' := 92) [.iload 5] (by decide +kernel) (And.intro trivial ?_)
        exact z_iret hX (by decide +kernel) rfl (rfl) (by decide) (by decide) (by rw [cp]; first | exact ⟨_, rfl, by rw [hful, if_pos cw, ← hf]; rfl, hback⟩ | exact ⟨_, rfl, by rw [hful, if_neg cw, ← hf]; rfl, hback⟩)
      · refine bk hX lkX12_ok (pc' := 87) [.iload 4] (by decide +kernel) (And.intro trivial ?_)
        refine gt_ hX (5) 92 (by decide +kernel) (by decide) ?_
        exact z_iret hX (by decide +kernel) rfl (rfl) (by decide) (by decide) (by rw [cp]; first | exact ⟨_, rfl, by rw [hful, if_pos cw, ← hf]; rfl, hback⟩ | exact ⟨_, rfl, by rw [hful, if_neg cw, ← hf]; rfl, hback⟩)
    | succ k ih =>
      intro y z I1 hk hy h1 hf
      have hGv := mG_v (k := k) hG h1
      have hBv : mHB w b (up2 I1 105 p (nI k)) := mHB_sE (mHB_c (p := 105) (k := p) (v := nI k) hB (Or.inr rfl)) (sE_v h1 (nI k))
      have hSv : mSn s (up2 I1 105 p (nI k)) := mSn_sE (mSn_c (p := 105) (k := p) (v := nI k) hs (Or.inr rfl)) (sE_v h1 (nI k))
      have hf' : cnL g (rdS w) s p k (if snB (vG g p k) (rdS w) s s.1 = true then (y.1 + 1, nI k) else y) = cnL g (rdS w) s p 10 (0, -nI 5) := hf
      rw [show nI (k + 1) - nI 1 = nI k from i_m1 (by omega)]
      refine bk hX lkX12_ok (pc' := 40) [.iload 6] (by decide +kernel) (And.intro trivial ?_)
      refine if_lt hX (34) 74 (by decide +kernel) (by decide) (fun c => absurd c (fun zz => absurd zz (nI_pos (by omega)))) (fun c_40 => ?_)
      refine bk hX lkX12_ok (pc' := 51) [.aload_n 0, .getfield 23, .iload_n 1, .iload 6, .iastore] (by decide +kernel) (And.intro (by exact vin 6 (by omega)) (And.intro trivial ?_))
      rw [cp]
      refine bk hX lkX12_ok (pc' := 52) [.aload_n 0] (by decide +kernel) (And.intro trivial ?_)
      refine z_callV hX kw_X12_367 (c_M_isSeen E K N Rf _ L (gwf_v hg (p := p) (k := k) (by omega)) hGv hBv hd hSv hws) rfl rfl rfl rfl rfl (by decide +kernel) (by decide) (by decide) (by decide) (by decide) (Nat.le_of_ble_eq_true rfl) ?_
      rintro _ _ ⟨I2, rfl, rfl, h3⟩
      refine if_ne hX (6) 61 (by decide +kernel) (by decide) (fun cb => ?_) (fun cb => ?_)
      · refine bk hX lkX12_ok (pc' := 71) [.iinc 4 1, .iload 6, .istore 5, .iinc 6 (Int.negSucc 0)] (by decide +kernel) (And.intro trivial ?_)
        refine gt_ hX (-33) 38 (by decide +kernel) (by decide) ?_
        refine z_lvk (lv' := [(0, _), (1, _), (2, _), (3, _), (4, _), (5, _), (6, _)]) [3, 4, 5, 6, 2, 1, 0] rfl ?_
        rw [← Int32.sub_eq_add_neg]
        first
          | (rw [if_pos (b2i_t cb)] at hf'
             rw [nI_add]
             exact ih (y.1 + 1, nI k) (nI k) I2 (by omega) (by show y.1 + 1 + k ≤ 10; omega) (sE_tr (sE_v h1 (nI k)) h3) hf')
          | (rw [if_neg (fun zz => by rw [zz] at cb; exact absurd cb (by decide))] at hf'
             exact ih y (nI k) I2 (by omega) (by omega) (sE_tr (sE_v h1 (nI k)) h3) hf')
      · refine gt_ hX (10) 68 (by decide +kernel) (by decide) ?_
        refine bk hX lkX12_ok (pc' := 71) [.iinc 6 (Int.negSucc 0)] (by decide +kernel) (And.intro trivial ?_)
        refine gt_ hX (-33) 38 (by decide +kernel) (by decide) ?_
        refine z_lvk (lv' := [(0, _), (1, _), (2, _), (3, _), (4, _), (5, _), (6, _)]) [1, 2, 3, 4, 5, 6, 0] rfl ?_
        rw [← Int32.sub_eq_add_neg]
        first
          | (rw [if_pos (b2i_t cb)] at hf'
             rw [nI_add]
             exact ih (y.1 + 1, nI k) (nI k) I2 (by omega) (by show y.1 + 1 + k ≤ 10; omega) (sE_tr (sE_v h1 (nI k)) h3) hf')
          | (rw [if_neg (fun zz => by rw [zz] at cb; exact absurd cb (by decide))] at hf'
             exact ih y (nI k) I2 (by omega) (by omega) (sE_tr (sE_v h1 (nI k)) h3) hf')
  refine z_intro (by decide) (Nat.le_of_ble_eq_true rfl) (fun X hX => ?_)
  refine bk hX lkX12_ok (pc' := 2) [.aload_n 0, .iload_n 1] (by decide +kernel) (And.intro trivial ?_)
  refine z_callV hX kw_X12_232 (c_M_isWorker E K N Rf I L _ hg.1 hG.1) rfl rfl rfl rfl rfl (by decide +kernel) (by decide) (by decide) (by decide) (by decide) (Nat.le_of_ble_eq_true rfl) ?_
  rintro _ _ ⟨rfl, hh⟩
  rw [← isIn_iff (by omega)] at hh
  rcases hh with ⟨hx, rfl⟩ | ⟨hx, rfl⟩
  · refine if_eq hX (13) 18 (by decide +kernel) (by decide) (fun c => absurd c (by decide)) (fun c_5 => ?_)
    refine bk hX lkX12_ok (pc' := 12) [.aload_n 0, .iload_n 2, .iconst 0, .iconst 1] (by decide +kernel) (And.intro trivial ?_)
    refine z_callV hX kw_X12_228 (c_M_in E _ _ _ _ _) rfl rfl rfl rfl rfl (by decide +kernel) (by decide) (by decide) (by decide) (by decide) (Nat.le_of_ble_eq_true rfl) ?_
    rintro _ _ ⟨rfl, hh⟩
    rw [in_ix 1 (by decide)] at hh
    rcases hh with ⟨hw1, rfl⟩ | ⟨hw1, rfl⟩
    · refine if_ne hX (5) 20 (by decide +kernel) (by decide) (fun c_15 => ?_) (fun c => absurd c (by decide))
      obtain ⟨p, hp, rfl⟩ := (isIn_iff (by omega)).mp hx
      refine bk hX lkX12_ok (pc' := 38) [.aload_n 0, .getfield 23, .iload_n 1, .iaload, .istore_n 3, .iconst 0, .istore 4, .bipush (Int.negSucc 4), .istore 5, .bipush 9, .istore 6] (by decide +kernel) (And.intro (by exact vin 6 (by omega)) (And.intro trivial ?_))
      refine z_lvk (lv' := [(0, _), (1, _), (2, _), (3, _), (4, _), (5, _), (6, _)]) [4, 5, 6, 3, 2, 1, 0] rfl ?_
      rw [cl (by omega)]
      exact hl p hp hw1 X hX 10 (0, -nI 5) (I 105 p) I (by decide) (by decide) (by rw [up2_id]; exact sE_rf _) rfl
    · refine if_ne hX (5) 20 (by decide +kernel) (by decide) (fun c => absurd (by decide) c) (fun c_15 => ?_)
      refine bk hX lkX12_ok (pc' := 19) [.iconst (Int.negSucc 0)] (by decide +kernel) (And.intro trivial ?_)
      exact z_iret hX (by decide +kernel) rfl (rfl) (by decide) (by decide) (by first | exact ⟨I, rfl, by unfold canS; rw [if_neg (fun z => hx z.1)], sE_rf _⟩ | exact ⟨I, rfl, by unfold canS; rw [if_neg (fun z => hw1 z.2)], sE_rf _⟩)
  · refine if_eq hX (13) 18 (by decide +kernel) (by decide) (fun c_5 => ?_) (fun c => absurd (by decide) c)
    refine bk hX lkX12_ok (pc' := 19) [.iconst (Int.negSucc 0)] (by decide +kernel) (And.intro trivial ?_)
    exact z_iret hX (by decide +kernel) rfl (rfl) (by decide) (by decide) (by first | exact ⟨I, rfl, by unfold canS; rw [if_neg (fun z => hx z.1)], sE_rf _⟩ | exact ⟨I, rfl, by unfold canS; rw [if_neg (fun z => hw1 z.2)], sE_rf _⟩)
theorem c_M_divisor (E : zE) (σ : Sg) (a0 : Nat) {x y : Nat} (hx : x < 2 ^ 31) (hy : y < 2 ^ 31) : zCt E mX12_divisor 0 0 0 σ [.ref a0, .int (nI x), .int (nI y)] (fun r σ' => σ' = σ ∧ r = some (.int (nI (Nat.gcd x y)))) := by
  refine z_intro (by decide) (Nat.le_of_ble_eq_true rfl) (fun X hX => ?_)
  have hl : ∀ m p q, q ≤ m → p < 2 ^ 31 → q < 2 ^ 31 → Nat.gcd p q = Nat.gcd x y → zS X σ 0 0 5 [(3, .int (nI p)), (4, .int (nI q))] [] := by
    intro m
    induction m with
    | zero =>
      intro p q hm hp hq hg
      obtain rfl : q = 0 := Nat.le_zero.mp hm
      refine bk hX lkX12_ok (pc' := 7) [.iload 4] (by decide +kernel) (And.intro trivial ?_)
      refine if_eq hX (19) 26 (by decide +kernel) (by decide) (fun c_7 => ?_) (fun c => absurd (by decide) c)
      refine bk hX lkX12_ok (pc' := 27) [.iload_n 3] (by decide +kernel) (And.intro trivial ?_)
      exact z_iret hX (by decide +kernel) rfl (rfl) (by decide) (by decide) (by rw [← hg, Nat.gcd_zero_right]; exact ⟨rfl, rfl⟩)
    | succ m ih =>
      intro p q hm hp hq hg
      refine bk hX lkX12_ok (pc' := 7) [.iload 4] (by decide +kernel) (And.intro trivial ?_)
      refine if_eq hX (19) 26 (by decide +kernel) (by decide) (fun c0 => ?_) (fun c0 => ?_)
      · refine bk hX lkX12_ok (pc' := 27) [.iload_n 3] (by decide +kernel) (And.intro trivial ?_)
        exact z_iret hX (by decide +kernel) rfl (rfl) (by decide) (by decide) (by have hz : q = 0 := nI_inj (b := 0) hq (by decide) c0; rw [← hg, hz, Nat.gcd_zero_right]; exact ⟨rfl, rfl⟩)
      · refine bk hX lkX12_ok (pc' := 23) [.iload_n 3, .iload 4, .irem, .istore 5, .iload 4, .istore_n 3, .iload 5, .istore 4] (by decide +kernel) (And.intro (by exact c0) (And.intro trivial ?_))
        refine gt_ hX (-18) 5 (by decide +kernel) (by decide) ?_
        refine z_lvk (lv' := [(3, _), (4, _)]) [1, 0] rfl ?_
        have hq0 : 0 < q := Nat.pos_of_ne_zero (fun z => c0 (by rw [z]; rfl))
        have hml := Nat.mod_lt p hq0
        rw [i_mod hp hq0 hq]
        exact ih q (p % q) (by omega) hq (by omega) (by rw [← hg, Nat.gcd_comm p q, Nat.gcd_rec q p, Nat.gcd_comm])
  refine bk hX lkX12_ok (pc' := 5) [.iload_n 1, .istore_n 3, .iload_n 2, .istore 4] (by decide +kernel) (And.intro trivial ?_)
  refine z_lvk (lv' := [(3, _), (4, _)]) [1, 0] rfl ?_
  exact hl y x y (Nat.le_refl _) hx hy rfl
def loS (x y : Nat) (part : Int32) : Int64 := if part = 0 then lN (x / Nat.gcd x y) else lN (y / Nat.gcd x y)
theorem c_M_lowest (E : zE) (σ : Sg) (hk : σ.1 100 = 14) {x y : Nat} (hx : x < 2 ^ 30) (hy : y < 2 ^ 30) (hy0 : 0 < y) (part : Int32) : zCt E mX12_lowest 1 0 0 σ [.ref 100, .int (nI x), .int (nI y), .int part] (fun r σ' => σ' = σ ∧ r = some (.long (loS x y part))) := by
  have hg0 : 0 < Nat.gcd x y := Nat.gcd_pos_of_pos_right x hy0
  have hgl : Nat.gcd x y ≤ y := Nat.gcd_le_right x hy0
  refine z_intro (by decide) (Nat.le_of_ble_eq_true rfl) (fun X hX => ?_)
  refine bk hX lkX12_ok (pc' := 3) [.aload_n 0, .iload_n 1, .iload_n 2] (by decide +kernel) (And.intro trivial ?_)
  refine z_callV hX kw_X12_370 (c_M_divisor E _ 100 (by omega) (by omega)) rfl rfl hk rfl rfl (by decide +kernel) (by decide) (by decide) (by decide) (by decide) (Nat.le_of_ble_eq_true rfl) ?_
  rintro _ _ ⟨rfl, rfl⟩
  refine bk hX lkX12_ok (pc' := 9) [.istore 4, .iload_n 3] (by decide +kernel) (And.intro trivial ?_)
  refine if_ne hX (11) 20 (by decide +kernel) (by decide) (fun cp => ?_) (fun cp => ?_)
  · refine bk hX lkX12_ok (pc' := 25) [.iload_n 2, .iload 4, .idiv, .i2l] (by decide +kernel) (And.intro (by exact nI_ne0 hg0 (by omega)) (And.intro trivial ?_))
    exact z_lret hX (by decide +kernel) rfl (by decide) (by decide) (by
  have hdl : ∀ z, z < 2 ^ 30 → z / Nat.gcd x y < 2 ^ 31 := fun z hz => Nat.lt_of_le_of_lt (Nat.div_le_self _ _) (by omega)
  rw [i_div (by omega) hg0 (by omega), nI_l (hdl _ (by assumption))]
  refine ⟨rfl, ?_⟩
  unfold loS
  first
    | rw [if_pos cp]
    | rw [if_neg cp])
  · refine bk hX lkX12_ok (pc' := 17) [.iload_n 1, .iload 4, .idiv, .i2l] (by decide +kernel) (And.intro (by exact nI_ne0 hg0 (by omega)) (And.intro trivial ?_))
    refine gt_ hX (8) 25 (by decide +kernel) (by decide) ?_
    exact z_lret hX (by decide +kernel) rfl (by decide) (by decide) (by
  have hdl : ∀ z, z < 2 ^ 30 → z / Nat.gcd x y < 2 ^ 31 := fun z hz => Nat.lt_of_le_of_lt (Nat.div_le_self _ _) (by omega)
  rw [i_div (by omega) hg0 (by omega), nI_l (hdl _ (by assumption))]
  refine ⟨rfl, ?_⟩
  unfold loS
  first
    | rw [if_pos cp]
    | rw [if_neg cp])
/-- odds: how many of the first j who stay at home leave q holes or fewer -/
def odN (g : Gv) (r k q : Nat) : Nat → Nat
  | 0 => 0
  | j + 1 => odN g r k q j + (if ahN (daysS r k (homG g (nI j) 1)) (gn g) ≤ q then 1 else 0)
theorem odN_le (g : Gv) (r k q : Nat) : ∀ j, odN g r k q j ≤ j
  | 0 => Nat.le_refl 0
  | j + 1 => by
    have := odN_le g r k q j
    show odN g r k q j + _ ≤ _
    split <;> omega
def zNO : Int64 := -9223372036854775808
def oddS (g : Gv) (r : Nat) (x q part : Int32) : Int64 := if isIn x 61 = true ∧ isIn q 61 = true ∧ isIn part 2 = true ∧ gn g ≠ 0 then loS (odN g r (jx x) (jx q) (gn g)) (gn g) part else zNO
theorem frA_hom {I : Nat → Nat → Int32} (v : Int32) : frA I (up2 I 100 1 v) := ⟨fun q _ _ _ _ h => up2_ne _ _ _ h, fun k h _ => by rw [up2_at, if_neg h], fun k _ => ⟨by rw [up2_ne _ _ _ (by decide)], by rw [up2_ne _ _ _ (by decide)]⟩⟩
set_option maxHeartbeats 2000000 in
theorem c_M_odds (E : zE) (K N : Nat → Nat) (Rf : Nat → Nat → Option Nat) (I : Nat → Nat → Int32) (L : Nat → Nat → Int64) {g : Gv} (hg : gwf g) (hG : mG g I) {w : Wk} {b : Nat} (hB : mHB w b I) (hd : gd g ≤ 90000) (x q part : Int32) : zCt E mX12_odds 5 0 0 (sg K N Rf I L) [.ref 100, .int x, .int q, .int part] (fun r σ' => ∃ I', σ' = sg K N Rf I' L ∧ r = some (.long (oddS g (rdS w) x q part)) ∧ sE I I') := by
  have h6 := hg.1
  have hl : ∀ (k q : Nat), k < 61 → q < 61 → isIn part 2 = true → gn g ≠ 0 → ∀ X : zX, zD X E mX12_odds 5 0 0 (fun r σ' => ∃ I', σ' = sg K N Rf I' L ∧ r = some (.long (oddS g (rdS w) (nI k) (nI q) part)) ∧ sE I I') → ∀ m p (I1 : Nat → Nat → Int32), p + m = gn g → sE I I1 → zS X (sg K N Rf I1 L) 0 0 46 [(0, .ref 100), (1, .int (nI k)), (2, .int (nI q)), (3, .int part), (4, .int (nI (odN g (rdS w) k q p))), (5, .int (nI p))] [] := by
    intro k q hk hq hpt hn0 X hX m
    have hful : oddS g (rdS w) (nI k) (nI q) part = loS (odN g (rdS w) k q (gn g)) (gn g) part := by
      unfold oddS; rw [if_pos ⟨isIn_nI hk (by decide), isIn_nI hq (by decide), hpt, hn0⟩, jx_nI (by omega), jx_nI (by omega)]
    induction m with
    | zero =>
      intro p I1 hp h1
      obtain rfl : p = gn g := by omega
      have e0 : I1 100 0 = nI (gn g) := (mG_sE hG h1).1
      have hol := odN_le g (rdS w) k q (gn g)
      refine bk hX lkX12_ok (pc' := 52) [.iload 5, .aload_n 0, .getfield 7] (by decide +kernel) (And.intro trivial ?_)
      rw [e0]
      refine ic_ge hX (47) 99 (by decide +kernel) (by decide) (fun c_52 => ?_) (fun c => absurd (nI_le (by omega) (by omega)) c)
      refine bk hX lkX12_ok (pc' := 107) [.aload_n 0, .iload 4, .aload_n 0, .getfield 7, .iload_n 3] (by decide +kernel) (And.intro trivial ?_)
      rw [e0]
      refine z_callV hX kw_X12_375 (c_M_lowest E _ rfl (by omega) (by omega) (by omega) _) rfl rfl rfl rfl rfl (by decide +kernel) (by decide) (by decide) (by decide) (by decide) (Nat.le_of_ble_eq_true rfl) ?_
      rintro _ _ ⟨rfl, rfl⟩
      exact z_lret hX (by decide +kernel) rfl (by decide) (by decide) (⟨I1, rfl, by rw [hful], h1⟩)
    | succ m ih =>
      intro p I1 hp h1
      have hG1 := mG_sE hG h1
      have e0 : I1 100 0 = nI (gn g) := hG1.1
      have hsv := sE_sv I1
      have hGh := mG_hom (mG_sE hG1 hsv) (nI p) (nI 1)
      have hBh : mHB w b (up2 (svI I1 6) 100 1 (rstS (svI I1 6 100 1) (nI p) (nI 1))) := mHB_frA (mHB_sE (mHB_sE hB h1) hsv) (frA_hom _)
      have hol := odN_le g (rdS w) k q p
      have hg2 := gwf_days (gwf_hom hg (nI p) (nI 1)) (rdS w) k
      have hn2 : gn (daysS (rdS w) k (homG g (nI p) (nI 1))) = gn g := gn_days (rdS w) k (homG g (nI p) (nI 1))
      have hal := ahN_le (daysS (rdS w) k (homG g (nI p) (nI 1))) (gn g)
      have hod : odN g (rdS w) k q (p + 1) = odN g (rdS w) k q p + (if ahN (daysS (rdS w) k (homG g (nI p) (nI 1))) (gn g) ≤ q then 1 else 0) := rfl
      refine bk hX lkX12_ok (pc' := 52) [.iload 5, .aload_n 0, .getfield 7] (by decide +kernel) (And.intro trivial ?_)
      rw [e0]
      refine ic_ge hX (47) 99 (by decide +kernel) (by decide) (fun c => absurd c (nI_ge (by omega) (by omega))) (fun c_52 => ?_)
      refine bk hX lkX12_ok (pc' := 56) [.aload_n 0] (by decide +kernel) (And.intro trivial ?_)
      refine z_callV hX kw_X12_340 (c_M_save E K N Rf I1 L) rfl rfl rfl rfl rfl (by decide +kernel) (by decide) (by decide) (by decide) (by decide) (Nat.le_of_ble_eq_true rfl) ?_
      rintro _ _ ⟨rfl, rfl⟩
      refine bk hX lkX12_ok (pc' := 63) [.aload_n 0, .iload 5, .iconst 1] (by decide +kernel) (And.intro trivial ?_)
      refine z_callV hX kw_X12_243 (c_M_rests E K N Rf (svI I1 6) L _ _) rfl rfl rfl rfl rfl (by decide +kernel) (by decide) (by decide) (by decide) (by decide) (Nat.le_of_ble_eq_true rfl) ?_
      rintro _ _ ⟨rfl, rfl⟩
      refine bk hX lkX12_ok (pc' := 68) [.aload_n 0, .iload_n 1] (by decide +kernel) (And.intro trivial ?_)
      refine z_callV hX kw_X12_337 (c_M_goDays E K N Rf (up2 (svI I1 6) 100 1 (rstS (svI I1 6 100 1) (nI p) (nI 1))) L (gwf_hom hg (nI p) (nI 1)) hGh hBh (k := k) (by show gd g + k ≤ _; omega) (by omega)) rfl rfl rfl rfl rfl (by decide +kernel) (by decide) (by decide) (by decide) (by decide) (Nat.le_of_ble_eq_true rfl) ?_
      rintro _ _ ⟨I2, rfl, rfl, h3, h4⟩
      have hback := ask_back (frA_tr (frA_hom _) (frA_D h6 h4))
      refine bk hX lkX12_ok (pc' := 74) [.iload 4, .aload_n 0] (by decide +kernel) (And.intro trivial ?_)
      refine z_callV hX kw_X12_343 (c_M_allHoles E K N Rf I2 L hg2 h3) rfl rfl rfl rfl rfl (by decide +kernel) (by decide) (by decide) (by decide) (by decide) (Nat.le_of_ble_eq_true rfl) ?_
      rintro _ _ ⟨rfl, rfl⟩
      rw [hn2]
      refine bk hX lkX12_ok (pc' := 78) [.iload_n 2] (by decide +kernel) (And.intro trivial ?_)
      refine ic_gt hX (7) 85 (by decide +kernel) (by decide) (fun cq => ?_) (fun cq => ?_)
      · refine bk hX lkX12_ok (pc' := 90) [.iconst 0, .iadd, .istore 4, .aload_n 0] (by decide +kernel) (And.intro trivial ?_)
        refine z_callV hX kw_X12_346 (c_M_putBack E K N Rf I2 L) rfl rfl rfl rfl rfl (by decide +kernel) (by decide) (by decide) (by decide) (by decide) (Nat.le_of_ble_eq_true rfl) ?_
        rintro _ _ ⟨rfl, rfl⟩
        refine bk hX lkX12_ok (pc' := 96) [.iinc 5 1] (by decide +kernel) (And.intro trivial ?_)
        refine gt_ hX (-50) 46 (by decide +kernel) (by decide) ?_
        refine z_lvk (lv' := [(0, _), (1, _), (2, _), (3, _), (4, _), (5, _)]) [2, 3, 4, 5, 1, 0] rfl ?_
        have hi := ih (p + 1) _ (by omega) (sE_tr h1 hback)
        rw [hod] at hi
        rw [nI_add, nI_add]
        first
          | (rw [if_neg (fun z => absurd (nI_le z (by omega)) (i_nle.mpr cq))] at hi; exact hi)
          | (rw [if_pos ((nI_leI (by omega) (by omega)).mp (i_nlt.mp cq))] at hi; exact hi)
      · refine bk hX lkX12_ok (pc' := 82) [.iconst 1] (by decide +kernel) (And.intro trivial ?_)
        refine gt_ hX (4) 86 (by decide +kernel) (by decide) ?_
        refine bk hX lkX12_ok (pc' := 90) [.iadd, .istore 4, .aload_n 0] (by decide +kernel) (And.intro trivial ?_)
        refine z_callV hX kw_X12_346 (c_M_putBack E K N Rf I2 L) rfl rfl rfl rfl rfl (by decide +kernel) (by decide) (by decide) (by decide) (by decide) (Nat.le_of_ble_eq_true rfl) ?_
        rintro _ _ ⟨rfl, rfl⟩
        refine bk hX lkX12_ok (pc' := 96) [.iinc 5 1] (by decide +kernel) (And.intro trivial ?_)
        refine gt_ hX (-50) 46 (by decide +kernel) (by decide) ?_
        refine z_lvk (lv' := [(0, _), (1, _), (2, _), (3, _), (4, _), (5, _)]) [2, 3, 4, 5, 1, 0] rfl ?_
        have hi := ih (p + 1) _ (by omega) (sE_tr h1 hback)
        rw [hod] at hi
        rw [nI_add, nI_add]
        first
          | (rw [if_neg (fun z => absurd (nI_le z (by omega)) (i_nle.mpr cq))] at hi; exact hi)
          | (rw [if_pos ((nI_leI (by omega) (by omega)).mp (i_nlt.mp cq))] at hi; exact hi)
  refine z_intro (by decide) (Nat.le_of_ble_eq_true rfl) (fun X hX => ?_)
  refine bk hX lkX12_ok (pc' := 2) [.aload_n 0, .iload_n 1] (by decide +kernel) (And.intro trivial ?_)
  refine z_callV hX kw_X12_334 (c_M_isDays E _ rfl _) rfl rfl rfl rfl rfl (by decide +kernel) (by decide) (by decide) (by decide) (by decide) (Nat.le_of_ble_eq_true rfl) ?_
  rintro _ _ ⟨rfl, hh⟩
  rw [days_in] at hh
  rcases hh with ⟨hx, rfl⟩ | ⟨hx, rfl⟩
  · refine if_eq hX (31) 36 (by decide +kernel) (by decide) (fun c => absurd c (by decide)) (fun c_5 => ?_)
    refine bk hX lkX12_ok (pc' := 13) [.aload_n 0, .iload_n 2, .iconst 0, .bipush 60] (by decide +kernel) (And.intro trivial ?_)
    refine z_callV hX kw_X12_228 (c_M_in E _ _ _ _ _) rfl rfl rfl rfl rfl (by decide +kernel) (by decide) (by decide) (by decide) (by decide) (Nat.le_of_ble_eq_true rfl) ?_
    rintro _ _ ⟨rfl, hh⟩
    rw [in_ix 60 (by decide)] at hh
    rcases hh with ⟨hq, rfl⟩ | ⟨hq, rfl⟩
    · refine if_eq hX (20) 36 (by decide +kernel) (by decide) (fun c => absurd c (by decide)) (fun c_16 => ?_)
      refine bk hX lkX12_ok (pc' := 23) [.aload_n 0, .iload_n 3, .iconst 0, .iconst 1] (by decide +kernel) (And.intro trivial ?_)
      refine z_callV hX kw_X12_228 (c_M_in E _ _ _ _ _) rfl rfl rfl rfl rfl (by decide +kernel) (by decide) (by decide) (by decide) (by decide) (Nat.le_of_ble_eq_true rfl) ?_
      rintro _ _ ⟨rfl, hh⟩
      rw [in_ix 1 (by decide)] at hh
      rcases hh with ⟨hpt, rfl⟩ | ⟨hpt, rfl⟩
      · refine if_eq hX (10) 36 (by decide +kernel) (by decide) (fun c => absurd c (by decide)) (fun c_26 => ?_)
        refine bk hX lkX12_ok (pc' := 33) [.aload_n 0, .getfield 7] (by decide +kernel) (And.intro trivial ?_)
        rw [hG.1]
        refine if_ne hX (7) 40 (by decide +kernel) (by decide) (fun c0 => ?_) (fun c0 => ?_)
        · obtain ⟨k, hk, rfl⟩ := (isIn_iff (by decide)).mp hx
          obtain ⟨q, hq1, rfl⟩ := (isIn_iff (by decide)).mp hq
          refine bk hX lkX12_ok (pc' := 46) [.iconst 0, .istore 4, .iconst 0, .istore 5] (by decide +kernel) (And.intro trivial ?_)
          refine z_lvk (lv' := [(0, _), (1, _), (2, _), (3, _), (4, _), (5, _)]) [2, 3, 4, 5, 1, 0] rfl ?_
          exact hl k q hk hq1 hpt (fun z => c0 (by rw [z]; rfl)) X hX (gn g) 0 I (by omega) (sE_rf _)
        · refine bk hX lkX12_ok (pc' := 39) [.ldc2_w 373] (by decide +kernel) (And.intro trivial ?_)
          exact z_lret hX (by decide +kernel) rfl (by decide) (by decide) (by first | exact ⟨I, rfl, by unfold oddS; rw [if_neg (fun z => hx z.1)]; rfl, sE_rf _⟩ | exact ⟨I, rfl, by unfold oddS; rw [if_neg (fun z => hq z.2.1)]; rfl, sE_rf _⟩ | exact ⟨I, rfl, by unfold oddS; rw [if_neg (fun z => hpt z.2.2.1)]; rfl, sE_rf _⟩ | exact ⟨I, rfl, by unfold oddS; rw [if_neg (fun z => z.2.2.2 (nI_inj (b := 0) (by omega) (by decide) c0))]; rfl, sE_rf _⟩)
      · refine if_eq hX (10) 36 (by decide +kernel) (by decide) (fun c_26 => ?_) (fun c => absurd (by decide) c)
        refine bk hX lkX12_ok (pc' := 39) [.ldc2_w 373] (by decide +kernel) (And.intro trivial ?_)
        exact z_lret hX (by decide +kernel) rfl (by decide) (by decide) (by first | exact ⟨I, rfl, by unfold oddS; rw [if_neg (fun z => hx z.1)]; rfl, sE_rf _⟩ | exact ⟨I, rfl, by unfold oddS; rw [if_neg (fun z => hq z.2.1)]; rfl, sE_rf _⟩ | exact ⟨I, rfl, by unfold oddS; rw [if_neg (fun z => hpt z.2.2.1)]; rfl, sE_rf _⟩ | exact ⟨I, rfl, by unfold oddS; rw [if_neg (fun z => z.2.2.2 (nI_inj (b := 0) (by omega) (by decide) c0))]; rfl, sE_rf _⟩)
    · refine if_eq hX (20) 36 (by decide +kernel) (by decide) (fun c_16 => ?_) (fun c => absurd (by decide) c)
      refine bk hX lkX12_ok (pc' := 39) [.ldc2_w 373] (by decide +kernel) (And.intro trivial ?_)
      exact z_lret hX (by decide +kernel) rfl (by decide) (by decide) (by first | exact ⟨I, rfl, by unfold oddS; rw [if_neg (fun z => hx z.1)]; rfl, sE_rf _⟩ | exact ⟨I, rfl, by unfold oddS; rw [if_neg (fun z => hq z.2.1)]; rfl, sE_rf _⟩ | exact ⟨I, rfl, by unfold oddS; rw [if_neg (fun z => hpt z.2.2.1)]; rfl, sE_rf _⟩ | exact ⟨I, rfl, by unfold oddS; rw [if_neg (fun z => z.2.2.2 (nI_inj (b := 0) (by omega) (by decide) c0))]; rfl, sE_rf _⟩)
  · refine if_eq hX (31) 36 (by decide +kernel) (by decide) (fun c_5 => ?_) (fun c => absurd (by decide) c)
    refine bk hX lkX12_ok (pc' := 39) [.ldc2_w 373] (by decide +kernel) (And.intro trivial ?_)
    exact z_lret hX (by decide +kernel) rfl (by decide) (by decide) (by first | exact ⟨I, rfl, by unfold oddS; rw [if_neg (fun z => hx z.1)]; rfl, sE_rf _⟩ | exact ⟨I, rfl, by unfold oddS; rw [if_neg (fun z => hq z.2.1)]; rfl, sE_rf _⟩ | exact ⟨I, rfl, by unfold oddS; rw [if_neg (fun z => hpt z.2.2.1)]; rfl, sE_rf _⟩ | exact ⟨I, rfl, by unfold oddS; rw [if_neg (fun z => z.2.2.2 (nI_inj (b := 0) (by omega) (by decide) c0))]; rfl, sE_rf _⟩)
def meanS (g : Gv) (r : Nat) (x part : Int32) : Int64 := if isIn x 61 = true ∧ isIn part 2 = true ∧ gn g ≠ 0 then loS (ahN (daysS r (jx x) g) (gn g)) (gn g) part else zNO
theorem c_M_mean (E : zE) (K N : Nat → Nat) (Rf : Nat → Nat → Option Nat) (I : Nat → Nat → Int32) (L : Nat → Nat → Int64) {g : Gv} (hg : gwf g) (hG : mG g I) {w : Wk} {b : Nat} (hB : mHB w b I) (hd : gd g ≤ 90000) (x part : Int32) : zCt E mX12_mean 6 0 0 (sg K N Rf I L) [.ref 100, .int x, .int part] (fun r σ' => ∃ I', σ' = sg K N Rf I' L ∧ r = some (.long (meanS g (rdS w) x part)) ∧ sE I I') := by
  have h6 := hg.1
  refine z_intro (by decide) (Nat.le_of_ble_eq_true rfl) (fun X hX => ?_)
  refine bk hX lkX12_ok (pc' := 2) [.aload_n 0, .iload_n 1] (by decide +kernel) (And.intro trivial ?_)
  refine z_callV hX kw_X12_334 (c_M_isDays E _ rfl _) rfl rfl rfl rfl rfl (by decide +kernel) (by decide) (by decide) (by decide) (by decide) (Nat.le_of_ble_eq_true rfl) ?_
  rintro _ _ ⟨rfl, hh⟩
  rw [days_in] at hh
  rcases hh with ⟨hx, rfl⟩ | ⟨hx, rfl⟩
  · refine if_eq hX (38) 43 (by decide +kernel) (by decide) (fun c => absurd c (by decide)) (fun c_5 => ?_)
    refine bk hX lkX12_ok (pc' := 12) [.aload_n 0, .iload_n 2, .iconst 0, .iconst 1] (by decide +kernel) (And.intro trivial ?_)
    refine z_callV hX kw_X12_228 (c_M_in E _ _ _ _ _) rfl rfl rfl rfl rfl (by decide +kernel) (by decide) (by decide) (by decide) (by decide) (Nat.le_of_ble_eq_true rfl) ?_
    rintro _ _ ⟨rfl, hh⟩
    rw [in_ix 1 (by decide)] at hh
    rcases hh with ⟨hpt, rfl⟩ | ⟨hpt, rfl⟩
    · refine if_eq hX (28) 43 (by decide +kernel) (by decide) (fun c => absurd c (by decide)) (fun c_15 => ?_)
      refine bk hX lkX12_ok (pc' := 22) [.aload_n 0, .getfield 7] (by decide +kernel) (And.intro trivial ?_)
      rw [hG.1]
      refine if_le hX (21) 43 (by decide +kernel) (by decide) (fun c0 => ?_) (fun c0 => ?_)
      · refine bk hX lkX12_ok (pc' := 46) [.ldc2_w 373] (by decide +kernel) (And.intro trivial ?_)
        exact z_lret hX (by decide +kernel) rfl (by decide) (by decide) (by first | exact ⟨I2, rfl, by unfold meanS; rw [if_pos ⟨hx, hpt, hn0⟩], h3⟩ | exact ⟨I, rfl, by unfold meanS; rw [if_neg (fun z => hx z.1)]; rfl, sE_rf _⟩ | exact ⟨I, rfl, by unfold meanS; rw [if_neg (fun z => hpt z.2.1)]; rfl, sE_rf _⟩ | exact ⟨I, rfl, by unfold meanS; rw [if_neg (fun z => z.2.2 (Nat.le_zero.mp ((nI_leI (b := 0) (by omega) (by decide)).mp c0)))]; rfl, sE_rf _⟩)
      · refine bk hX lkX12_ok (pc' := 29) [.aload_n 0, .aload_n 0, .iload_n 1, .iconst 0] (by decide +kernel) (And.intro trivial ?_)
        refine z_callV hX kw_X12_379 (c_M_on E K N Rf I L hg hG hB hd _ _) rfl rfl rfl rfl rfl (by decide +kernel) (by decide) (by decide) (by decide) (by decide) (Nat.le_of_ble_eq_true rfl) ?_
        rintro _ _ ⟨I2, rfl, rfl, h3⟩
        have hn0 : gn g ≠ 0 := fun z => c0 (by rw [z]; decide)
        have hal := ahN_le (daysS (rdS w) (jx x) g) (gn g)
        have hon : onS g (rdS w) x (nI 0) = nI (ahN (daysS (rdS w) (jx x) g) (gn g)) := by unfold onS; rw [if_pos (Or.inl (show nI 0 = 0 from rfl)), if_pos hx, if_pos (show nI 0 = 0 from rfl)]
        rw [hon]
        refine bk hX lkX12_ok (pc' := 37) [.aload_n 0, .getfield 7, .iload_n 2] (by decide +kernel) (And.intro trivial ?_)
        rw [show I2 100 0 = nI (gn g) from (mG_sE hG h3).1]
        refine z_callV hX kw_X12_375 (c_M_lowest E _ rfl (by omega) (by omega) (by omega) _) rfl rfl rfl rfl rfl (by decide +kernel) (by decide) (by decide) (by decide) (by decide) (Nat.le_of_ble_eq_true rfl) ?_
        rintro _ _ ⟨rfl, rfl⟩
        refine gt_ hX (6) 46 (by decide +kernel) (by decide) ?_
        exact z_lret hX (by decide +kernel) rfl (by decide) (by decide) (by first | exact ⟨I2, rfl, by unfold meanS; rw [if_pos ⟨hx, hpt, hn0⟩], h3⟩ | exact ⟨I, rfl, by unfold meanS; rw [if_neg (fun z => hx z.1)]; rfl, sE_rf _⟩ | exact ⟨I, rfl, by unfold meanS; rw [if_neg (fun z => hpt z.2.1)]; rfl, sE_rf _⟩ | exact ⟨I, rfl, by unfold meanS; rw [if_neg (fun z => z.2.2 (Nat.le_zero.mp ((nI_leI (b := 0) (by omega) (by decide)).mp c0)))]; rfl, sE_rf _⟩)
    · refine if_eq hX (28) 43 (by decide +kernel) (by decide) (fun c_15 => ?_) (fun c => absurd (by decide) c)
      refine bk hX lkX12_ok (pc' := 46) [.ldc2_w 373] (by decide +kernel) (And.intro trivial ?_)
      exact z_lret hX (by decide +kernel) rfl (by decide) (by decide) (by first | exact ⟨I2, rfl, by unfold meanS; rw [if_pos ⟨hx, hpt, hn0⟩], h3⟩ | exact ⟨I, rfl, by unfold meanS; rw [if_neg (fun z => hx z.1)]; rfl, sE_rf _⟩ | exact ⟨I, rfl, by unfold meanS; rw [if_neg (fun z => hpt z.2.1)]; rfl, sE_rf _⟩ | exact ⟨I, rfl, by unfold meanS; rw [if_neg (fun z => z.2.2 (Nat.le_zero.mp ((nI_leI (b := 0) (by omega) (by decide)).mp c0)))]; rfl, sE_rf _⟩)
  · refine if_eq hX (38) 43 (by decide +kernel) (by decide) (fun c_5 => ?_) (fun c => absurd (by decide) c)
    refine bk hX lkX12_ok (pc' := 46) [.ldc2_w 373] (by decide +kernel) (And.intro trivial ?_)
    exact z_lret hX (by decide +kernel) rfl (by decide) (by decide) (by first | exact ⟨I2, rfl, by unfold meanS; rw [if_pos ⟨hx, hpt, hn0⟩], h3⟩ | exact ⟨I, rfl, by unfold meanS; rw [if_neg (fun z => hx z.1)]; rfl, sE_rf _⟩ | exact ⟨I, rfl, by unfold meanS; rw [if_neg (fun z => hpt z.2.1)]; rfl, sE_rf _⟩ | exact ⟨I, rfl, by unfold meanS; rw [if_neg (fun z => z.2.2 (Nat.le_zero.mp ((nI_leI (b := 0) (by omega) (by decide)).mp c0)))]; rfl, sE_rf _⟩)
