/-! ===== another gate: what each call makes of it ===== -/
theorem isIn_jx {x : Int32} {n : Nat} (h : isIn x n = true) (hn : n ≤ 2 ^ 31 := by decide) : jx x < n ∧ x = nI (jx x) := by
  obtain ⟨j, hj, rfl⟩ := isIn_ex h hn
  rw [jx_nI (by omega)]
  exact ⟨hj, rfl⟩
theorem st_same {S : St} (hw : stw S) : stw (stG S S.k.g) := stw_G hw hw.1.1 hw.1.2.1 hw.1.2.2.1 (Nat.le_refl _)
theorem st_set {S : St} (hw : stw S) (c h : Int32) : stw (stG S (setS S.k.g c h).2) ∧ gn (setS S.k.g c h).2 = gn S.k.g := by
  unfold setS
  split
  · split
    · rename_i h1 h2
      refine ⟨stw_G hw (gwf_ho hw.1.1 (fun q hq => ?_)) hw.1.2.1 hw.1.2.2.1 (Nat.le_refl _), rfl⟩
      unfold upN
      split
      · exact (isIn_jx h2).1
      · exact (hw.1.1.2.1 q hq).2.2.2.1
    · exact ⟨st_same hw, rfl⟩
  · exact ⟨st_same hw, rfl⟩
theorem st_swp {S : St} (hw : stw S) (x y : Int32) : stw (stG S (swpS S.k.g x y).2) ∧ gn (swpS S.k.g x y).2 = gn S.k.g := by
  have h6 := hw.1.1.1
  unfold swpS
  split
  · split
    · exact ⟨st_same hw, rfl⟩
    · rename_i h1 h2
      exact ⟨stw_G hw (gwf_sw hw.1.1 (isIn_jx h1.1 (by omega)).1 (isIn_jx h1.2 (by omega)).1) hw.1.2.1 hw.1.2.2.1 (Nat.le_refl _), rfl⟩
  · exact ⟨st_same hw, rfl⟩
theorem rst_0 : ∀ z, z < 64 → ∀ i, i < 6 → nI z &&& (nI 1 <<< (nI i &&& 31) ^^^ -nI 1) = nI (z &&& (63 - 2 ^ i)) := by decide +kernel
theorem rst_ok {n z i : Nat} (h6 : n ≤ 6) (hz : z < 2 ^ n) (hi : i < n) (is : Int32) : ∃ z', z' < 2 ^ n ∧ rstS (nI z) (nI i) is = nI z' := by
  have h64 : 2 ^ n ≤ 64 := Nat.pow_le_pow_right (n := 2) (by decide) h6
  unfold rstS
  split
  · exact ⟨z &&& (63 - 2 ^ i), Nat.lt_of_le_of_lt Nat.and_le_left hz, rst_0 z (by omega) i (by omega)⟩
  · exact ⟨z ||| 2 ^ i, orb_lt n h6 z hz i hi, by rw [i_1shl (by omega), i_or]⟩
theorem st_stay {S : St} (hw : stw S) (x is : Int32) : stw (stG S (stayS S.k.g x is).2) ∧ gn (stayS S.k.g x is).2 = gn S.k.g := by
  have h6 := hw.1.1.1
  unfold stayS
  split
  · rename_i h1
    obtain ⟨z, hz, ez⟩ := hw.1.2.2.1
    obtain ⟨j1, j2⟩ := isIn_jx h1 (by omega)
    refine ⟨stw_G hw (gwf_hom hw.1.1 x is) hw.1.2.1 ?_ (Nat.le_refl _), rfl⟩
    show ∃ z, z < 2 ^ gn S.k.g ∧ rstS (ga S.k.g) x is = nI z
    rw [ez, j2]
    exact rst_ok h6 hz j1 is
  · exact ⟨st_same hw, rfl⟩
theorem st_row {S : St} (hw : stw S) (x pt n : Int32) : stw (stG S (rowS S.k.g x pt n).2) ∧ gn (rowS S.k.g x pt n).2 = gn S.k.g := by
  unfold rowS
  split
  · split
    · split
      · rename_i h1 h2 h3
        refine ⟨stw_G hw ⟨hw.1.1.1, fun p hp => ?_, hw.1.1.2.2⟩ hw.1.2.1 hw.1.2.2.1 (Nat.le_refl _), rfl⟩
        obtain ⟨a1, a2, a3, a4, a5⟩ := hw.1.1.2.1 p hp
        refine ⟨a1, a2, a3, a4, fun j hj => ?_⟩
        show upN (gr S.k.g) _ _ _ ≤ 9
        unfold upN
        split
        · have := (isIn_jx h2).1; omega
        · exact a5 j hj
      · exact ⟨st_same hw, rfl⟩
    · exact ⟨st_same hw, rfl⟩
  · exact ⟨st_same hw, rfl⟩
theorem ga_days (r : Nat) : ∀ (k : Nat) (g : Gv), ga (daysS r k g) = ga g
  | 0, _ => rfl
  | k + 1, g => ga_days r k g
theorem st_pass {S : St} (hw : stw S) (r : Nat) (x : Int32) : stw (stG S (passS S.k.g r x).2) ∧ gn (passS S.k.g r x).2 = gn S.k.g := by
  unfold passS
  split
  · split
    · rename_i h1 h2
      refine ⟨stw_G hw (gwf_days hw.1.1 r _) ?_ ?_ ?_, gn_days _ _ _⟩
      · rw [gd_days]; exact h2
      · rw [gn_days, ga_days]; exact hw.1.2.2.1
      · rw [gn_days]; exact Nat.le_refl _
    · exact ⟨st_same hw, rfl⟩
  · exact ⟨st_same hw, rfl⟩
theorem rst_n : ∀ n, n < 6 → ∀ z, z < 2 ^ n → rstS (nI z) (nI n) 0 = nI z := by decide +kernel
theorem st_work {S : St} (hw : stw S) (x y : Int32) : stw (stG S (workS S.k.g x y).2) ∧ gn S.k.g ≤ gn (workS S.k.g x y).2 := by
  have h6 := hw.1.1.1
  unfold workS
  split
  · split
    · split
      · exact ⟨st_same hw, Nat.le_refl _⟩
      · rename_i h1 h2 h3
        obtain ⟨z, hz, ez⟩ := hw.1.2.2.1
        refine ⟨stw_G hw (gwf_hire hw.1.1 (by omega) (by have := (isIn_jx h1).1; omega) (by have := (isIn_jx h2).1; omega)) hw.1.2.1 ?_ (Nat.le_succ _), Nat.le_succ _⟩
        refine ⟨z, Nat.lt_of_lt_of_le hz (Nat.pow_le_pow_right (n := 2) (by decide) (Nat.le_succ _)), ?_⟩
        show rstS (ga S.k.g) (nI (gn S.k.g)) 0 = nI z
        rw [ez]
        exact rst_n _ (by omega) z hz
    · exact ⟨st_same hw, Nat.le_refl _⟩
  · exact ⟨st_same hw, Nat.le_refl _⟩
theorem iv_work {S : St} {K N : Nat → Nat} {R : Nat → Nat → Option Nat} {I I2 : Nat → Nat → Int32} {L : Nat → Nat → Int64} (h : Inv S K N R I L) (x y : Int32) {K1 : Nat → Nat} {R1 : Nat → Nat → Option Nat} {I1 : Nat → Nat → Int32} (y1 : xG 300 (workS S.k.g x y).2 K1 R1 I1) (gr : grw K N R I K1 N R1 I1) (hf : fre K1) (eR : ∀ q, q < 1000 → q ≠ 301 → R1 q = R q) (eH : ∀ p q, R1 301 p = some q → R 301 p = some q ∨ (1000 ≤ q ∧ ∃ k, k ≤ 6 ∧ K1 q = hci k + 1)) (e : ∀ q, q < 1000 → q ≠ 300 → q ≠ 303 → I1 q = I q) (y2 : mG (workS S.k.g x y).2 I2) (f : frX [104, 105, 106, 107, 108, 127] [0, 1, 2] I1 I2) : Inv (stG S (workS S.k.g x y).2) K1 N R1 I2 L := by
  obtain ⟨hs1, hs2⟩ := st_work h.1 x y
  refine iv_g h hs1 gr hf (fun q h1 h2 _ h4 _ => e q h1 h2 h4) eR ?_ y1 (fun q h1 h2 => ?_) (fun q h1 h2 => ?_) y2 f
  · intro p hp q hq
    rcases eH p q hq with hq' | hq'
    · obtain ⟨g1, k, g2, g3⟩ := h.2.2.1.2.2.1 p hp q hq'
      exact ⟨g1, k, g2, by rw [(gr q g1 (by rw [g3]; exact Nat.succ_ne_zero _)).1]; exact g3⟩
    · exact hq'
  · rw [e 302 (by decide) (by decide) (by decide)]; exact h.2.2.1.2.2.2.2.2.2.1 q (by omega) h2
  · rw [e 304 (by decide) (by decide) (by decide)]; exact h.2.2.1.2.2.2.2.2.2.2 q (by omega) h2
/-! rows -/
def stS (S : St) (s : Rw) : St := stM (kpM S.k.g S.k.th s S.k.p S.k.b) S.ml S.m S.t S.tr S.T S.im
def stP (S : St) (s : Rw) : St := stM (kpM S.k.g S.k.th S.k.s s S.k.b) S.ml S.m S.t S.tr S.T S.im
def stB (S : St) (s : Rw) : St := stM (kpM S.k.g S.k.th S.k.s S.k.p s) S.ml S.m S.t S.tr S.T S.im
theorem ws_see {s : Rw} {g : Gv} (h6 : gn g ≤ 6) (h5 : s.1 ≤ 5) (hw : wSn s g) (c h d : Int32) : (seeS s g c h d).2.1 ≤ 5 ∧ wSn (seeS s g c h d).2 g := by
  unfold seeS
  split
  · exact ⟨Nat.zero_le _, fun k hk => absurd hk (Nat.not_lt_zero _)⟩
  · split
    · split
      · split
        · exact ⟨h5, hw⟩
        · rename_i h1 h2 h3 h4
          refine ⟨by show s.1 + 1 ≤ 5; omega, fun k hk => ?_⟩
          have hk' : k < s.1 + 1 := hk
          show upN s.2.1 s.1 (jx c) k < gn g ∧ upN s.2.2.1 s.1 (jx h) k < 1024 ∧ upN s.2.2.2 s.1 (jx d) k ≤ 20
          by_cases e : k = s.1
          · subst e
            rw [upN_at, upN_at, upN_at]
            exact ⟨(isIn_jx h2 (by omega)).1, (isIn_jx h3.1).1, by have := (isIn_jx h3.2).1; omega⟩
          · rw [upN_ne _ _ e, upN_ne _ _ e, upN_ne _ _ e]
            exact hw k (by omega)
      · exact ⟨h5, hw⟩
    · exact ⟨h5, hw⟩
theorem ws_book {s : Rw} {g : Gv} (h6 : gn g ≤ 6) (h8 : s.1 ≤ 8) (hw : wBk s g) (c h : Int32) : (bookS s (gn g) c h).2.1 ≤ 8 ∧ wBk (bookS s (gn g) c h).2 g := by
  unfold bookS
  split
  · exact ⟨Nat.zero_le _, fun k hk => absurd hk (Nat.not_lt_zero _)⟩
  · split
    · split
      · split
        · exact ⟨h8, hw⟩
        · rename_i h1 h2 h3 h4
          refine ⟨by show s.1 + 1 ≤ 8; omega, fun k hk => ?_⟩
          have hk' : k < s.1 + 1 := hk
          show upN s.2.1 s.1 (jx c) k < gn g ∧ upN s.2.2.1 s.1 (jx h) k < 1024
          by_cases e : k = s.1
          · subst e
            rw [upN_at, upN_at]
            exact ⟨(isIn_jx h2 (by omega)).1, (isIn_jx h3).1⟩
          · rw [upN_ne _ _ e, upN_ne _ _ e]
            exact hw k (by omega)
      · exact ⟨h8, hw⟩
    · exact ⟨h8, hw⟩
theorem ws_plan {s : Rw} {g : Gv} (h6 : gn g ≤ 6) (h8 : s.1 ≤ 10) (hw : wPl s g) (wh x : Int32) : (planS s (gn g) wh x).2.1 ≤ 10 ∧ wPl (planS s (gn g) wh x).2 g := by
  unfold planS
  split
  · exact ⟨Nat.zero_le _, fun k hk => absurd hk (Nat.not_lt_zero _)⟩
  · split
    · split
      · exact ⟨h8, hw⟩
      · split
        · exact ⟨h8, hw⟩
        · rename_i h1 h2 h3 h4
          obtain ⟨j1, j2⟩ := isIn_jx h2.1
          refine ⟨by show s.1 + 1 ≤ 10; omega, fun k hk => ?_⟩
          have hk' : k < s.1 + 1 := hk
          show upN s.2.1 s.1 (jx wh) k ≤ 3 ∧ upN s.2.2.1 s.1 (if nI 0 < wh then jx x else 0) k < 100 ∧ (upN s.2.1 s.1 (jx wh) k = 1 → upN s.2.2.1 s.1 (if nI 0 < wh then jx x else 0) k / 10 < gn g ∧ upN s.2.2.1 s.1 (if nI 0 < wh then jx x else 0) k % 10 < gn g) ∧ (2 ≤ upN s.2.1 s.1 (jx wh) k → upN s.2.2.1 s.1 (if nI 0 < wh then jx x else 0) k < gn g)
          by_cases e : k = s.1
          · subst e
            rw [upN_at, upN_at]
            have c1 : jx wh = 1 → jx x / 10 < gn g ∧ jx x % 10 < gn g := fun z => (prB_iff.mp (h2.2.1 (by rw [j2, z]))).2
            have c2 : 2 ≤ jx wh → jx x < gn g := fun z => (isIn_jx (h2.2.2 (by rw [j2]; exact (nI_ltI (by decide) (by omega)).mpr (by omega))) (by omega)).1
            by_cases z : nI 0 < wh
            · rw [if_pos z]
              have z1 : 0 < jx wh := (nI_ltI (a := 0) (b := jx wh) (by decide) (by omega)).mp (by rw [← j2]; exact z)
              refine ⟨by omega, ?_, c1, c2⟩
              by_cases z2 : jx wh = 1
              · have := c1 z2; omega
              · have := c2 (by omega); omega
            · rw [if_neg z]
              have z1 : jx wh = 0 := Decidable.byContradiction (fun q => z (by rw [j2]; exact (nI_ltI (a := 0) (by decide) (by omega)).mpr (by omega)))
              exact ⟨by omega, by decide, fun q => absurd q (by omega), fun q => absurd q (by omega)⟩
          · rw [upN_ne _ _ e, upN_ne _ _ e]
            exact hw k (by omega)
    · exact ⟨h8, hw⟩
