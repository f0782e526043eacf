theorem c_M_leastFree (E : zE) (σ : Sg) (hk : σ.1 100 = 14) {h : Nat} (hh : h < 1024) : zCt E mX12_leastFree 1 0 0 σ [.ref 100, .int (nI h)] (fun r σ' => σ' = σ ∧ r = some (.int (nI (lf h)))) := by
  refine z_intro (by decide) (Nat.le_of_ble_eq_true rfl) (fun X hX => ?_)
  have hl : ∀ m k, k + m = 10 → lfL h m k = lf h → zS X σ 0 0 2 [(0, .ref 100), (1, .int (nI h)), (2, .int (nI k))] [] := by
    intro m
    induction m with
    | zero =>
      intro k hkm hf
      obtain rfl : k = 10 := by omega
      refine bk hX lkX12_ok (pc' := 5) [.iload_n 2, .bipush 10] (by decide +kernel) (And.intro trivial ?_)
      refine ic_ge hX (22) 27 (by decide +kernel) (by decide) (fun c_5 => ?_) (fun c => absurd (nI_le (a := 10) (b := 10) (by omega) (by decide)) c)
      refine bk hX lkX12_ok (pc' := 28) [.iconst 0] (by decide +kernel) (And.intro trivial ?_)
      exact z_iret hX (by decide +kernel) rfl (rfl) (by decide) (by decide) (by rw [← hf]; exact ⟨rfl, rfl⟩)
    | succ m ih =>
      intro k hkm hf
      unfold lfL at hf
      refine bk hX lkX12_ok (pc' := 5) [.iload_n 2, .bipush 10] (by decide +kernel) (And.intro trivial ?_)
      refine ic_ge hX (22) 27 (by decide +kernel) (by decide) (fun c => absurd c (nI_ge (a := k) (b := 10) (by omega) (by decide))) (fun c_5 => ?_)
      refine bk hX lkX12_ok (pc' := 11) [.aload_n 0, .iload_n 1, .iload_n 2] (by decide +kernel) (And.intro trivial ?_)
      refine z_callV hX kw_X12_224 (c_M_has E _ _ _ _) rfl rfl hk rfl rfl (by decide +kernel) (by decide) (by decide) (by decide) (by decide) (Nat.le_of_ble_eq_true rfl) ?_
      rintro _ _ ⟨rfl, hh⟩
      rw [i_bit (by omega) (by omega)] at hh
      rcases hh with ⟨hb, rfl⟩ | ⟨hb, rfl⟩
      · refine if_ne hX (7) 21 (by decide +kernel) (by decide) (fun c_14 => ?_) (fun c => absurd c (by decide))
        refine bk hX lkX12_ok (pc' := 24) [.iinc 2 1] (by decide +kernel) (And.intro trivial ?_)
        refine gt_ hX (-22) 2 (by decide +kernel) (by decide) ?_
        refine z_lvk (lv' := [(0, _), (1, _), (2, _)]) [1, 2, 0] rfl ?_
        rw [nI_add]
        rw [if_pos hb] at hf
        exact ih (k + 1) (by omega) hf
      · refine if_ne hX (7) 21 (by decide +kernel) (by decide) (fun c => absurd (by decide) c) (fun c_14 => ?_)
        refine bk hX lkX12_ok (pc' := 20) [.iconst 1, .iload_n 2, .ishl] (by decide +kernel) (And.intro trivial ?_)
        exact z_iret hX (by decide +kernel) rfl (rfl) (by decide) (by decide) (by rw [if_neg hb] at hf; rw [i_1shl (by omega), hf]; exact ⟨rfl, rfl⟩)
  refine bk hX lkX12_ok (pc' := 2) [.iconst 0, .istore_n 2] (by decide +kernel) (And.intro trivial ?_)
  refine z_lvk (lv' := [(0, _), (1, _), (2, _)]) [1, 2, 0] rfl ?_
  exact hl 10 0 rfl rfl
set_option maxHeartbeats 1000000 in
theorem c_M_punches (E : zE) (K N : Nat → Nat) (Rf : Nat → Nat → Option Nat) (I : Nat → Nat → Int32) (L : Nat → Nat → Int64) {g : Gv} (hg : gwf g) (hG : mG g I) (hd : gd g < 1000000) (i : Nat) (hi : i < gn g) {s : Nat} (hs : s < 1024) : zCt E mX12_punches 2 0 0 (sg K N Rf I L) [.ref 100, .int (nI i), .int (nI s)] (fun r σ' => σ' = (sg K N Rf I L) ∧ r = some (.int (nI (pn (gk g i) (gv g i) (gd g) s (gr g (4 * i + gd g % 4)))))) := by
  have h6 : gn g ≤ 6 := hg.1
  obtain ⟨hk6, hv9, hcn, hho, hro⟩ := hg.2.1 i hi
  obtain ⟨-, -, hday, hp⟩ := hG
  obtain ⟨hki, hvi, -, -, hrw⟩ := hp i hi
  have ci : (nI i).toNatClampNeg = i := cl (by omega)
  have b10 : gd g % 10 < 10 := Nat.mod_lt _ (by decide)
  have b10' : (gd g + 1) % 10 < 10 := Nat.mod_lt _ (by decide)
  have bv10 : (gv g i + gd g) % 10 < 10 := Nat.mod_lt _ (by decide)
  have b105 : ((gv g i + gd g) % 10 + 5) % 10 < 10 := Nat.mod_lt _ (by decide)
  have b105' : (gv g i + gd g + 5) % 10 < 10 := Nat.mod_lt _ (by decide)
  have b4 : gd g % 4 < 4 := Nat.mod_lt _ (by decide)
  have hbr : gr g (4 * i + gd g % 4) < 10 := Nat.lt_succ_of_le (hro _ b4)
  have m10 : nI (gd g) - nI (gd g) / nI 10 * nI 10 = nI (gd g % 10) := i_mod (by omega) (by decide) (by decide)
  have m3 : nI (gd g) - nI (gd g) / nI 3 * nI 3 = nI (gd g % 3) := i_mod (by omega) (by decide) (by decide)
  have m4 : nI (gd g) - nI (gd g) / nI 4 * nI 4 = nI (gd g % 4) := i_mod (by omega) (by decide) (by decide)
  have m10' : nI (gd g + 1) - nI (gd g + 1) / nI 10 * nI 10 = nI ((gd g + 1) % 10) := i_mod (by omega) (by decide) (by decide)
  have mv10 : nI (gv g i + gd g) - nI (gv g i + gd g) / nI 10 * nI 10 = nI ((gv g i + gd g) % 10) := i_mod (by omega) (by decide) (by decide)
  have m105 : nI ((gv g i + gd g) % 10 + 5) - nI ((gv g i + gd g) % 10 + 5) / nI 10 * nI 10 = nI (((gv g i + gd g) % 10 + 5) % 10) := i_mod (by omega) (by decide) (by decide)
  have hrr := hrw _ b4
  have e4 : (nI (4 * i + gd g % 4)).toNatClampNeg = 4 * i + gd g % 4 := cl (by omega)
  refine z_intro (by decide) (Nat.le_of_ble_eq_true rfl) (fun X hX => ?_)
  refine bk hX lkX12_ok (pc' := 32) [.iconst 1, .aload_n 0, .getfield 16, .bipush 10, .irem, .ishl, .istore_n 3, .aload_n 0, .getfield 23, .iload_n 1, .iaload, .aload_n 0, .getfield 16, .iadd, .bipush 10, .irem, .istore 4, .aload_n 0, .getfield 16, .iconst 3, .irem] (by decide +kernel) (And.intro (by decide) (And.intro (by exact vin 6 (by omega)) (And.intro (by decide) (And.intro (by decide) (And.intro trivial ?_)))))
  simp only [hday, hvi, ci, m10, m3, nI_add, mv10]
  refine if_ne hX (7) 39 (by decide +kernel) (by decide) (fun hl3 => ?_) (fun hl3 => ?_)
  · have hl3 : ¬ gd g % 3 = 0 := fun h => hl3 (by rw [h]; rfl)
    refine bk hX lkX12_ok (pc' := 48) [.iconst 0, .istore 5, .aload_n 0, .getfield 19, .iload_n 1, .iaload] (by decide +kernel) (And.intro (by exact vin 6 (by omega)) (And.intro trivial ?_))
    simp only [ci]
    have hk7 : gk g i = 0 ∨ gk g i = 1 ∨ gk g i = 2 ∨ gk g i = 3 ∨ gk g i = 4 ∨ gk g i = 5 ∨ gk g i = 6 := by omega
    rcases hk7 with e | e | e | e | e | e | e
    · rw [hki, e]
      refine z_tsw hX 182 (dflt := 134) (lo := 1) (hi := 6) (offs := #[40, 51, 56, 62, 85, 110]) (len := 40) (off := 134) (by decide +kernel) (by decide) (by decide) ?_
      refine bk hX lkX12_ok (pc' := 183) [.iload_n 3] (by decide +kernel) (And.intro trivial ?_)
      exact z_iret hX (by decide +kernel) rfl (rfl) (by decide) (by decide) (by
  first
    | exact absurd c_90 (by decide)
    | exact absurd c_112 (by decide)
    | exact absurd c_90 (fun h => h (by decide))
    | exact absurd c_112 (fun h => h (by decide))
    | (refine ⟨rfl, ?_⟩
       simp [pn, e, hl3, i_or, i_1shl, b10, bv10, b10', hb, b105', hbr]
       done)
    | (refine ⟨rfl, ?_⟩
       simp [pn, e, hl3, i_or, i_1shl, b10, bv10, b10']
       done)
    | (refine ⟨rfl, ?_⟩
       simp [pn, e, i_or, i_1shl, b10, bv10, b10', hbr]
       done))
    · rw [hki, e]
      refine z_tsw hX 88 (dflt := 134) (lo := 1) (hi := 6) (offs := #[40, 51, 56, 62, 85, 110]) (len := 40) (off := 40) (by decide +kernel) (by decide) (by decide) ?_
      refine bk hX lkX12_ok (pc' := 90) [.iload 5] (by decide +kernel) (And.intro trivial ?_)
      refine if_eq hX (7) 97 (by decide +kernel) (by decide) (fun c_90 => ?_) (fun c_90 => ?_)
      · refine bk hX lkX12_ok (pc' := 98) [.iload_n 3] (by decide +kernel) (And.intro trivial ?_)
        exact z_iret hX (by decide +kernel) rfl (rfl) (by decide) (by decide) (by
  first
    | exact absurd c_90 (by decide)
    | exact absurd c_112 (by decide)
    | exact absurd c_90 (fun h => h (by decide))
    | exact absurd c_112 (fun h => h (by decide))
    | (refine ⟨rfl, ?_⟩
       simp [pn, e, hl3, i_or, i_1shl, b10, bv10, b10', hb, b105', hbr]
       done)
    | (refine ⟨rfl, ?_⟩
       simp [pn, e, hl3, i_or, i_1shl, b10, bv10, b10']
       done)
    | (refine ⟨rfl, ?_⟩
       simp [pn, e, i_or, i_1shl, b10, bv10, b10', hbr]
       done))
      · refine bk hX lkX12_ok (pc' := 94) [.iconst 0] (by decide +kernel) (And.intro trivial ?_)
        refine gt_ hX (4) 98 (by decide +kernel) (by decide) ?_
        exact z_iret hX (by decide +kernel) rfl (rfl) (by decide) (by decide) (by
  first
    | exact absurd c_90 (by decide)
    | exact absurd c_112 (by decide)
    | exact absurd c_90 (fun h => h (by decide))
    | exact absurd c_112 (fun h => h (by decide))
    | (refine ⟨rfl, ?_⟩
       simp [pn, e, hl3, i_or, i_1shl, b10, bv10, b10', hb, b105', hbr]
       done)
    | (refine ⟨rfl, ?_⟩
       simp [pn, e, hl3, i_or, i_1shl, b10, bv10, b10']
       done)
    | (refine ⟨rfl, ?_⟩
       simp [pn, e, i_or, i_1shl, b10, bv10, b10', hbr]
       done))
    · rw [hki, e]
      refine z_tsw hX 99 (dflt := 134) (lo := 1) (hi := 6) (offs := #[40, 51, 56, 62, 85, 110]) (len := 40) (off := 51) (by decide +kernel) (by decide) (by decide) ?_
      refine bk hX lkX12_ok (pc' := 103) [.iconst 1, .iload 4, .ishl] (by decide +kernel) (And.intro trivial ?_)
      exact z_iret hX (by decide +kernel) rfl (rfl) (by decide) (by decide) (by
  first
    | exact absurd c_90 (by decide)
    | exact absurd c_112 (by decide)
    | exact absurd c_90 (fun h => h (by decide))
    | exact absurd c_112 (fun h => h (by decide))
    | (refine ⟨rfl, ?_⟩
       simp [pn, e, hl3, i_or, i_1shl, b10, bv10, b10', hb, b105', hbr]
       done)
    | (refine ⟨rfl, ?_⟩
       simp [pn, e, hl3, i_or, i_1shl, b10, bv10, b10']
       done)
    | (refine ⟨rfl, ?_⟩
       simp [pn, e, i_or, i_1shl, b10, bv10, b10', hbr]
       done))
    · rw [hki, e]
      refine z_tsw hX 104 (dflt := 134) (lo := 1) (hi := 6) (offs := #[40, 51, 56, 62, 85, 110]) (len := 40) (off := 56) (by decide +kernel) (by decide) (by decide) ?_
      refine bk hX lkX12_ok (pc' := 106) [.aload_n 0, .iload_n 2] (by decide +kernel) (And.intro trivial ?_)
      refine z_callV hX kw_X12_316 (c_M_leastFree E _ rfl hs) rfl rfl rfl rfl rfl (by decide +kernel) (by decide) (by decide) (by decide) (by decide) (Nat.le_of_ble_eq_true rfl) ?_
      rintro _ _ ⟨rfl, rfl⟩
      exact z_iret hX (by decide +kernel) rfl (rfl) (by decide) (by decide) (by
  first
    | exact absurd c_90 (by decide)
    | exact absurd c_112 (by decide)
    | exact absurd c_90 (fun h => h (by decide))
    | exact absurd c_112 (fun h => h (by decide))
    | (refine ⟨rfl, ?_⟩
       simp [pn, e, hl3, i_or, i_1shl, b10, bv10, b10', hb, b105', hbr]
       done)
    | (refine ⟨rfl, ?_⟩
       simp [pn, e, hl3, i_or, i_1shl, b10, bv10, b10']
       done)
    | (refine ⟨rfl, ?_⟩
       simp [pn, e, i_or, i_1shl, b10, bv10, b10', hbr]
       done))
    · rw [hki, e]
      refine z_tsw hX 110 (dflt := 134) (lo := 1) (hi := 6) (offs := #[40, 51, 56, 62, 85, 110]) (len := 40) (off := 62) (by decide +kernel) (by decide) (by decide) ?_
      refine bk hX lkX12_ok (pc' := 112) [.iload 5] (by decide +kernel) (And.intro trivial ?_)
      refine if_eq hX (7) 119 (by decide +kernel) (by decide) (fun c_112 => ?_) (fun c_112 => ?_)
      · refine bk hX lkX12_ok (pc' := 131) [.iload_n 3, .iconst 1, .aload_n 0, .getfield 16, .iconst 1, .iadd, .bipush 10, .irem, .ishl] (by decide +kernel) (And.intro (by decide) (And.intro trivial ?_))
        simp only [hday, nI_add, m10']
        refine bk hX lkX12_ok (pc' := 132) [.ior] (by decide +kernel) (And.intro trivial ?_)
        exact z_iret hX (by decide +kernel) rfl (rfl) (by decide) (by decide) (by
  first
    | exact absurd c_90 (by decide)
    | exact absurd c_112 (by decide)
    | exact absurd c_90 (fun h => h (by decide))
    | exact absurd c_112 (fun h => h (by decide))
    | (refine ⟨rfl, ?_⟩
       simp [pn, e, hl3, i_or, i_1shl, b10, bv10, b10', hb, b105', hbr]
       done)
    | (refine ⟨rfl, ?_⟩
       simp [pn, e, hl3, i_or, i_1shl, b10, bv10, b10']
       done)
    | (refine ⟨rfl, ?_⟩
       simp [pn, e, i_or, i_1shl, b10, bv10, b10', hbr]
       done))
      · refine bk hX lkX12_ok (pc' := 116) [.iconst 0] (by decide +kernel) (And.intro trivial ?_)
        refine gt_ hX (16) 132 (by decide +kernel) (by decide) ?_
        exact z_iret hX (by decide +kernel) rfl (rfl) (by decide) (by decide) (by
  first
    | exact absurd c_90 (by decide)
    | exact absurd c_112 (by decide)
    | exact absurd c_90 (fun h => h (by decide))
    | exact absurd c_112 (fun h => h (by decide))
    | (refine ⟨rfl, ?_⟩
       simp [pn, e, hl3, i_or, i_1shl, b10, bv10, b10', hb, b105', hbr]
       done)
    | (refine ⟨rfl, ?_⟩
       simp [pn, e, hl3, i_or, i_1shl, b10, bv10, b10']
       done)
    | (refine ⟨rfl, ?_⟩
       simp [pn, e, i_or, i_1shl, b10, bv10, b10', hbr]
       done))
    · rw [hki, e]
      refine z_tsw hX 133 (dflt := 134) (lo := 1) (hi := 6) (offs := #[40, 51, 56, 62, 85, 110]) (len := 40) (off := 85) (by decide +kernel) (by decide) (by decide) ?_
      refine bk hX lkX12_ok (pc' := 138) [.iconst 1, .aload_n 0, .iload_n 2, .iload 4] (by decide +kernel) (And.intro trivial ?_)
      refine z_callV hX kw_X12_224 (c_M_has E _ _ _ _) rfl rfl rfl rfl rfl (by decide +kernel) (by decide) (by decide) (by decide) (by decide) (Nat.le_of_ble_eq_true rfl) ?_
      rintro _ _ ⟨rfl, hh⟩
      rw [i_bit (by omega) (by omega)] at hh
      rcases hh with ⟨hb, rfl⟩ | ⟨hb, rfl⟩
      · refine if_eq hX (13) 154 (by decide +kernel) (by decide) (fun c => absurd c (by decide)) (fun c_141 => ?_)
        refine bk hX lkX12_ok (pc' := 151) [.iload 4, .iconst 5, .iadd, .bipush 10, .irem] (by decide +kernel) (And.intro (by decide) (And.intro trivial ?_))
        simp only [nI_add, m105]
        refine gt_ hX (5) 156 (by decide +kernel) (by decide) ?_
        refine bk hX lkX12_ok (pc' := 157) [.ishl] (by decide +kernel) (And.intro trivial ?_)
        exact z_iret hX (by decide +kernel) rfl (rfl) (by decide) (by decide) (by
  first
    | exact absurd c_90 (by decide)
    | exact absurd c_112 (by decide)
    | exact absurd c_90 (fun h => h (by decide))
    | exact absurd c_112 (fun h => h (by decide))
    | (refine ⟨rfl, ?_⟩
       simp [pn, e, hl3, i_or, i_1shl, b10, bv10, b10', hb, b105', hbr]
       done)
    | (refine ⟨rfl, ?_⟩
       simp [pn, e, hl3, i_or, i_1shl, b10, bv10, b10']
       done)
    | (refine ⟨rfl, ?_⟩
       simp [pn, e, i_or, i_1shl, b10, bv10, b10', hbr]
       done))
      · refine if_eq hX (13) 154 (by decide +kernel) (by decide) (fun c_141 => ?_) (fun c => absurd (by decide) c)
        refine bk hX lkX12_ok (pc' := 157) [.iload 4, .ishl] (by decide +kernel) (And.intro trivial ?_)
        exact z_iret hX (by decide +kernel) rfl (rfl) (by decide) (by decide) (by
  first
    | exact absurd c_90 (by decide)
    | exact absurd c_112 (by decide)
    | exact absurd c_90 (fun h => h (by decide))
    | exact absurd c_112 (fun h => h (by decide))
    | (refine ⟨rfl, ?_⟩
       simp [pn, e, hl3, i_or, i_1shl, b10, bv10, b10', hb, b105', hbr]
       done)
    | (refine ⟨rfl, ?_⟩
       simp [pn, e, hl3, i_or, i_1shl, b10, bv10, b10']
       done)
    | (refine ⟨rfl, ?_⟩
       simp [pn, e, i_or, i_1shl, b10, bv10, b10', hbr]
       done))
    · rw [hki, e]
      refine z_tsw hX 158 (dflt := 134) (lo := 1) (hi := 6) (offs := #[40, 51, 56, 62, 85, 110]) (len := 40) (off := 110) (by decide +kernel) (by decide) (by decide) ?_
      refine bk hX lkX12_ok (pc' := 160) [.aload_n 0, .iload_n 2] (by decide +kernel) (And.intro trivial ?_)
      refine z_callV hX kw_X12_316 (c_M_leastFree E _ rfl hs) rfl rfl rfl rfl rfl (by decide +kernel) (by decide) (by decide) (by decide) (by decide) (Nat.le_of_ble_eq_true rfl) ?_
      rintro _ _ ⟨rfl, rfl⟩
      refine bk hX lkX12_ok (pc' := 179) [.iconst 1, .aload_n 0, .getfield 32, .iconst 4, .iload_n 1, .imul, .aload_n 0, .getfield 16, .iconst 4, .irem, .iadd, .iaload] (by decide +kernel) (And.intro (by decide) (And.intro (by (simp only [hday, m4, pk_mul, nI_add]; exact vin 24 (by omega))) (And.intro trivial ?_)))
      simp only [hday, m4, pk_mul, nI_add, e4, hrr]
      refine bk hX lkX12_ok (pc' := 181) [.ishl, .ior] (by decide +kernel) (And.intro trivial ?_)
      exact z_iret hX (by decide +kernel) rfl (rfl) (by decide) (by decide) (by
  first
    | exact absurd c_90 (by decide)
    | exact absurd c_112 (by decide)
    | exact absurd c_90 (fun h => h (by decide))
    | exact absurd c_112 (fun h => h (by decide))
    | (refine ⟨rfl, ?_⟩
       simp [pn, e, hl3, i_or, i_1shl, b10, bv10, b10', hb, b105', hbr]
       done)
    | (refine ⟨rfl, ?_⟩
       simp [pn, e, hl3, i_or, i_1shl, b10, bv10, b10']
       done)
    | (refine ⟨rfl, ?_⟩
       simp [pn, e, i_or, i_1shl, b10, bv10, b10', hbr]
       done))
  · have hl3 : gd g % 3 = 0 := nI_inj (by omega) (by decide) hl3
    refine bk hX lkX12_ok (pc' := 36) [.iconst 1] (by decide +kernel) (And.intro trivial ?_)
    refine gt_ hX (4) 40 (by decide +kernel) (by decide) ?_
    refine bk hX lkX12_ok (pc' := 48) [.istore 5, .aload_n 0, .getfield 19, .iload_n 1, .iaload] (by decide +kernel) (And.intro (by exact vin 6 (by omega)) (And.intro trivial ?_))
    simp only [ci]
    have hk7 : gk g i = 0 ∨ gk g i = 1 ∨ gk g i = 2 ∨ gk g i = 3 ∨ gk g i = 4 ∨ gk g i = 5 ∨ gk g i = 6 := by omega
    rcases hk7 with e | e | e | e | e | e | e
    · rw [hki, e]
      refine z_tsw hX 182 (dflt := 134) (lo := 1) (hi := 6) (offs := #[40, 51, 56, 62, 85, 110]) (len := 40) (off := 134) (by decide +kernel) (by decide) (by decide) ?_
      refine bk hX lkX12_ok (pc' := 183) [.iload_n 3] (by decide +kernel) (And.intro trivial ?_)
      exact z_iret hX (by decide +kernel) rfl (rfl) (by decide) (by decide) (by
  first
    | exact absurd c_90 (by decide)
    | exact absurd c_112 (by decide)
    | exact absurd c_90 (fun h => h (by decide))
    | exact absurd c_112 (fun h => h (by decide))
    | (refine ⟨rfl, ?_⟩
       simp [pn, e, hl3, i_or, i_1shl, b10, bv10, b10', hb, b105', hbr]
       done)
    | (refine ⟨rfl, ?_⟩
       simp [pn, e, hl3, i_or, i_1shl, b10, bv10, b10']
       done)
    | (refine ⟨rfl, ?_⟩
       simp [pn, e, i_or, i_1shl, b10, bv10, b10', hbr]
       done))
    · rw [hki, e]
      refine z_tsw hX 88 (dflt := 134) (lo := 1) (hi := 6) (offs := #[40, 51, 56, 62, 85, 110]) (len := 40) (off := 40) (by decide +kernel) (by decide) (by decide) ?_
      refine bk hX lkX12_ok (pc' := 90) [.iload 5] (by decide +kernel) (And.intro trivial ?_)
      refine if_eq hX (7) 97 (by decide +kernel) (by decide) (fun c_90 => ?_) (fun c_90 => ?_)
      · refine bk hX lkX12_ok (pc' := 98) [.iload_n 3] (by decide +kernel) (And.intro trivial ?_)
        exact z_iret hX (by decide +kernel) rfl (rfl) (by decide) (by decide) (by
  first
    | exact absurd c_90 (by decide)
    | exact absurd c_112 (by decide)
    | exact absurd c_90 (fun h => h (by decide))
    | exact absurd c_112 (fun h => h (by decide))
    | (refine ⟨rfl, ?_⟩
       simp [pn, e, hl3, i_or, i_1shl, b10, bv10, b10', hb, b105', hbr]
       done)
    | (refine ⟨rfl, ?_⟩
       simp [pn, e, hl3, i_or, i_1shl, b10, bv10, b10']
       done)
    | (refine ⟨rfl, ?_⟩
       simp [pn, e, i_or, i_1shl, b10, bv10, b10', hbr]
       done))
      · refine bk hX lkX12_ok (pc' := 94) [.iconst 0] (by decide +kernel) (And.intro trivial ?_)
        refine gt_ hX (4) 98 (by decide +kernel) (by decide) ?_
        exact z_iret hX (by decide +kernel) rfl (rfl) (by decide) (by decide) (by
  first
    | exact absurd c_90 (by decide)
    | exact absurd c_112 (by decide)
    | exact absurd c_90 (fun h => h (by decide))
    | exact absurd c_112 (fun h => h (by decide))
    | (refine ⟨rfl, ?_⟩
       simp [pn, e, hl3, i_or, i_1shl, b10, bv10, b10', hb, b105', hbr]
       done)
    | (refine ⟨rfl, ?_⟩
       simp [pn, e, hl3, i_or, i_1shl, b10, bv10, b10']
       done)
    | (refine ⟨rfl, ?_⟩
       simp [pn, e, i_or, i_1shl, b10, bv10, b10', hbr]
       done))
    · rw [hki, e]
      refine z_tsw hX 99 (dflt := 134) (lo := 1) (hi := 6) (offs := #[40, 51, 56, 62, 85, 110]) (len := 40) (off := 51) (by decide +kernel) (by decide) (by decide) ?_
      refine bk hX lkX12_ok (pc' := 103) [.iconst 1, .iload 4, .ishl] (by decide +kernel) (And.intro trivial ?_)
      exact z_iret hX (by decide +kernel) rfl (rfl) (by decide) (by decide) (by
  first
    | exact absurd c_90 (by decide)
    | exact absurd c_112 (by decide)
    | exact absurd c_90 (fun h => h (by decide))
    | exact absurd c_112 (fun h => h (by decide))
    | (refine ⟨rfl, ?_⟩
       simp [pn, e, hl3, i_or, i_1shl, b10, bv10, b10', hb, b105', hbr]
       done)
    | (refine ⟨rfl, ?_⟩
       simp [pn, e, hl3, i_or, i_1shl, b10, bv10, b10']
       done)
    | (refine ⟨rfl, ?_⟩
       simp [pn, e, i_or, i_1shl, b10, bv10, b10', hbr]
       done))
    · rw [hki, e]
      refine z_tsw hX 104 (dflt := 134) (lo := 1) (hi := 6) (offs := #[40, 51, 56, 62, 85, 110]) (len := 40) (off := 56) (by decide +kernel) (by decide) (by decide) ?_
      refine bk hX lkX12_ok (pc' := 106) [.aload_n 0, .iload_n 2] (by decide +kernel) (And.intro trivial ?_)
      refine z_callV hX kw_X12_316 (c_M_leastFree E _ rfl hs) rfl rfl rfl rfl rfl (by decide +kernel) (by decide) (by decide) (by decide) (by decide) (Nat.le_of_ble_eq_true rfl) ?_
      rintro _ _ ⟨rfl, rfl⟩
      exact z_iret hX (by decide +kernel) rfl (rfl) (by decide) (by decide) (by
  first
    | exact absurd c_90 (by decide)
    | exact absurd c_112 (by decide)
    | exact absurd c_90 (fun h => h (by decide))
    | exact absurd c_112 (fun h => h (by decide))
    | (refine ⟨rfl, ?_⟩
       simp [pn, e, hl3, i_or, i_1shl, b10, bv10, b10', hb, b105', hbr]
       done)
    | (refine ⟨rfl, ?_⟩
       simp [pn, e, hl3, i_or, i_1shl, b10, bv10, b10']
       done)
    | (refine ⟨rfl, ?_⟩
       simp [pn, e, i_or, i_1shl, b10, bv10, b10', hbr]
       done))
    · rw [hki, e]
      refine z_tsw hX 110 (dflt := 134) (lo := 1) (hi := 6) (offs := #[40, 51, 56, 62, 85, 110]) (len := 40) (off := 62) (by decide +kernel) (by decide) (by decide) ?_
      refine bk hX lkX12_ok (pc' := 112) [.iload 5] (by decide +kernel) (And.intro trivial ?_)
      refine if_eq hX (7) 119 (by decide +kernel) (by decide) (fun c_112 => ?_) (fun c_112 => ?_)
      · refine bk hX lkX12_ok (pc' := 131) [.iload_n 3, .iconst 1, .aload_n 0, .getfield 16, .iconst 1, .iadd, .bipush 10, .irem, .ishl] (by decide +kernel) (And.intro (by decide) (And.intro trivial ?_))
        simp only [hday, nI_add, m10']
        refine bk hX lkX12_ok (pc' := 132) [.ior] (by decide +kernel) (And.intro trivial ?_)
        exact z_iret hX (by decide +kernel) rfl (rfl) (by decide) (by decide) (by
  first
    | exact absurd c_90 (by decide)
    | exact absurd c_112 (by decide)
    | exact absurd c_90 (fun h => h (by decide))
    | exact absurd c_112 (fun h => h (by decide))
    | (refine ⟨rfl, ?_⟩
       simp [pn, e, hl3, i_or, i_1shl, b10, bv10, b10', hb, b105', hbr]
       done)
    | (refine ⟨rfl, ?_⟩
       simp [pn, e, hl3, i_or, i_1shl, b10, bv10, b10']
       done)
    | (refine ⟨rfl, ?_⟩
       simp [pn, e, i_or, i_1shl, b10, bv10, b10', hbr]
       done))
      · refine bk hX lkX12_ok (pc' := 116) [.iconst 0] (by decide +kernel) (And.intro trivial ?_)
        refine gt_ hX (16) 132 (by decide +kernel) (by decide) ?_
        exact z_iret hX (by decide +kernel) rfl (rfl) (by decide) (by decide) (by
  first
    | exact absurd c_90 (by decide)
    | exact absurd c_112 (by decide)
    | exact absurd c_90 (fun h => h (by decide))
    | exact absurd c_112 (fun h => h (by decide))
    | (refine ⟨rfl, ?_⟩
       simp [pn, e, hl3, i_or, i_1shl, b10, bv10, b10', hb, b105', hbr]
       done)
    | (refine ⟨rfl, ?_⟩
       simp [pn, e, hl3, i_or, i_1shl, b10, bv10, b10']
       done)
    | (refine ⟨rfl, ?_⟩
       simp [pn, e, i_or, i_1shl, b10, bv10, b10', hbr]
       done))
    · rw [hki, e]
      refine z_tsw hX 133 (dflt := 134) (lo := 1) (hi := 6) (offs := #[40, 51, 56, 62, 85, 110]) (len := 40) (off := 85) (by decide +kernel) (by decide) (by decide) ?_
      refine bk hX lkX12_ok (pc' := 138) [.iconst 1, .aload_n 0, .iload_n 2, .iload 4] (by decide +kernel) (And.intro trivial ?_)
      refine z_callV hX kw_X12_224 (c_M_has E _ _ _ _) rfl rfl rfl rfl rfl (by decide +kernel) (by decide) (by decide) (by decide) (by decide) (Nat.le_of_ble_eq_true rfl) ?_
      rintro _ _ ⟨rfl, hh⟩
      rw [i_bit (by omega) (by omega)] at hh
      rcases hh with ⟨hb, rfl⟩ | ⟨hb, rfl⟩
      · refine if_eq hX (13) 154 (by decide +kernel) (by decide) (fun c => absurd c (by decide)) (fun c_141 => ?_)
        refine bk hX lkX12_ok (pc' := 151) [.iload 4, .iconst 5, .iadd, .bipush 10, .irem] (by decide +kernel) (And.intro (by decide) (And.intro trivial ?_))
        simp only [nI_add, m105]
        refine gt_ hX (5) 156 (by decide +kernel) (by decide) ?_
        refine bk hX lkX12_ok (pc' := 157) [.ishl] (by decide +kernel) (And.intro trivial ?_)
        exact z_iret hX (by decide +kernel) rfl (rfl) (by decide) (by decide) (by
  first
    | exact absurd c_90 (by decide)
    | exact absurd c_112 (by decide)
    | exact absurd c_90 (fun h => h (by decide))
    | exact absurd c_112 (fun h => h (by decide))
    | (refine ⟨rfl, ?_⟩
       simp [pn, e, hl3, i_or, i_1shl, b10, bv10, b10', hb, b105', hbr]
       done)
    | (refine ⟨rfl, ?_⟩
       simp [pn, e, hl3, i_or, i_1shl, b10, bv10, b10']
       done)
    | (refine ⟨rfl, ?_⟩
       simp [pn, e, i_or, i_1shl, b10, bv10, b10', hbr]
       done))
      · refine if_eq hX (13) 154 (by decide +kernel) (by decide) (fun c_141 => ?_) (fun c => absurd (by decide) c)
        refine bk hX lkX12_ok (pc' := 157) [.iload 4, .ishl] (by decide +kernel) (And.intro trivial ?_)
        exact z_iret hX (by decide +kernel) rfl (rfl) (by decide) (by decide) (by
  first
    | exact absurd c_90 (by decide)
    | exact absurd c_112 (by decide)
    | exact absurd c_90 (fun h => h (by decide))
    | exact absurd c_112 (fun h => h (by decide))
    | (refine ⟨rfl, ?_⟩
       simp [pn, e, hl3, i_or, i_1shl, b10, bv10, b10', hb, b105', hbr]
       done)
    | (refine ⟨rfl, ?_⟩
       simp [pn, e, hl3, i_or, i_1shl, b10, bv10, b10']
       done)
    | (refine ⟨rfl, ?_⟩
       simp [pn, e, i_or, i_1shl, b10, bv10, b10', hbr]
       done))
    · rw [hki, e]
      refine z_tsw hX 158 (dflt := 134) (lo := 1) (hi := 6) (offs := #[40, 51, 56, 62, 85, 110]) (len := 40) (off := 110) (by decide +kernel) (by decide) (by decide) ?_
      refine bk hX lkX12_ok (pc' := 160) [.aload_n 0, .iload_n 2] (by decide +kernel) (And.intro trivial ?_)
      refine z_callV hX kw_X12_316 (c_M_leastFree E _ rfl hs) rfl rfl rfl rfl rfl (by decide +kernel) (by decide) (by decide) (by decide) (by decide) (Nat.le_of_ble_eq_true rfl) ?_
      rintro _ _ ⟨rfl, rfl⟩
      refine bk hX lkX12_ok (pc' := 179) [.iconst 1, .aload_n 0, .getfield 32, .iconst 4, .iload_n 1, .imul, .aload_n 0, .getfield 16, .iconst 4, .irem, .iadd, .iaload] (by decide +kernel) (And.intro (by decide) (And.intro (by (simp only [hday, m4, pk_mul, nI_add]; exact vin 24 (by omega))) (And.intro trivial ?_)))
      simp only [hday, m4, pk_mul, nI_add, e4, hrr]
      refine bk hX lkX12_ok (pc' := 181) [.ishl, .ior] (by decide +kernel) (And.intro trivial ?_)
      exact z_iret hX (by decide +kernel) rfl (rfl) (by decide) (by decide) (by
  first
    | exact absurd c_90 (by decide)
    | exact absurd c_112 (by decide)
    | exact absurd c_90 (fun h => h (by decide))
    | exact absurd c_112 (fun h => h (by decide))
    | (refine ⟨rfl, ?_⟩
       simp [pn, e, hl3, i_or, i_1shl, b10, bv10, b10', hb, b105', hbr]
       done)
    | (refine ⟨rfl, ?_⟩
       simp [pn, e, hl3, i_or, i_1shl, b10, bv10, b10']
       done)
    | (refine ⟨rfl, ?_⟩
       simp [pn, e, i_or, i_1shl, b10, bv10, b10', hbr]
       done))
