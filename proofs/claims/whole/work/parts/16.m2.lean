/-- how many of the first k bits are set -/
def pcN (h : Nat) : Nat → Nat
  | 0 => 0
  | k + 1 => pcN h k + (if h.testBit k = true then 1 else 0)
theorem pcN_le (h : Nat) : ∀ k, pcN h k ≤ k
  | 0 => Nat.le_refl 0
  | k + 1 => by
    have := pcN_le h k
    unfold pcN
    split <;> omega
theorem c_M_bits (E : zE) (σ : Sg) (hk : σ.1 100 = 14) {h : Nat} (hh : h < 1024) : zCt E mX12_bits 1 0 0 σ [.ref 100, .int (nI h)] (fun r σ' => σ' = σ ∧ r = some (.int (nI (pcN h 10)))) := by
  refine z_intro (by decide) (Nat.le_of_ble_eq_true rfl) (fun X hX => ?_)
  have hl : ∀ m k, k + m = 10 → zS X σ 0 0 4 [(0, .ref 100), (1, .int (nI h)), (2, .int (nI (pcN h k))), (3, .int (nI k))] [] := by
    intro m
    induction m with
    | zero =>
      intro k hkm
      obtain rfl : k = 10 := by omega
      refine bk hX lkX12_ok (pc' := 7) [.iload_n 3, .bipush 10] (by decide +kernel) (And.intro trivial ?_)
      refine ic_ge hX (26) 33 (by decide +kernel) (by decide) (fun c_7 => ?_) (fun c => absurd (nI_le (a := 10) (b := 10) (by omega) (by decide)) c)
      refine bk hX lkX12_ok (pc' := 34) [.iload_n 2] (by decide +kernel) (And.intro trivial ?_)
      exact z_iret hX (by decide +kernel) rfl (rfl) (by decide) (by decide) (⟨rfl, rfl⟩)
    | succ m ih =>
      intro k hkm
      refine bk hX lkX12_ok (pc' := 7) [.iload_n 3, .bipush 10] (by decide +kernel) (And.intro trivial ?_)
      refine ic_ge hX (26) 33 (by decide +kernel) (by decide) (fun c => absurd c (nI_ge (a := k) (b := 10) (by omega) (by decide))) (fun c_7 => ?_)
      refine bk hX lkX12_ok (pc' := 14) [.iload_n 2, .aload_n 0, .iload_n 1, .iload_n 3] (by decide +kernel) (And.intro trivial ?_)
      refine z_callV hX kw_X12_224 (c_M_has E _ _ _ _) rfl rfl hk rfl rfl (by decide +kernel) (by decide) (by decide) (by decide) (by decide) (Nat.le_of_ble_eq_true rfl) ?_
      rintro _ _ ⟨rfl, hh⟩
      rw [i_bit (by omega) (by omega)] at hh
      rcases hh with ⟨hb, rfl⟩ | ⟨hb, rfl⟩
      · refine if_eq hX (7) 24 (by decide +kernel) (by decide) (fun c => absurd c (by decide)) (fun c_17 => ?_)
        refine bk hX lkX12_ok (pc' := 21) [.iconst 1] (by decide +kernel) (And.intro trivial ?_)
        refine gt_ hX (4) 25 (by decide +kernel) (by decide) ?_
        refine bk hX lkX12_ok (pc' := 30) [.iadd, .istore_n 2, .iinc 3 1] (by decide +kernel) (And.intro trivial ?_)
        refine gt_ hX (-26) 4 (by decide +kernel) (by decide) ?_
        refine z_lvk (lv' := [(0, _), (1, _), (2, _), (3, _)]) [2, 3, 1, 0] rfl ?_
        first | (have e : pcN h (k + 1) = pcN h k + 1 := by rw [pcN, if_pos hb]) | (have e : pcN h (k + 1) = pcN h k := by rw [pcN, if_neg hb]; omega)
        rw [nI_add]
        have := ih (k + 1) (by omega)
        rw [e] at this
        first | exact this | (simp only [show (1 : Int32) = nI 1 from rfl, show (0 : Int32) = nI 0 from rfl, nI_add, Nat.add_zero]; exact this)
      · refine if_eq hX (7) 24 (by decide +kernel) (by decide) (fun c_17 => ?_) (fun c => absurd (by decide) c)
        refine bk hX lkX12_ok (pc' := 30) [.iconst 0, .iadd, .istore_n 2, .iinc 3 1] (by decide +kernel) (And.intro trivial ?_)
        refine gt_ hX (-26) 4 (by decide +kernel) (by decide) ?_
        refine z_lvk (lv' := [(0, _), (1, _), (2, _), (3, _)]) [2, 3, 1, 0] rfl ?_
        first | (have e : pcN h (k + 1) = pcN h k + 1 := by rw [pcN, if_pos hb]) | (have e : pcN h (k + 1) = pcN h k := by rw [pcN, if_neg hb]; omega)
        rw [nI_add]
        have := ih (k + 1) (by omega)
        rw [e] at this
        first | exact this | (simp only [show (1 : Int32) = nI 1 from rfl, show (0 : Int32) = nI 0 from rfl, nI_add, Nat.add_zero]; exact this)
  refine bk hX lkX12_ok (pc' := 4) [.iconst 0, .istore_n 2, .iconst 0, .istore_n 3] (by decide +kernel) (And.intro trivial ?_)
  refine z_lvk (lv' := [(0, _), (1, _), (2, _), (3, _)]) [2, 3, 1, 0] rfl ?_
  exact hl 10 0 rfl
