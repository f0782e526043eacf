/-! the image: rows that are copied -/
def imD (j : Nat) : Nat := 153 + j
def imS (j : Nat) : Nat := zget [104, 105, 106, 107, 108, 136, 137, 138, 141, 142, 143, 144] j
def imL (j : Nat) : Nat := zget [6, 6, 6, 6, 24, 5, 5, 5, 10, 10, 8, 8] j
def imG (j : Nat) : Nat := zget [0, 0, 0, 0, 1, 2, 2, 2, 3, 3, 4, 4] j
def imF (j : Nat) : Nat := zget [9, 0, 1, 2, 34, 38, 39] j
def imC (g i j : Nat) : Nat := bif Nat.blt (imG j) g then imL j else bif Nat.beq (imG j) g then i else 0
def cpS (D S c : Nat → Nat) (I0 I1 : Nat → Nat → Int32) : Prop := (∀ j, j < 12 → ∀ k, k < c j → I1 (D j) k = I0 (S j) k) ∧ (∀ q, (∀ j, j < 12 → q ≠ D j) → I1 q = I0 q)
def cpW (D S : Nat → Nat) : Prop := (∀ a, a < 12 → ∀ b, b < 12 → D a = D b → a = b) ∧ (∀ a, a < 12 → ∀ b, b < 12 → S a ≠ D b) ∧ ∀ a, a < 12 → D a ≠ 100
theorem cpW_im : cpW imD imS := by unfold cpW; decide +kernel
theorem cpW_un : cpW imS imD := by unfold cpW; decide +kernel
theorem cp1 {D S c : Nat → Nat} {I0 I1 : Nat → Nat → Int32} (hW : cpW D S) (h : cpS D S c I0 I1) (j : Nat) (hj : j < 12) {i : Nat} (hc : c j = i) : cpS D S (upN c j (i + 1)) I0 (up2 I1 (D j) i (I1 (S j) i)) := by
  refine ⟨fun b hb k hk => ?_, fun q hq => ?_⟩
  · rw [up2_v]
    by_cases e : b = j
    · subst e
      rw [upN_at] at hk
      by_cases e2 : k = i
      · subst e2
        rw [if_pos ⟨rfl, rfl⟩, h.2 _ (fun z hz => hW.2.1 b hb z hz)]
      · rw [if_neg (fun z => e2 z.2)]
        exact h.1 b hb k (by omega)
    · rw [upN_ne _ _ e] at hk
      rw [if_neg (fun z => e (hW.1 b hb j hj z.1))]
      exact h.1 b hb k hk
  · rw [up2_ne _ _ _ (hq j hj)]
    exact h.2 q hq
theorem cp_le {D S c c' : Nat → Nat} {I0 I1 : Nat → Nat → Int32} (h : cpS D S c I0 I1) (hc : ∀ j, j < 12 → c' j ≤ c j) : cpS D S c' I0 I1 := ⟨fun j hj k hk => h.1 j hj k (Nat.lt_of_lt_of_le hk (hc j hj)), h.2⟩
theorem j12 {j : Nat} (h : j < 12) : j = 0 ∨ j = 1 ∨ j = 2 ∨ j = 3 ∨ j = 4 ∨ j = 5 ∨ j = 6 ∨ j = 7 ∨ j = 8 ∨ j = 9 ∨ j = 10 ∨ j = 11 := by omega
theorem imC_0 (j : Nat) (h : j < 12) : imC 0 0 j = 0 := by rcases j12 h with rfl | rfl | rfl | rfl | rfl | rfl | rfl | rfl | rfl | rfl | rfl | rfl <;> rfl
theorem imC_5 (j : Nat) (h : j < 12) : imC 5 0 j = imL j := by rcases j12 h with rfl | rfl | rfl | rfl | rfl | rfl | rfl | rfl | rfl | rfl | rfl | rfl <;> rfl
theorem imC_s0 (i j : Nat) (hj : j < 12) : imC 0 (i + 1) j ≤ (upN (upN (upN (upN (imC 0 i) 0 (i + 1)) 1 (i + 1)) 2 (i + 1)) 3 (i + 1)) j := by
  rcases j12 hj with rfl | rfl | rfl | rfl | rfl | rfl | rfl | rfl | rfl | rfl | rfl | rfl <;> first | exact Nat.le_refl _ | exact Nat.zero_le _
theorem imC_n0 (j : Nat) (hj : j < 12) : imC 1 0 j ≤ imC 0 6 j := by
  rcases j12 hj with rfl | rfl | rfl | rfl | rfl | rfl | rfl | rfl | rfl | rfl | rfl | rfl <;> exact Nat.le_of_ble_eq_true rfl
theorem imC_s1 (i j : Nat) (hj : j < 12) : imC 1 (i + 1) j ≤ (upN (imC 1 i) 4 (i + 1)) j := by
  rcases j12 hj with rfl | rfl | rfl | rfl | rfl | rfl | rfl | rfl | rfl | rfl | rfl | rfl <;> first | exact Nat.le_refl _ | exact Nat.zero_le _
theorem imC_n1 (j : Nat) (hj : j < 12) : imC 2 0 j ≤ imC 1 24 j := by
  rcases j12 hj with rfl | rfl | rfl | rfl | rfl | rfl | rfl | rfl | rfl | rfl | rfl | rfl <;> exact Nat.le_of_ble_eq_true rfl
theorem imC_s2 (i j : Nat) (hj : j < 12) : imC 2 (i + 1) j ≤ (upN (upN (upN (imC 2 i) 5 (i + 1)) 6 (i + 1)) 7 (i + 1)) j := by
  rcases j12 hj with rfl | rfl | rfl | rfl | rfl | rfl | rfl | rfl | rfl | rfl | rfl | rfl <;> first | exact Nat.le_refl _ | exact Nat.zero_le _
theorem imC_n2 (j : Nat) (hj : j < 12) : imC 3 0 j ≤ imC 2 5 j := by
  rcases j12 hj with rfl | rfl | rfl | rfl | rfl | rfl | rfl | rfl | rfl | rfl | rfl | rfl <;> exact Nat.le_of_ble_eq_true rfl
theorem imC_s3 (i j : Nat) (hj : j < 12) : imC 3 (i + 1) j ≤ (upN (upN (imC 3 i) 8 (i + 1)) 9 (i + 1)) j := by
  rcases j12 hj with rfl | rfl | rfl | rfl | rfl | rfl | rfl | rfl | rfl | rfl | rfl | rfl <;> first | exact Nat.le_refl _ | exact Nat.zero_le _
theorem imC_n3 (j : Nat) (hj : j < 12) : imC 4 0 j ≤ imC 3 10 j := by
  rcases j12 hj with rfl | rfl | rfl | rfl | rfl | rfl | rfl | rfl | rfl | rfl | rfl | rfl <;> exact Nat.le_of_ble_eq_true rfl
theorem imC_s4 (i j : Nat) (hj : j < 12) : imC 4 (i + 1) j ≤ (upN (upN (imC 4 i) 10 (i + 1)) 11 (i + 1)) j := by
  rcases j12 hj with rfl | rfl | rfl | rfl | rfl | rfl | rfl | rfl | rfl | rfl | rfl | rfl <;> first | exact Nat.le_refl _ | exact Nat.zero_le _
theorem imC_n4 (j : Nat) (hj : j < 12) : imC 5 0 j ≤ imC 4 8 j := by
  rcases j12 hj with rfl | rfl | rfl | rfl | rfl | rfl | rfl | rfl | rfl | rfl | rfl | rfl <;> exact Nat.le_of_ble_eq_true rfl
theorem frX_cp {D S c : Nat → Nat} {Ps Fs : List Nat} {I I0 I1 : Nat → Nat → Int32} (h : cpS D S c I0 I1) (hW : cpW D S) (hD : ∀ j, j < 12 → D j ∈ Ps) (h0 : frX Ps Fs I I0) : frX Ps Fs I I1 := by
  refine ⟨fun q hq h1 => ?_, fun k hk => ?_⟩
  · rw [h.2 q (fun j hj z => hq (by rw [z]; exact hD j hj))]
    exact h0.1 q hq h1
  · rw [h.2 100 (fun j hj z => hW.2.2 j hj z.symm)]
    exact h0.2 k hk
theorem hS100 : ∀ j, j < 12 → imS j ≠ 100 := by decide +kernel
set_option maxHeartbeats 4000000 in
set_option maxRecDepth 8000 in
theorem c_M_image (E : zE) (K N : Nat → Nat) (Rf : Nat → Nat → Option Nat) (I : Nat → Nat → Int32) (L : Nat → Nat → Int64) : zCt E mX12_image 0 0 0 (sg K N Rf I L) [.ref 100] (fun r σ' => ∃ I', σ' = sg K N Rf I' L ∧ r = some (.int (I 100 0)) ∧ (∀ j, j < 12 → ∀ k, k < imL j → I' (imD j) k = I (imS j) k) ∧ (∀ j, j < 7 → I' 100 (45 + j) = I 100 (imF j)) ∧ I' 100 44 = nI 1 ∧ frX [153, 154, 155, 156, 157, 158, 159, 160, 161, 162, 163, 164] [44, 45, 46, 47, 48, 49, 50, 51] I I') := by
  refine z_intro (by decide) (Nat.le_of_ble_eq_true rfl) (fun X hX => ?_)
  have hl : ∀ I0 : Nat → Nat → Int32, (∀ k, k < 44 → I0 100 k = I 100 k) → (∀ q, q ≠ 100 → I0 q = I q) → (∀ j, j < 7 → I0 100 (45 + j) = I 100 (imF j)) → I0 100 44 = nI 1 → frX [153, 154, 155, 156, 157, 158, 159, 160, 161, 162, 163, 164] [44, 45, 46, 47, 48, 49, 50, 51] I I0 → zS X (sg K N Rf I0 L) 0 0 63 [(0, .ref 100), (1, .int (nI 0))] [] := by
    intro I0 hI0 hI1 hI2 hI3 hI4
    have hl4 : ∀ m i (I1 : Nat → Nat → Int32), i + m = 8 → cpS imD imS (imC 4 i) I0 I1 → zS X (sg K N Rf I1 L) 0 0 238 [(0, .ref 100), (1, .int (nI i))] [] := by
      intro m
      induction m with
      | zero =>
        intro i I1 hi h1
        obtain rfl : i = 8 := by omega
        refine bk hX lkX12_ok (pc' := 241) [.iload_n 1, .bipush 8] (by decide +kernel) (And.intro trivial ?_)
        refine ic_ge hX (33) 274 (by decide +kernel) (by decide) (fun c_241 => ?_) (fun c => absurd (by decide) c)
        refine bk hX lkX12_ok (pc' := 278) [.aload_n 0, .getfield 7] (by decide +kernel) (And.intro trivial ?_)
        exact z_iret hX (by decide +kernel) rfl (rfl) (by decide) (by decide) (by
    have h2 : cpS imD imS imL I0 I1 := cp_le h1 (fun j hj => by rw [← imC_5 j hj]; exact imC_n4 j hj)
    have e100 : I1 100 = I0 100 := h2.2 100 (fun j hj z => cpW_im.2.2 j hj z.symm)
    refine ⟨I1, rfl, by rw [e100, hI0 0 (by decide)], fun j hj k hk => by rw [h2.1 j hj k hk, hI1 _ (hS100 j hj)], fun j hj => by rw [e100]; exact hI2 j hj, by rw [e100]; exact hI3, frX_cp h2 cpW_im (by decide +kernel) hI4⟩)
      | succ m ih =>
        intro i I1 hi h1
        have ci : (nI i).toNatClampNeg = i := cl (by omega)
        refine bk hX lkX12_ok (pc' := 241) [.iload_n 1, .bipush 8] (by decide +kernel) (And.intro trivial ?_)
        refine ic_ge hX (33) 274 (by decide +kernel) (by decide) (fun c => absurd c (nI_ge (a := i) (b := 8) (by omega) (by decide))) (fun c_241 => ?_)
        refine bk hX lkX12_ok (pc' := 271) [.aload_n 0, .getfield 199, .iload_n 1, .aload_n 0, .getfield 138, .iload_n 1, .iaload, .iastore, .aload_n 0, .getfield 202, .iload_n 1, .aload_n 0, .getfield 141, .iload_n 1, .iaload, .iastore, .iinc 1 1] (by decide +kernel) (And.intro (by exact vin 8 (by omega)) (And.intro (by exact vin 8 (by omega)) (And.intro (by exact vin 8 (by omega)) (And.intro (by exact vin 8 (by omega)) (And.intro trivial ?_)))))
        refine gt_ hX (-33) 238 (by decide +kernel) (by decide) ?_
        refine z_lvk (lv' := [(0, _), (1, _)]) [1, 0] rfl ?_
        rw [nI_add, ci]
        exact ih (i + 1) _ (by omega) (cp_le (cp1 cpW_im (cp1 cpW_im h1 10 (by decide) (i := i) rfl) 11 (by decide) (i := i) rfl) (imC_s4 i))
    have hl3 : ∀ m i (I1 : Nat → Nat → Int32), i + m = 10 → cpS imD imS (imC 3 i) I0 I1 → zS X (sg K N Rf I1 L) 0 0 200 [(0, .ref 100), (1, .int (nI i))] [] := by
      intro m
      induction m with
      | zero =>
        intro i I1 hi h1
        obtain rfl : i = 10 := by omega
        refine bk hX lkX12_ok (pc' := 203) [.iload_n 1, .bipush 10] (by decide +kernel) (And.intro trivial ?_)
        refine ic_ge hX (33) 236 (by decide +kernel) (by decide) (fun c_203 => ?_) (fun c => absurd (by decide) c)
        refine bk hX lkX12_ok (pc' := 238) [.iconst 0, .istore_n 1] (by decide +kernel) (And.intro trivial ?_)
        refine z_lvk (lv' := [(0, _), (1, _)]) [1, 0] rfl ?_
        exact hl4 8 0 I1 (by omega) (cp_le h1 imC_n3)
      | succ m ih =>
        intro i I1 hi h1
        have ci : (nI i).toNatClampNeg = i := cl (by omega)
        refine bk hX lkX12_ok (pc' := 203) [.iload_n 1, .bipush 10] (by decide +kernel) (And.intro trivial ?_)
        refine ic_ge hX (33) 236 (by decide +kernel) (by decide) (fun c => absurd c (nI_ge (a := i) (b := 10) (by omega) (by decide))) (fun c_203 => ?_)
        refine bk hX lkX12_ok (pc' := 233) [.aload_n 0, .getfield 193, .iload_n 1, .aload_n 0, .getfield 132, .iload_n 1, .iaload, .iastore, .aload_n 0, .getfield 196, .iload_n 1, .aload_n 0, .getfield 135, .iload_n 1, .iaload, .iastore, .iinc 1 1] (by decide +kernel) (And.intro (by exact vin 10 (by omega)) (And.intro (by exact vin 10 (by omega)) (And.intro (by exact vin 10 (by omega)) (And.intro (by exact vin 10 (by omega)) (And.intro trivial ?_)))))
        refine gt_ hX (-33) 200 (by decide +kernel) (by decide) ?_
        refine z_lvk (lv' := [(0, _), (1, _)]) [1, 0] rfl ?_
        rw [nI_add, ci]
        exact ih (i + 1) _ (by omega) (cp_le (cp1 cpW_im (cp1 cpW_im h1 8 (by decide) (i := i) rfl) 9 (by decide) (i := i) rfl) (imC_s3 i))
    have hl2 : ∀ m i (I1 : Nat → Nat → Int32), i + m = 5 → cpS imD imS (imC 2 i) I0 I1 → zS X (sg K N Rf I1 L) 0 0 151 [(0, .ref 100), (1, .int (nI i))] [] := by
      intro m
      induction m with
      | zero =>
        intro i I1 hi h1
        obtain rfl : i = 5 := by omega
        refine bk hX lkX12_ok (pc' := 153) [.iload_n 1, .iconst 5] (by decide +kernel) (And.intro trivial ?_)
        refine ic_ge hX (45) 198 (by decide +kernel) (by decide) (fun c_153 => ?_) (fun c => absurd (by decide) c)
        refine bk hX lkX12_ok (pc' := 200) [.iconst 0, .istore_n 1] (by decide +kernel) (And.intro trivial ?_)
        refine z_lvk (lv' := [(0, _), (1, _)]) [1, 0] rfl ?_
        exact hl3 10 0 I1 (by omega) (cp_le h1 imC_n2)
      | succ m ih =>
        intro i I1 hi h1
        have ci : (nI i).toNatClampNeg = i := cl (by omega)
        refine bk hX lkX12_ok (pc' := 153) [.iload_n 1, .iconst 5] (by decide +kernel) (And.intro trivial ?_)
        refine ic_ge hX (45) 198 (by decide +kernel) (by decide) (fun c => absurd c (nI_ge (a := i) (b := 5) (by omega) (by decide))) (fun c_153 => ?_)
        refine bk hX lkX12_ok (pc' := 195) [.aload_n 0, .getfield 184, .iload_n 1, .aload_n 0, .getfield 117, .iload_n 1, .iaload, .iastore, .aload_n 0, .getfield 187, .iload_n 1, .aload_n 0, .getfield 120, .iload_n 1, .iaload, .iastore, .aload_n 0, .getfield 190, .iload_n 1, .aload_n 0, .getfield 123, .iload_n 1, .iaload, .iastore, .iinc 1 1] (by decide +kernel) (And.intro (by exact vin 5 (by omega)) (And.intro (by exact vin 5 (by omega)) (And.intro (by exact vin 5 (by omega)) (And.intro (by exact vin 5 (by omega)) (And.intro (by exact vin 5 (by omega)) (And.intro (by exact vin 5 (by omega)) (And.intro trivial ?_)))))))
        refine gt_ hX (-44) 151 (by decide +kernel) (by decide) ?_
        refine z_lvk (lv' := [(0, _), (1, _)]) [1, 0] rfl ?_
        rw [nI_add, ci]
        exact ih (i + 1) _ (by omega) (cp_le (cp1 cpW_im (cp1 cpW_im (cp1 cpW_im h1 5 (by decide) (i := i) rfl) 6 (by decide) (i := i) rfl) 7 (by decide) (i := i) rfl) (imC_s2 i))
    have hl1 : ∀ m i (I1 : Nat → Nat → Int32), i + m = 24 → cpS imD imS (imC 1 i) I0 I1 → zS X (sg K N Rf I1 L) 0 0 125 [(0, .ref 100), (1, .int (nI i))] [] := by
      intro m
      induction m with
      | zero =>
        intro i I1 hi h1
        obtain rfl : i = 24 := by omega
        refine bk hX lkX12_ok (pc' := 128) [.iload_n 1, .bipush 24] (by decide +kernel) (And.intro trivial ?_)
        refine ic_ge hX (21) 149 (by decide +kernel) (by decide) (fun c_128 => ?_) (fun c => absurd (by decide) c)
        refine bk hX lkX12_ok (pc' := 151) [.iconst 0, .istore_n 1] (by decide +kernel) (And.intro trivial ?_)
        refine z_lvk (lv' := [(0, _), (1, _)]) [1, 0] rfl ?_
        exact hl2 5 0 I1 (by omega) (cp_le h1 imC_n1)
      | succ m ih =>
        intro i I1 hi h1
        have ci : (nI i).toNatClampNeg = i := cl (by omega)
        refine bk hX lkX12_ok (pc' := 128) [.iload_n 1, .bipush 24] (by decide +kernel) (And.intro trivial ?_)
        refine ic_ge hX (21) 149 (by decide +kernel) (by decide) (fun c => absurd c (nI_ge (a := i) (b := 24) (by omega) (by decide))) (fun c_128 => ?_)
        refine bk hX lkX12_ok (pc' := 146) [.aload_n 0, .getfield 181, .iload_n 1, .aload_n 0, .getfield 32, .iload_n 1, .iaload, .iastore, .iinc 1 1] (by decide +kernel) (And.intro (by exact vin 24 (by omega)) (And.intro (by exact vin 24 (by omega)) (And.intro trivial ?_)))
        refine gt_ hX (-21) 125 (by decide +kernel) (by decide) ?_
        refine z_lvk (lv' := [(0, _), (1, _)]) [1, 0] rfl ?_
        rw [nI_add, ci]
        exact ih (i + 1) _ (by omega) (cp_le (cp1 cpW_im h1 4 (by decide) (i := i) rfl) (imC_s1 i))
    have hl0 : ∀ m i (I1 : Nat → Nat → Int32), i + m = 6 → cpS imD imS (imC 0 i) I0 I1 → zS X (sg K N Rf I1 L) 0 0 63 [(0, .ref 100), (1, .int (nI i))] [] := by
      intro m
      induction m with
      | zero =>
        intro i I1 hi h1
        obtain rfl : i = 6 := by omega
        refine bk hX lkX12_ok (pc' := 66) [.iload_n 1, .bipush 6] (by decide +kernel) (And.intro trivial ?_)
        refine ic_ge hX (57) 123 (by decide +kernel) (by decide) (fun c_66 => ?_) (fun c => absurd (by decide) c)
        refine bk hX lkX12_ok (pc' := 125) [.iconst 0, .istore_n 1] (by decide +kernel) (And.intro trivial ?_)
        refine z_lvk (lv' := [(0, _), (1, _)]) [1, 0] rfl ?_
        exact hl1 24 0 I1 (by omega) (cp_le h1 imC_n0)
      | succ m ih =>
        intro i I1 hi h1
        have ci : (nI i).toNatClampNeg = i := cl (by omega)
        refine bk hX lkX12_ok (pc' := 66) [.iload_n 1, .bipush 6] (by decide +kernel) (And.intro trivial ?_)
        refine ic_ge hX (57) 123 (by decide +kernel) (by decide) (fun c => absurd c (nI_ge (a := i) (b := 6) (by omega) (by decide))) (fun c_66 => ?_)
        refine bk hX lkX12_ok (pc' := 111) [.aload_n 0, .getfield 169, .iload_n 1, .aload_n 0, .getfield 19, .iload_n 1, .iaload, .iastore, .aload_n 0, .getfield 172, .iload_n 1, .aload_n 0, .getfield 23, .iload_n 1, .iaload, .iastore, .aload_n 0, .getfield 175, .iload_n 1, .aload_n 0, .getfield 26, .iload_n 1, .iaload, .iastore, .aload_n 0, .getfield 178, .iload_n 1, .aload_n 0] (by decide +kernel) (And.intro (by exact vin 6 (by omega)) (And.intro (by exact vin 6 (by omega)) (And.intro (by exact vin 6 (by omega)) (And.intro (by exact vin 6 (by omega)) (And.intro (by exact vin 6 (by omega)) (And.intro (by exact vin 6 (by omega)) (And.intro trivial ?_)))))))
        refine bk hX lkX12_ok (pc' := 120) [.getfield 29, .iload_n 1, .iaload, .iastore, .iinc 1 1] (by decide +kernel) (And.intro (by exact vin 6 (by omega)) (And.intro (by exact vin 6 (by omega)) (And.intro trivial ?_)))
        refine gt_ hX (-57) 63 (by decide +kernel) (by decide) ?_
        refine z_lvk (lv' := [(0, _), (1, _)]) [1, 0] rfl ?_
        rw [nI_add, ci]
        exact ih (i + 1) _ (by omega) (cp_le (cp1 cpW_im (cp1 cpW_im (cp1 cpW_im (cp1 cpW_im h1 0 (by decide) (i := i) rfl) 1 (by decide) (i := i) rfl) 2 (by decide) (i := i) rfl) 3 (by decide) (i := i) rfl) (imC_s0 i))
    exact hl0 6 0 I0 (by omega) ⟨fun j hj k hk => by rw [imC_0 j hj] at hk; exact absurd hk (Nat.not_lt_zero _), fun _ _ => rfl⟩
  refine bk hX lkX12_ok (pc' := 54) [.aload_n 0, .iconst 1, .putfield 144, .aload_n 0, .aload_n 0, .getfield 38, .putfield 148, .aload_n 0, .aload_n 0, .getfield 7, .putfield 151, .aload_n 0, .aload_n 0, .getfield 13, .putfield 154, .aload_n 0, .aload_n 0, .getfield 16, .putfield 157, .aload_n 0, .aload_n 0, .getfield 114, .putfield 160, .aload_n 0, .aload_n 0, .getfield 126, .putfield 163, .aload_n 0] (by decide +kernel) (And.intro (by decide) (And.intro trivial ?_))
  refine bk hX lkX12_ok (pc' := 63) [.aload_n 0, .getfield 129, .putfield 166, .iconst 0, .istore_n 1] (by decide +kernel) (And.intro trivial ?_)
  refine z_lvk (lv' := [(0, _), (1, _)]) [1, 0] rfl ?_
  refine hl _ (fun k hk => ?_) (fun q hq => ?_) (fun j hj => ?_) ?_ ?_
  · simp only [up2_v]
    repeat rw [if_neg (by omega)]
  · funext k
    simp only [up2_v]
    repeat rw [if_neg (by omega)]
  · have h7 : j = 0 ∨ j = 1 ∨ j = 2 ∨ j = 3 ∨ j = 4 ∨ j = 5 ∨ j = 6 := by omega
    rcases h7 with rfl | rfl | rfl | rfl | rfl | rfl | rfl <;> rfl
  · rfl
  · exact frX_tr (frX_tr (frX_tr (frX_tr (frX_tr (frX_tr (frX_tr (frX_f (by decide)) (frX_f (by decide))) (frX_f (by decide))) (frX_f (by decide))) (frX_f (by decide))) (frX_f (by decide))) (frX_f (by decide))) (frX_f (by decide))
theorem hD100 : ∀ j, j < 12 → imD j ≠ 100 := by decide +kernel
set_option maxHeartbeats 4000000 in
set_option maxRecDepth 8000 in
theorem c_M_undo (E : zE) (K N : Nat → Nat) (Rf : Nat → Nat → Option Nat) (I : Nat → Nat → Int32) (L : Nat → Nat → Int64) : zCt E mX12_undo 0 0 0 (sg K N Rf I L) [.ref 100] (fun r σ' => ∃ I', σ' = sg K N Rf I' L ∧ ((I 100 44 = 0 ∧ r = some (.int (-nI 3)) ∧ I' = I) ∨ (¬ I 100 44 = 0 ∧ r = some (.int (I 100 46)) ∧ (∀ j, j < 12 → ∀ k, k < imL j → I' (imS j) k = I (imD j) k) ∧ (∀ j, j < 7 → I' 100 (imF j) = I 100 (45 + j)) ∧ frX [104, 105, 106, 107, 108, 136, 137, 138, 141, 142, 143, 144] [9, 0, 1, 2, 34, 38, 39] I I'))) := by
  refine z_intro (by decide) (Nat.le_of_ble_eq_true rfl) (fun X hX => ?_)
  have hl : ¬ I 100 44 = 0 → ∀ I0 : Nat → Nat → Int32, (∀ q, q ≠ 100 → I0 q = I q) → (∀ j, j < 7 → I0 100 (imF j) = I 100 (45 + j)) → frX [104, 105, 106, 107, 108, 136, 137, 138, 141, 142, 143, 144] [9, 0, 1, 2, 34, 38, 39] I I0 → zS X (sg K N Rf I0 L) 0 0 68 [(0, .ref 100), (1, .int (nI 0))] [] := by
    intro hne I0 hI1 hI2 hI4
    have hl4 : ∀ m i (I1 : Nat → Nat → Int32), i + m = 8 → cpS imS imD (imC 4 i) I0 I1 → zS X (sg K N Rf I1 L) 0 0 243 [(0, .ref 100), (1, .int (nI i))] [] := by
      intro m
      induction m with
      | zero =>
        intro i I1 hi h1
        obtain rfl : i = 8 := by omega
        refine bk hX lkX12_ok (pc' := 246) [.iload_n 1, .bipush 8] (by decide +kernel) (And.intro trivial ?_)
        refine ic_ge hX (33) 279 (by decide +kernel) (by decide) (fun c_246 => ?_) (fun c => absurd (by decide) c)
        refine bk hX lkX12_ok (pc' := 283) [.aload_n 0, .getfield 7] (by decide +kernel) (And.intro trivial ?_)
        exact z_iret hX (by decide +kernel) rfl (rfl) (by decide) (by decide) (by
    have h2 : cpS imS imD imL I0 I1 := cp_le h1 (fun j hj => by rw [← imC_5 j hj]; exact imC_n4 j hj)
    have e100 : I1 100 = I0 100 := h2.2 100 (fun j hj z => cpW_un.2.2 j hj z.symm)
    refine ⟨I1, rfl, Or.inr ⟨hne, by rw [e100]; exact congrArg (fun z => some (Value.int z)) (hI2 1 (by decide)), fun j hj k hk => by rw [h2.1 j hj k hk, hI1 _ (hD100 j hj)], fun j hj => by rw [e100]; exact hI2 j hj, frX_cp h2 cpW_un (by decide +kernel) hI4⟩⟩)
      | succ m ih =>
        intro i I1 hi h1
        have ci : (nI i).toNatClampNeg = i := cl (by omega)
        refine bk hX lkX12_ok (pc' := 246) [.iload_n 1, .bipush 8] (by decide +kernel) (And.intro trivial ?_)
        refine ic_ge hX (33) 279 (by decide +kernel) (by decide) (fun c => absurd c (nI_ge (a := i) (b := 8) (by omega) (by decide))) (fun c_246 => ?_)
        refine bk hX lkX12_ok (pc' := 276) [.aload_n 0, .getfield 138, .iload_n 1, .aload_n 0, .getfield 199, .iload_n 1, .iaload, .iastore, .aload_n 0, .getfield 141, .iload_n 1, .aload_n 0, .getfield 202, .iload_n 1, .iaload, .iastore, .iinc 1 1] (by decide +kernel) (And.intro (by exact vin 8 (by omega)) (And.intro (by exact vin 8 (by omega)) (And.intro (by exact vin 8 (by omega)) (And.intro (by exact vin 8 (by omega)) (And.intro trivial ?_)))))
        refine gt_ hX (-33) 243 (by decide +kernel) (by decide) ?_
        refine z_lvk (lv' := [(0, _), (1, _)]) [1, 0] rfl ?_
        rw [nI_add, ci]
        exact ih (i + 1) _ (by omega) (cp_le (cp1 cpW_un (cp1 cpW_un h1 10 (by decide) (i := i) rfl) 11 (by decide) (i := i) rfl) (imC_s4 i))
    have hl3 : ∀ m i (I1 : Nat → Nat → Int32), i + m = 10 → cpS imS imD (imC 3 i) I0 I1 → zS X (sg K N Rf I1 L) 0 0 205 [(0, .ref 100), (1, .int (nI i))] [] := by
      intro m
      induction m with
      | zero =>
        intro i I1 hi h1
        obtain rfl : i = 10 := by omega
        refine bk hX lkX12_ok (pc' := 208) [.iload_n 1, .bipush 10] (by decide +kernel) (And.intro trivial ?_)
        refine ic_ge hX (33) 241 (by decide +kernel) (by decide) (fun c_208 => ?_) (fun c => absurd (by decide) c)
        refine bk hX lkX12_ok (pc' := 243) [.iconst 0, .istore_n 1] (by decide +kernel) (And.intro trivial ?_)
        refine z_lvk (lv' := [(0, _), (1, _)]) [1, 0] rfl ?_
        exact hl4 8 0 I1 (by omega) (cp_le h1 imC_n3)
      | succ m ih =>
        intro i I1 hi h1
        have ci : (nI i).toNatClampNeg = i := cl (by omega)
        refine bk hX lkX12_ok (pc' := 208) [.iload_n 1, .bipush 10] (by decide +kernel) (And.intro trivial ?_)
        refine ic_ge hX (33) 241 (by decide +kernel) (by decide) (fun c => absurd c (nI_ge (a := i) (b := 10) (by omega) (by decide))) (fun c_208 => ?_)
        refine bk hX lkX12_ok (pc' := 238) [.aload_n 0, .getfield 132, .iload_n 1, .aload_n 0, .getfield 193, .iload_n 1, .iaload, .iastore, .aload_n 0, .getfield 135, .iload_n 1, .aload_n 0, .getfield 196, .iload_n 1, .iaload, .iastore, .iinc 1 1] (by decide +kernel) (And.intro (by exact vin 10 (by omega)) (And.intro (by exact vin 10 (by omega)) (And.intro (by exact vin 10 (by omega)) (And.intro (by exact vin 10 (by omega)) (And.intro trivial ?_)))))
        refine gt_ hX (-33) 205 (by decide +kernel) (by decide) ?_
        refine z_lvk (lv' := [(0, _), (1, _)]) [1, 0] rfl ?_
        rw [nI_add, ci]
        exact ih (i + 1) _ (by omega) (cp_le (cp1 cpW_un (cp1 cpW_un h1 8 (by decide) (i := i) rfl) 9 (by decide) (i := i) rfl) (imC_s3 i))
    have hl2 : ∀ m i (I1 : Nat → Nat → Int32), i + m = 5 → cpS imS imD (imC 2 i) I0 I1 → zS X (sg K N Rf I1 L) 0 0 156 [(0, .ref 100), (1, .int (nI i))] [] := by
      intro m
      induction m with
      | zero =>
        intro i I1 hi h1
        obtain rfl : i = 5 := by omega
        refine bk hX lkX12_ok (pc' := 158) [.iload_n 1, .iconst 5] (by decide +kernel) (And.intro trivial ?_)
        refine ic_ge hX (45) 203 (by decide +kernel) (by decide) (fun c_158 => ?_) (fun c => absurd (by decide) c)
        refine bk hX lkX12_ok (pc' := 205) [.iconst 0, .istore_n 1] (by decide +kernel) (And.intro trivial ?_)
        refine z_lvk (lv' := [(0, _), (1, _)]) [1, 0] rfl ?_
        exact hl3 10 0 I1 (by omega) (cp_le h1 imC_n2)
      | succ m ih =>
        intro i I1 hi h1
        have ci : (nI i).toNatClampNeg = i := cl (by omega)
        refine bk hX lkX12_ok (pc' := 158) [.iload_n 1, .iconst 5] (by decide +kernel) (And.intro trivial ?_)
        refine ic_ge hX (45) 203 (by decide +kernel) (by decide) (fun c => absurd c (nI_ge (a := i) (b := 5) (by omega) (by decide))) (fun c_158 => ?_)
        refine bk hX lkX12_ok (pc' := 200) [.aload_n 0, .getfield 117, .iload_n 1, .aload_n 0, .getfield 184, .iload_n 1, .iaload, .iastore, .aload_n 0, .getfield 120, .iload_n 1, .aload_n 0, .getfield 187, .iload_n 1, .iaload, .iastore, .aload_n 0, .getfield 123, .iload_n 1, .aload_n 0, .getfield 190, .iload_n 1, .iaload, .iastore, .iinc 1 1] (by decide +kernel) (And.intro (by exact vin 5 (by omega)) (And.intro (by exact vin 5 (by omega)) (And.intro (by exact vin 5 (by omega)) (And.intro (by exact vin 5 (by omega)) (And.intro (by exact vin 5 (by omega)) (And.intro (by exact vin 5 (by omega)) (And.intro trivial ?_)))))))
        refine gt_ hX (-44) 156 (by decide +kernel) (by decide) ?_
        refine z_lvk (lv' := [(0, _), (1, _)]) [1, 0] rfl ?_
        rw [nI_add, ci]
        exact ih (i + 1) _ (by omega) (cp_le (cp1 cpW_un (cp1 cpW_un (cp1 cpW_un h1 5 (by decide) (i := i) rfl) 6 (by decide) (i := i) rfl) 7 (by decide) (i := i) rfl) (imC_s2 i))
    have hl1 : ∀ m i (I1 : Nat → Nat → Int32), i + m = 24 → cpS imS imD (imC 1 i) I0 I1 → zS X (sg K N Rf I1 L) 0 0 130 [(0, .ref 100), (1, .int (nI i))] [] := by
      intro m
      induction m with
      | zero =>
        intro i I1 hi h1
        obtain rfl : i = 24 := by omega
        refine bk hX lkX12_ok (pc' := 133) [.iload_n 1, .bipush 24] (by decide +kernel) (And.intro trivial ?_)
        refine ic_ge hX (21) 154 (by decide +kernel) (by decide) (fun c_133 => ?_) (fun c => absurd (by decide) c)
        refine bk hX lkX12_ok (pc' := 156) [.iconst 0, .istore_n 1] (by decide +kernel) (And.intro trivial ?_)
        refine z_lvk (lv' := [(0, _), (1, _)]) [1, 0] rfl ?_
        exact hl2 5 0 I1 (by omega) (cp_le h1 imC_n1)
      | succ m ih =>
        intro i I1 hi h1
        have ci : (nI i).toNatClampNeg = i := cl (by omega)
        refine bk hX lkX12_ok (pc' := 133) [.iload_n 1, .bipush 24] (by decide +kernel) (And.intro trivial ?_)
        refine ic_ge hX (21) 154 (by decide +kernel) (by decide) (fun c => absurd c (nI_ge (a := i) (b := 24) (by omega) (by decide))) (fun c_133 => ?_)
        refine bk hX lkX12_ok (pc' := 151) [.aload_n 0, .getfield 32, .iload_n 1, .aload_n 0, .getfield 181, .iload_n 1, .iaload, .iastore, .iinc 1 1] (by decide +kernel) (And.intro (by exact vin 24 (by omega)) (And.intro (by exact vin 24 (by omega)) (And.intro trivial ?_)))
        refine gt_ hX (-21) 130 (by decide +kernel) (by decide) ?_
        refine z_lvk (lv' := [(0, _), (1, _)]) [1, 0] rfl ?_
        rw [nI_add, ci]
        exact ih (i + 1) _ (by omega) (cp_le (cp1 cpW_un h1 4 (by decide) (i := i) rfl) (imC_s1 i))
    have hl0 : ∀ m i (I1 : Nat → Nat → Int32), i + m = 6 → cpS imS imD (imC 0 i) I0 I1 → zS X (sg K N Rf I1 L) 0 0 68 [(0, .ref 100), (1, .int (nI i))] [] := by
      intro m
      induction m with
      | zero =>
        intro i I1 hi h1
        obtain rfl : i = 6 := by omega
        refine bk hX lkX12_ok (pc' := 71) [.iload_n 1, .bipush 6] (by decide +kernel) (And.intro trivial ?_)
        refine ic_ge hX (57) 128 (by decide +kernel) (by decide) (fun c_71 => ?_) (fun c => absurd (by decide) c)
        refine bk hX lkX12_ok (pc' := 130) [.iconst 0, .istore_n 1] (by decide +kernel) (And.intro trivial ?_)
        refine z_lvk (lv' := [(0, _), (1, _)]) [1, 0] rfl ?_
        exact hl1 24 0 I1 (by omega) (cp_le h1 imC_n0)
      | succ m ih =>
        intro i I1 hi h1
        have ci : (nI i).toNatClampNeg = i := cl (by omega)
        refine bk hX lkX12_ok (pc' := 71) [.iload_n 1, .bipush 6] (by decide +kernel) (And.intro trivial ?_)
        refine ic_ge hX (57) 128 (by decide +kernel) (by decide) (fun c => absurd c (nI_ge (a := i) (b := 6) (by omega) (by decide))) (fun c_71 => ?_)
        refine bk hX lkX12_ok (pc' := 116) [.aload_n 0, .getfield 19, .iload_n 1, .aload_n 0, .getfield 169, .iload_n 1, .iaload, .iastore, .aload_n 0, .getfield 23, .iload_n 1, .aload_n 0, .getfield 172, .iload_n 1, .iaload, .iastore, .aload_n 0, .getfield 26, .iload_n 1, .aload_n 0, .getfield 175, .iload_n 1, .iaload, .iastore, .aload_n 0, .getfield 29, .iload_n 1, .aload_n 0] (by decide +kernel) (And.intro (by exact vin 6 (by omega)) (And.intro (by exact vin 6 (by omega)) (And.intro (by exact vin 6 (by omega)) (And.intro (by exact vin 6 (by omega)) (And.intro (by exact vin 6 (by omega)) (And.intro (by exact vin 6 (by omega)) (And.intro trivial ?_)))))))
        refine bk hX lkX12_ok (pc' := 125) [.getfield 178, .iload_n 1, .iaload, .iastore, .iinc 1 1] (by decide +kernel) (And.intro (by exact vin 6 (by omega)) (And.intro (by exact vin 6 (by omega)) (And.intro trivial ?_)))
        refine gt_ hX (-57) 68 (by decide +kernel) (by decide) ?_
        refine z_lvk (lv' := [(0, _), (1, _)]) [1, 0] rfl ?_
        rw [nI_add, ci]
        exact ih (i + 1) _ (by omega) (cp_le (cp1 cpW_un (cp1 cpW_un (cp1 cpW_un (cp1 cpW_un h1 0 (by decide) (i := i) rfl) 1 (by decide) (i := i) rfl) 2 (by decide) (i := i) rfl) 3 (by decide) (i := i) rfl) (imC_s0 i))
    exact hl0 6 0 I0 (by omega) ⟨fun j hj k hk => by rw [imC_0 j hj] at hk; exact absurd hk (Nat.not_lt_zero _), fun _ _ => rfl⟩
  refine bk hX lkX12_ok (pc' := 4) [.aload_n 0, .getfield 144] (by decide +kernel) (And.intro trivial ?_)
  refine if_ne hX (6) 10 (by decide +kernel) (by decide) (fun hne => ?_) (fun hne => ?_)
  · refine bk hX lkX12_ok (pc' := 66) [.aload_n 0, .aload_n 0, .getfield 148, .putfield 38, .aload_n 0, .aload_n 0, .getfield 151, .putfield 7, .aload_n 0, .aload_n 0, .getfield 154, .putfield 13, .aload_n 0, .aload_n 0, .getfield 157, .putfield 16, .aload_n 0, .aload_n 0, .getfield 160, .putfield 114, .aload_n 0, .aload_n 0, .getfield 163, .putfield 126, .aload_n 0, .aload_n 0, .getfield 166, .putfield 129] (by decide +kernel) (And.intro trivial ?_)
    refine bk hX lkX12_ok (pc' := 68) [.iconst 0, .istore_n 1] (by decide +kernel) (And.intro trivial ?_)
    refine z_lvk (lv' := [(0, _), (1, _)]) [1, 0] rfl ?_
    refine hl hne _ (fun q hq => ?_) (fun j hj => ?_) ?_
    · funext k
      simp only [up2_v]
      repeat rw [if_neg (by omega)]
    · have h7 : j = 0 ∨ j = 1 ∨ j = 2 ∨ j = 3 ∨ j = 4 ∨ j = 5 ∨ j = 6 := by omega
      rcases h7 with rfl | rfl | rfl | rfl | rfl | rfl | rfl <;> rfl
    · exact frX_tr (frX_tr (frX_tr (frX_tr (frX_tr (frX_tr (frX_f (by decide)) (frX_f (by decide))) (frX_f (by decide))) (frX_f (by decide))) (frX_f (by decide))) (frX_f (by decide))) (frX_f (by decide))
  · refine bk hX lkX12_ok (pc' := 9) [.bipush (Int.negSucc 2)] (by decide +kernel) (And.intro trivial ?_)
    exact z_iret hX (by decide +kernel) rfl (rfl) (by decide) (by decide) (⟨I, rfl, Or.inl ⟨hne, rfl, rfl⟩⟩)
