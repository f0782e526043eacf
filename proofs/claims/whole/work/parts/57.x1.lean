theorem isIn_f1 {x : Int32} {n : Nat} (h : x < 0) : ¬ isIn x n = true := by
  unfold isIn
  rw [decide_eq_true_iff]
  rw [Int32.lt_iff_toInt_lt] at h
  have : (0 : Int32).toInt = 0 := rfl
  omega
theorem isIn_gt {x : Int32} {n : Nat} (m : Nat) (h : nI m < x) (hn : n ≤ m + 1 := by decide) (hm : m < 2 ^ 31 := by decide) : ¬ isIn x n = true := by
  unfold isIn
  rw [decide_eq_true_iff]
  rw [Int32.lt_iff_toInt_lt, nI_toInt hm] at h
  omega
theorem isIn_ge {x : Int32} {n : Nat} (h : nI n ≤ x) (hm : n < 2 ^ 31 := by decide) : ¬ isIn x n = true := by
  unfold isIn
  rw [decide_eq_true_iff]
  rw [Int32.le_iff_toInt_le, nI_toInt hm] at h
  omega
theorem isIn_le {x : Int32} {n : Nat} (m : Nat) (h1 : ¬ x < 0) (h2 : ¬ nI m < x) (hn : m < n := by decide) (hm : m < 2 ^ 31 := by decide) : isIn x n = true := by
  unfold isIn
  rw [decide_eq_true_iff]
  rw [Int32.lt_iff_toInt_lt] at h1 h2
  rw [nI_toInt hm] at h2
  have : (0 : Int32).toInt = 0 := rfl
  omega
theorem isIn_lt {x : Int32} {n : Nat} (h1 : ¬ x < 0) (h2 : ¬ nI n ≤ x) (hm : n < 2 ^ 31 := by decide) : isIn x n = true := by
  unfold isIn
  rw [decide_eq_true_iff]
  rw [Int32.lt_iff_toInt_lt] at h1
  rw [Int32.le_iff_toInt_le, nI_toInt hm] at h2
  have : (0 : Int32).toInt = 0 := rfl
  omega
theorem isIn_ex {x : Int32} {n : Nat} (h : isIn x n = true) (hn : n ≤ 2 ^ 31 := by decide) : ∃ j, j < n ∧ x = nI j := (isIn_iff hn).mp h
theorem c_X_isKind (E : zE) (σ : Sg) (x : Int32) : zCt E mX11_isKind 0 0 0 σ [.int x] (fun r σ' => σ' = σ ∧ ((isIn x 7 = true ∧ r = some (.int 1)) ∨ (¬ (isIn x 7 = true) ∧ r = some (.int 0)))) := by
  refine z_intro (by decide) (Nat.le_of_ble_eq_true rfl) (fun X hX => ?_)
  refine bk hX lkX11_ok (pc' := 1) [.iload_n 0] (by decide +kernel) (And.intro trivial ?_)
  refine if_lt hX (13) 14 (by decide +kernel) (by decide) (fun c1 => ?_) (fun c1 => ?_)
  · refine bk hX lkX11_ok (pc' := 15) [.iconst 0] (by decide +kernel) (And.intro trivial ?_)
    exact z_iret hX (by decide +kernel) rfl (rfl) (by decide) (by decide) (by first | exact ⟨rfl, Or.inr ⟨isIn_f1 c1, rfl⟩⟩ | exact ⟨rfl, Or.inr ⟨isIn_gt 6 c2, rfl⟩⟩ | exact ⟨rfl, Or.inl ⟨isIn_le 6 c1 c2, rfl⟩⟩)
  · refine bk hX lkX11_ok (pc' := 7) [.iload_n 0, .bipush 6] (by decide +kernel) (And.intro trivial ?_)
    refine ic_gt hX (7) 14 (by decide +kernel) (by decide) (fun c2 => ?_) (fun c2 => ?_)
    · refine bk hX lkX11_ok (pc' := 15) [.iconst 0] (by decide +kernel) (And.intro trivial ?_)
      exact z_iret hX (by decide +kernel) rfl (rfl) (by decide) (by decide) (by first | exact ⟨rfl, Or.inr ⟨isIn_f1 c1, rfl⟩⟩ | exact ⟨rfl, Or.inr ⟨isIn_gt 6 c2, rfl⟩⟩ | exact ⟨rfl, Or.inl ⟨isIn_le 6 c1 c2, rfl⟩⟩)
    · refine bk hX lkX11_ok (pc' := 11) [.iconst 1] (by decide +kernel) (And.intro trivial ?_)
      refine gt_ hX (4) 15 (by decide +kernel) (by decide) ?_
      exact z_iret hX (by decide +kernel) rfl (rfl) (by decide) (by decide) (by first | exact ⟨rfl, Or.inr ⟨isIn_f1 c1, rfl⟩⟩ | exact ⟨rfl, Or.inr ⟨isIn_gt 6 c2, rfl⟩⟩ | exact ⟨rfl, Or.inl ⟨isIn_le 6 c1 c2, rfl⟩⟩)
theorem c_X_isDigit (E : zE) (σ : Sg) (x : Int32) : zCt E mX11_isDigit 0 0 0 σ [.int x] (fun r σ' => σ' = σ ∧ ((isIn x 10 = true ∧ r = some (.int 1)) ∨ (¬ (isIn x 10 = true) ∧ r = some (.int 0)))) := by
  refine z_intro (by decide) (Nat.le_of_ble_eq_true rfl) (fun X hX => ?_)
  refine bk hX lkX11_ok (pc' := 1) [.iload_n 0] (by decide +kernel) (And.intro trivial ?_)
  refine if_lt hX (13) 14 (by decide +kernel) (by decide) (fun c1 => ?_) (fun c1 => ?_)
  · refine bk hX lkX11_ok (pc' := 15) [.iconst 0] (by decide +kernel) (And.intro trivial ?_)
    exact z_iret hX (by decide +kernel) rfl (rfl) (by decide) (by decide) (by first | exact ⟨rfl, Or.inr ⟨isIn_f1 c1, rfl⟩⟩ | exact ⟨rfl, Or.inr ⟨isIn_gt 9 c2, rfl⟩⟩ | exact ⟨rfl, Or.inl ⟨isIn_le 9 c1 c2, rfl⟩⟩)
  · refine bk hX lkX11_ok (pc' := 7) [.iload_n 0, .bipush 9] (by decide +kernel) (And.intro trivial ?_)
    refine ic_gt hX (7) 14 (by decide +kernel) (by decide) (fun c2 => ?_) (fun c2 => ?_)
    · refine bk hX lkX11_ok (pc' := 15) [.iconst 0] (by decide +kernel) (And.intro trivial ?_)
      exact z_iret hX (by decide +kernel) rfl (rfl) (by decide) (by decide) (by first | exact ⟨rfl, Or.inr ⟨isIn_f1 c1, rfl⟩⟩ | exact ⟨rfl, Or.inr ⟨isIn_gt 9 c2, rfl⟩⟩ | exact ⟨rfl, Or.inl ⟨isIn_le 9 c1 c2, rfl⟩⟩)
    · refine bk hX lkX11_ok (pc' := 11) [.iconst 1] (by decide +kernel) (And.intro trivial ?_)
      refine gt_ hX (4) 15 (by decide +kernel) (by decide) ?_
      exact z_iret hX (by decide +kernel) rfl (rfl) (by decide) (by decide) (by first | exact ⟨rfl, Or.inr ⟨isIn_f1 c1, rfl⟩⟩ | exact ⟨rfl, Or.inr ⟨isIn_gt 9 c2, rfl⟩⟩ | exact ⟨rfl, Or.inl ⟨isIn_le 9 c1 c2, rfl⟩⟩)
theorem c_X_areHoles (E : zE) (σ : Sg) (x : Int32) : zCt E mX11_areHoles 0 0 0 σ [.int x] (fun r σ' => σ' = σ ∧ ((isIn x 1024 = true ∧ r = some (.int 1)) ∨ (¬ (isIn x 1024 = true) ∧ r = some (.int 0)))) := by
  refine z_intro (by decide) (Nat.le_of_ble_eq_true rfl) (fun X hX => ?_)
  refine bk hX lkX11_ok (pc' := 1) [.iload_n 0] (by decide +kernel) (And.intro trivial ?_)
  refine if_lt hX (14) 15 (by decide +kernel) (by decide) (fun c1 => ?_) (fun c1 => ?_)
  · refine bk hX lkX11_ok (pc' := 16) [.iconst 0] (by decide +kernel) (And.intro trivial ?_)
    exact z_iret hX (by decide +kernel) rfl (rfl) (by decide) (by decide) (by first | exact ⟨rfl, Or.inr ⟨isIn_f1 c1, rfl⟩⟩ | exact ⟨rfl, Or.inr ⟨isIn_gt 1023 c2, rfl⟩⟩ | exact ⟨rfl, Or.inl ⟨isIn_le 1023 c1 c2, rfl⟩⟩)
  · refine bk hX lkX11_ok (pc' := 8) [.iload_n 0, .sipush 1023] (by decide +kernel) (And.intro trivial ?_)
    refine ic_gt hX (7) 15 (by decide +kernel) (by decide) (fun c2 => ?_) (fun c2 => ?_)
    · refine bk hX lkX11_ok (pc' := 16) [.iconst 0] (by decide +kernel) (And.intro trivial ?_)
      exact z_iret hX (by decide +kernel) rfl (rfl) (by decide) (by decide) (by first | exact ⟨rfl, Or.inr ⟨isIn_f1 c1, rfl⟩⟩ | exact ⟨rfl, Or.inr ⟨isIn_gt 1023 c2, rfl⟩⟩ | exact ⟨rfl, Or.inl ⟨isIn_le 1023 c1 c2, rfl⟩⟩)
    · refine bk hX lkX11_ok (pc' := 12) [.iconst 1] (by decide +kernel) (And.intro trivial ?_)
      refine gt_ hX (4) 16 (by decide +kernel) (by decide) ?_
      exact z_iret hX (by decide +kernel) rfl (rfl) (by decide) (by decide) (by first | exact ⟨rfl, Or.inr ⟨isIn_f1 c1, rfl⟩⟩ | exact ⟨rfl, Or.inr ⟨isIn_gt 1023 c2, rfl⟩⟩ | exact ⟨rfl, Or.inl ⟨isIn_le 1023 c1 c2, rfl⟩⟩)
theorem c_X_areDays (E : zE) (σ : Sg) (x : Int32) : zCt E mX11_areDays 0 0 0 σ [.int x] (fun r σ' => σ' = σ ∧ ((isIn x 61 = true ∧ r = some (.int 1)) ∨ (¬ (isIn x 61 = true) ∧ r = some (.int 0)))) := by
  refine z_intro (by decide) (Nat.le_of_ble_eq_true rfl) (fun X hX => ?_)
  refine bk hX lkX11_ok (pc' := 1) [.iload_n 0] (by decide +kernel) (And.intro trivial ?_)
  refine if_lt hX (13) 14 (by decide +kernel) (by decide) (fun c1 => ?_) (fun c1 => ?_)
  · refine bk hX lkX11_ok (pc' := 15) [.iconst 0] (by decide +kernel) (And.intro trivial ?_)
    exact z_iret hX (by decide +kernel) rfl (rfl) (by decide) (by decide) (by first | exact ⟨rfl, Or.inr ⟨isIn_f1 c1, rfl⟩⟩ | exact ⟨rfl, Or.inr ⟨isIn_gt 60 c2, rfl⟩⟩ | exact ⟨rfl, Or.inl ⟨isIn_le 60 c1 c2, rfl⟩⟩)
  · refine bk hX lkX11_ok (pc' := 7) [.iload_n 0, .bipush 60] (by decide +kernel) (And.intro trivial ?_)
    refine ic_gt hX (7) 14 (by decide +kernel) (by decide) (fun c2 => ?_) (fun c2 => ?_)
    · refine bk hX lkX11_ok (pc' := 15) [.iconst 0] (by decide +kernel) (And.intro trivial ?_)
      exact z_iret hX (by decide +kernel) rfl (rfl) (by decide) (by decide) (by first | exact ⟨rfl, Or.inr ⟨isIn_f1 c1, rfl⟩⟩ | exact ⟨rfl, Or.inr ⟨isIn_gt 60 c2, rfl⟩⟩ | exact ⟨rfl, Or.inl ⟨isIn_le 60 c1 c2, rfl⟩⟩)
    · refine bk hX lkX11_ok (pc' := 11) [.iconst 1] (by decide +kernel) (And.intro trivial ?_)
      refine gt_ hX (4) 15 (by decide +kernel) (by decide) ?_
      exact z_iret hX (by decide +kernel) rfl (rfl) (by decide) (by decide) (by first | exact ⟨rfl, Or.inr ⟨isIn_f1 c1, rfl⟩⟩ | exact ⟨rfl, Or.inr ⟨isIn_gt 60 c2, rfl⟩⟩ | exact ⟨rfl, Or.inl ⟨isIn_le 60 c1 c2, rfl⟩⟩)
theorem c_X_isTape (E : zE) (σ : Sg) (x : Int32) : zCt E mX11_isTape 0 0 0 σ [.int x] (fun r σ' => σ' = σ ∧ ((isIn x 6 = true ∧ r = some (.int 1)) ∨ (¬ (isIn x 6 = true) ∧ r = some (.int 0)))) := by
  have hm : 6 < 2 ^ 31 := by decide
  refine z_intro (by decide) (Nat.le_of_ble_eq_true rfl) (fun X hX => ?_)
  refine bk hX lkX11_ok (pc' := 1) [.iload_n 0] (by decide +kernel) (And.intro trivial ?_)
  refine if_lt hX (13) 14 (by decide +kernel) (by decide) (fun c1 => ?_) (fun c1 => ?_)
  · refine bk hX lkX11_ok (pc' := 15) [.iconst 0] (by decide +kernel) (And.intro trivial ?_)
    exact z_iret hX (by decide +kernel) rfl (rfl) (by decide) (by decide) (by first | exact ⟨rfl, Or.inr ⟨isIn_f1 c1, rfl⟩⟩ | exact ⟨rfl, Or.inr ⟨isIn_ge c2 hm, rfl⟩⟩ | exact ⟨rfl, Or.inl ⟨isIn_lt c1 c2 hm, rfl⟩⟩)
  · refine bk hX lkX11_ok (pc' := 7) [.iload_n 0, .bipush 6] (by decide +kernel) (And.intro trivial ?_)
    refine ic_ge hX (7) 14 (by decide +kernel) (by decide) (fun c2 => ?_) (fun c2 => ?_)
    · refine bk hX lkX11_ok (pc' := 15) [.iconst 0] (by decide +kernel) (And.intro trivial ?_)
      exact z_iret hX (by decide +kernel) rfl (rfl) (by decide) (by decide) (by first | exact ⟨rfl, Or.inr ⟨isIn_f1 c1, rfl⟩⟩ | exact ⟨rfl, Or.inr ⟨isIn_ge c2 hm, rfl⟩⟩ | exact ⟨rfl, Or.inl ⟨isIn_lt c1 c2 hm, rfl⟩⟩)
    · refine bk hX lkX11_ok (pc' := 11) [.iconst 1] (by decide +kernel) (And.intro trivial ?_)
      refine gt_ hX (4) 15 (by decide +kernel) (by decide) ?_
      exact z_iret hX (by decide +kernel) rfl (rfl) (by decide) (by decide) (by first | exact ⟨rfl, Or.inr ⟨isIn_f1 c1, rfl⟩⟩ | exact ⟨rfl, Or.inr ⟨isIn_ge c2 hm, rfl⟩⟩ | exact ⟨rfl, Or.inl ⟨isIn_lt c1 c2 hm, rfl⟩⟩)
theorem c_X_isWorker (E : zE) (K N : Nat → Nat) (Rf : Nat → Nat → Option Nat) (I : Nat → Nat → Int32) (L : Nat → Nat → Int64) (x : Int32) {n : Nat} (hn : n ≤ 6) (hw : I 300 4 = nI n) : zCt E mX11_isWorker 0 0 0 (sg K N Rf I L) [.ref 200, .int x] (fun r σ' => σ' = (sg K N Rf I L) ∧ ((isIn x n = true ∧ r = some (.int 1)) ∨ (¬ (isIn x n = true) ∧ r = some (.int 0)))) := by
  have hm : n < 2 ^ 31 := by omega
  refine z_intro (by decide) (Nat.le_of_ble_eq_true rfl) (fun X hX => ?_)
  refine bk hX lkX11_ok (pc' := 1) [.iload_n 1] (by decide +kernel) (And.intro trivial ?_)
  refine if_lt hX (18) 19 (by decide +kernel) (by decide) (fun c1 => ?_) (fun c1 => ?_)
  · refine bk hX lkX11_ok (pc' := 20) [.iconst 0] (by decide +kernel) (And.intro trivial ?_)
    exact z_iret hX (by decide +kernel) rfl (rfl) (by decide) (by decide) (by first | exact ⟨rfl, Or.inr ⟨isIn_f1 c1, rfl⟩⟩ | exact ⟨rfl, Or.inr ⟨isIn_ge c2 hm, rfl⟩⟩ | exact ⟨rfl, Or.inl ⟨isIn_lt c1 c2 hm, rfl⟩⟩)
  · refine bk hX lkX11_ok (pc' := 12) [.iload_n 1, .aload_n 0, .getfield 12, .getfield 65] (by decide +kernel) (And.intro trivial ?_)
    rw [hw]
    refine ic_ge hX (7) 19 (by decide +kernel) (by decide) (fun c2 => ?_) (fun c2 => ?_)
    · refine bk hX lkX11_ok (pc' := 20) [.iconst 0] (by decide +kernel) (And.intro trivial ?_)
      exact z_iret hX (by decide +kernel) rfl (rfl) (by decide) (by decide) (by first | exact ⟨rfl, Or.inr ⟨isIn_f1 c1, rfl⟩⟩ | exact ⟨rfl, Or.inr ⟨isIn_ge c2 hm, rfl⟩⟩ | exact ⟨rfl, Or.inl ⟨isIn_lt c1 c2 hm, rfl⟩⟩)
    · refine bk hX lkX11_ok (pc' := 16) [.iconst 1] (by decide +kernel) (And.intro trivial ?_)
      refine gt_ hX (4) 20 (by decide +kernel) (by decide) ?_
      exact z_iret hX (by decide +kernel) rfl (rfl) (by decide) (by decide) (by first | exact ⟨rfl, Or.inr ⟨isIn_f1 c1, rfl⟩⟩ | exact ⟨rfl, Or.inr ⟨isIn_ge c2 hm, rfl⟩⟩ | exact ⟨rfl, Or.inl ⟨isIn_lt c1 c2 hm, rfl⟩⟩)
theorem c_X_isPlace (E : zE) (K N : Nat → Nat) (Rf : Nat → Nat → Option Nat) (I : Nat → Nat → Int32) (L : Nat → Nat → Int64) {t n : Nat} (ht : t < 6) (i : Int32) (hn : n ≤ 1000) (hw : I 212 t = nI n) : zCt E mX11_isPlace 0 0 0 (sg K N Rf I L) [.ref 200, .int (nI t), .int i] (fun r σ' => σ' = (sg K N Rf I L) ∧ ((isIn i n = true ∧ r = some (.int 1)) ∨ (¬ (isIn i n = true) ∧ r = some (.int 0)))) := by
  have hm : n < 2 ^ 31 := by omega
  have ct : (nI t).toNatClampNeg = t := cl (by omega)
  refine z_intro (by decide) (Nat.le_of_ble_eq_true rfl) (fun X hX => ?_)
  refine bk hX lkX11_ok (pc' := 1) [.iload_n 2] (by decide +kernel) (And.intro trivial ?_)
  refine if_lt hX (17) 18 (by decide +kernel) (by decide) (fun c1 => ?_) (fun c1 => ?_)
  · refine bk hX lkX11_ok (pc' := 19) [.iconst 0] (by decide +kernel) (And.intro trivial ?_)
    exact z_iret hX (by decide +kernel) rfl (rfl) (by decide) (by decide) (by first | exact ⟨rfl, Or.inr ⟨isIn_f1 c1, rfl⟩⟩ | exact ⟨rfl, Or.inr ⟨isIn_ge c2 hm, rfl⟩⟩ | exact ⟨rfl, Or.inl ⟨isIn_lt c1 c2 hm, rfl⟩⟩)
  · refine bk hX lkX11_ok (pc' := 11) [.iload_n 2, .aload_n 0, .getfield 45, .iload_n 1, .iaload] (by decide +kernel) (And.intro (by exact vin 6 ht) (And.intro trivial ?_))
    simp only [ct, hw]
    refine ic_ge hX (7) 18 (by decide +kernel) (by decide) (fun c2 => ?_) (fun c2 => ?_)
    · refine bk hX lkX11_ok (pc' := 19) [.iconst 0] (by decide +kernel) (And.intro trivial ?_)
      exact z_iret hX (by decide +kernel) rfl (rfl) (by decide) (by decide) (by first | exact ⟨rfl, Or.inr ⟨isIn_f1 c1, rfl⟩⟩ | exact ⟨rfl, Or.inr ⟨isIn_ge c2 hm, rfl⟩⟩ | exact ⟨rfl, Or.inl ⟨isIn_lt c1 c2 hm, rfl⟩⟩)
    · refine bk hX lkX11_ok (pc' := 15) [.iconst 1] (by decide +kernel) (And.intro trivial ?_)
      refine gt_ hX (4) 19 (by decide +kernel) (by decide) ?_
      exact z_iret hX (by decide +kernel) rfl (rfl) (by decide) (by decide) (by first | exact ⟨rfl, Or.inr ⟨isIn_f1 c1, rfl⟩⟩ | exact ⟨rfl, Or.inr ⟨isIn_ge c2 hm, rfl⟩⟩ | exact ⟨rfl, Or.inl ⟨isIn_lt c1 c2 hm, rfl⟩⟩)
def us (x y : Int32) : Int32 := (x.toUInt32 >>> (y.toUInt32 &&& Int32.toUInt32 31)).toInt32
def bc1 (x : Int32) : Int32 := x - (us x (nI 1) &&& 1431655765)
def bc2 (x : Int32) : Int32 := (x &&& 858993459) + (us x (nI 2) &&& 858993459)
def bc3 (x : Int32) : Int32 := (x + us x (nI 4)) &&& 252645135
def bc4 (x : Int32) : Int32 := x + us x (nI 8)
def bc5 (x : Int32) : Int32 := x + us x (nI 16)
def bc6 (x : Int32) : Int32 := x &&& nI 63
theorem bc_ok : ∀ h, h < 1024 → bc6 (bc5 (bc4 (bc3 (bc2 (bc1 (nI h)))))) = nI (pcN h 10) := by decide +kernel
theorem c_J_bitCount (E : zE) (σ : Sg) {h : Nat} (hh : h < 1024) : zCt E mJ6_bitCount_0f7a4 0 0 0 σ [.int (nI h)] (fun r σ' => σ' = σ ∧ r = some (.int (nI (pcN h 10)))) := by
  refine z_intro (by decide) (Nat.le_of_ble_eq_true rfl) (fun X hX => ?_)
  refine bk hX lkJ6_ok (pc' := 3) [.iload_n 0, .iload_n 0, .iconst 1] (by decide +kernel) (And.intro trivial ?_)
  refine z_iushr hX (by decide +kernel) ?_
  refine z_ldcw hX kd_J6_265 (by decide +kernel) ?_
  refine bk hX lkJ6_ok (pc' := 11) [.iand, .isub, .istore_n 0, .iload_n 0] (by decide +kernel) (And.intro trivial ?_)
  refine z_ldcw hX kd_J6_266 (by decide +kernel) ?_
  refine bk hX lkJ6_ok (pc' := 17) [.iand, .iload_n 0, .iconst 2] (by decide +kernel) (And.intro trivial ?_)
  refine z_iushr hX (by decide +kernel) ?_
  refine z_ldcw hX kd_J6_266 (by decide +kernel) ?_
  refine bk hX lkJ6_ok (pc' := 27) [.iand, .iadd, .istore_n 0, .iload_n 0, .iload_n 0, .iconst 4] (by decide +kernel) (And.intro trivial ?_)
  refine z_iushr hX (by decide +kernel) ?_
  refine bk hX lkJ6_ok (pc' := 29) [.iadd] (by decide +kernel) (And.intro trivial ?_)
  refine z_ldcw hX kd_J6_267 (by decide +kernel) ?_
  refine bk hX lkJ6_ok (pc' := 38) [.iand, .istore_n 0, .iload_n 0, .iload_n 0, .bipush 8] (by decide +kernel) (And.intro trivial ?_)
  refine z_iushr hX (by decide +kernel) ?_
  refine bk hX lkJ6_ok (pc' := 45) [.iadd, .istore_n 0, .iload_n 0, .iload_n 0, .bipush 16] (by decide +kernel) (And.intro trivial ?_)
  refine z_iushr hX (by decide +kernel) ?_
  refine bk hX lkJ6_ok (pc' := 52) [.iadd, .istore_n 0, .iload_n 0, .bipush 63, .iand] (by decide +kernel) (And.intro trivial ?_)
  exact z_iret hX (by decide +kernel) rfl (rfl) (by decide) (by decide) (⟨rfl, congrArg some (congrArg Value.int (bc_ok h hh))⟩)
