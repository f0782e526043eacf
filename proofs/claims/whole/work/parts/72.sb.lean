/-! ===== what ran: StringBuilder ===== -/
def xTr (t : List Nat) (I : Nat → Nat → Int32) : Prop := I 208 3 = nI t.length ∧ I 208 1 = 0 ∧ t.length ≤ 16 ∧ (∀ x ∈ t, x < 128) ∧ ∀ k, k < t.length → I 220 k = nI (t.getD k 0)
def frB (I I' : Nat → Nat → Int32) : Prop := ∀ q, q ≠ 208 → q ≠ 220 → I' q = I q
theorem frB_rf (I : Nat → Nat → Int32) : frB I I := fun _ _ _ => rfl
theorem frB_tr {I I1 I2 : Nat → Nat → Int32} (h1 : frB I I1) (h2 : frB I1 I2) : frB I I2 := fun q a b => (h2 q a b).trans (h1 q a b)
theorem frB_hi {I I' : Nat → Nat → Int32} (h : frB I I') : ∀ q, 1000 ≤ q → I' q = I q := fun q hq => h q (by omega) (by omega)
theorem by_ok : ∀ j, j < 128 → vp_nar .byte ((nI j).toInt8.toInt32) = nI j := by decide +kernel
theorem ca_ok : ∀ j, j < 128 → ((nI j &&& nI 255).toUInt32 % 65536).toInt32 = nI j := by decide +kernel
theorem nc_ok : ∀ j, j < 128 → narrow .char (.int (nI j)) = .int (nI j) := by decide +kernel
theorem c_J5_length (E : zE) (K N : Nat → Nat) (Rf : Nat → Nat → Option Nat) (I : Nat → Nat → Int32) (L : Nat → Nat → Int64) {t : List Nat} (ht : xTr t I) : zCt E mJ5_length_8abf5 0 0 0 (sg K N Rf I L) [.ref 208] (fun r σ' => σ' = (sg K N Rf I L) ∧ r = some (.int (nI t.length))) := by
  refine z_intro (by decide) (Nat.le_of_ble_eq_true rfl) (fun X hX => ?_)
  refine bk hX lkJ5_ok (pc' := 4) [.aload_n 0, .getfield 79] (by decide +kernel) (And.intro trivial ?_)
  exact z_iret hX (by decide +kernel) rfl (rfl) (by decide) (by decide) (⟨rfl, congrArg some (congrArg Value.int ht.1)⟩)
theorem c_J4_length (E : zE) (K N : Nat → Nat) (Rf : Nat → Nat → Option Nat) (I : Nat → Nat → Int32) (L : Nat → Nat → Int64) {t : List Nat} (ht : xTr t I) : zCt E mJ4_length_8abf5 1 0 0 (sg K N Rf I L) [.ref 208] (fun r σ' => σ' = (sg K N Rf I L) ∧ r = some (.int (nI t.length))) := by
  refine z_intro (by decide) (Nat.le_of_ble_eq_true rfl) (fun X hX => ?_)
  refine bk hX lkJ4_ok (pc' := 1) [.aload_n 0] (by decide +kernel) (And.intro trivial ?_)
  refine z_callSU hX ks_J4_343 (c_J5_length E K N Rf I L ht) rfl rfl rfl rfl (by decide +kernel) (by decide) (by decide) (by decide) (by decide) (Nat.le_of_ble_eq_true rfl) ?_
  rintro _ _ ⟨rfl, rfl⟩
  exact z_iret hX (by decide +kernel) rfl (rfl) (by decide) (by decide) (⟨rfl, rfl⟩)
theorem c_J5_isLatin1 (E : zE) (K N : Nat → Nat) (Rf : Nat → Nat → Option Nat) (I : Nat → Nat → Int32) (L : Nat → Nat → Int64) {t : List Nat} (ht : xTr t I) : zCt E mJ5_isLatin1_aae02 0 0 0 (sg K N Rf I L) [.ref 208] (fun r σ' => σ' = (sg K N Rf I L) ∧ r = some (.int (nI 1))) := by
  refine z_intro (by decide) (Nat.le_of_ble_eq_true rfl) (fun X hX => ?_)
  refine z_gets hX kg_J5_18 (by decide +kernel) ?_
  refine if_eq hX (14) 17 (by decide +kernel) (by decide) (fun c => absurd c (by decide)) (fun c_3 => ?_)
  refine bk hX lkJ5_ok (pc' := 10) [.aload_n 0, .getfield 22] (by decide +kernel) (And.intro trivial ?_)
  refine if_ne hX (7) 17 (by decide +kernel) (by decide) (fun c => absurd (ht.2.1) c) (fun c_10 => ?_)
  refine bk hX lkJ5_ok (pc' := 14) [.iconst 1] (by decide +kernel) (And.intro trivial ?_)
  refine gt_ hX (4) 18 (by decide +kernel) (by decide) ?_
  exact z_iret hX (by decide +kernel) rfl (rfl) (by decide) (by decide) (⟨rfl, rfl⟩)
theorem c_J5_ensure (E : zE) (K N : Nat → Nat) (Rf : Nat → Nat → Option Nat) (I : Nat → Nat → Int32) (L : Nat → Nat → Int64) {t : List Nat} (ht : xTr t I) {m : Nat} (hm : m ≤ 16) : zCt E mJ5_ensureCapacityInternal_d00df 0 0 0 (sg K N Rf I L) [.ref 208, .int (nI m)] (fun r σ' => σ' = (sg K N Rf I L) ∧ r = none) := by
  have e : nI 16 >>> ((0 : Int32) &&& 31) = nI 16 := by decide +kernel
  refine z_intro (by decide) (Nat.le_of_ble_eq_true rfl) (fun X hX => ?_)
  refine bk hX lkJ5_ok (pc' := 14) [.aload_n 0, .getfield 15, .arraylength, .aload_n 0, .getfield 22, .ishr, .istore_n 2, .iload_n 1, .iload_n 2, .isub] (by decide +kernel) (And.intro trivial ?_)
  rw [ht.2.1, show nI (nF N 220) = nI 16 from rfl, e]
  refine if_le hX (24) 38 (by decide +kernel) (by decide) (fun c_14 => ?_) (fun c => absurd (by rw [Int32.le_iff_toInt_le, pk_sub_toInt (by omega) (by decide)]; show (m : Int) - 16 ≤ 0; omega) c)
  exact z_vret hX (by decide +kernel) rfl (by decide) (by decide) (⟨rfl, rfl⟩)
theorem c_J1_canEncode (E : zE) (σ : Sg) {x : Nat} (hx : x < 128) : zCt E mJ1_canEncode_fc78d 0 0 0 σ [.int (nI x)] (fun r σ' => σ' = σ ∧ r = some (.int (nI 1))) := by
  refine z_intro (by decide) (Nat.le_of_ble_eq_true rfl) (fun X hX => ?_)
  refine bk hX lkJ1_ok (pc' := 4) [.iload_n 0, .sipush 255] (by decide +kernel) (And.intro trivial ?_)
  refine ic_gt hX (7) 11 (by decide +kernel) (by decide) (fun c => absurd c (fun z => absurd ((nI_ltI (a := 255) (b := x) (by decide) (by omega)).mp z) (by omega))) (fun c_4 => ?_)
  refine bk hX lkJ1_ok (pc' := 8) [.iconst 1] (by decide +kernel) (And.intro trivial ?_)
  refine gt_ hX (4) 12 (by decide +kernel) (by decide) ?_
  exact z_iret hX (by decide +kernel) rfl (rfl) (by decide) (by decide) (⟨rfl, rfl⟩)
theorem c_J5_append (E : zE) (K N : Nat → Nat) (Rf : Nat → Nat → Option Nat) (I : Nat → Nat → Int32) (L : Nat → Nat → Int64) {t : List Nat} (ht : xTr t I) (hl : t.length < 16) {x : Nat} (hx : x < 128) : zCt E mJ5_append_3fe6f 1 0 0 (sg K N Rf I L) [.ref 208, .int (nI x)] (fun r σ' => ∃ I', σ' = sg K N Rf I' L ∧ r = some (.ref 208) ∧ xTr (t ++ [x]) I' ∧ frB I I') := by
  have ct : (nI t.length).toNatClampNeg = t.length := cl (by omega)
  refine z_intro (by decide) (Nat.le_of_ble_eq_true rfl) (fun X hX => ?_)
  refine bk hX lkJ5_ok (pc' := 7) [.aload_n 0, .aload_n 0, .getfield 79, .iconst 1, .iadd] (by decide +kernel) (And.intro trivial ?_)
  rw [ht.1, nI_add]
  refine z_callP hX kq_J5_100 (c_J5_ensure E K N Rf I L ht (show t.length + 1 ≤ 16 by omega)) rfl rfl rfl rfl rfl (by decide +kernel) (by decide) (by decide) (by decide) (by decide) (Nat.le_of_ble_eq_true rfl) ?_
  rintro _ _ ⟨rfl, rfl⟩
  refine bk hX lkJ5_ok (pc' := 11) [.aload_n 0] (by decide +kernel) (And.intro trivial ?_)
  refine z_callU hX (idx := 83) (by exact ku_J5_83_J4) (c_J5_isLatin1 E K N Rf I L ht) rfl rfl rfl rfl (by decide +kernel) (by decide) (by decide) (by decide) (by decide) (Nat.le_of_ble_eq_true rfl) ?_
  rintro _ _ ⟨rfl, rfl⟩
  refine if_eq hX (31) 45 (by decide +kernel) (by decide) (fun c => absurd c (by decide)) (fun c_14 => ?_)
  refine bk hX lkJ5_ok (pc' := 18) [.iload_n 1] (by decide +kernel) (And.intro trivial ?_)
  refine z_callS hX kw_J5_191 (c_J1_canEncode E _ hx) rfl rfl (by decide +kernel) (by decide) (by decide) (by decide) (by decide) (Nat.le_of_ble_eq_true rfl) ?_
  rintro _ _ ⟨rfl, rfl⟩
  refine if_eq hX (24) 45 (by decide +kernel) (by decide) (fun c => absurd c (by decide)) (fun c_21 => ?_)
  refine bk hX lkJ5_ok (pc' := 42) [.aload_n 0, .getfield 15, .aload_n 0, .dup, .getfield 79, .dup_x1, .iconst 1, .iadd, .putfield 79, .iload_n 1, .i2b, .bastore] (by decide +kernel) (And.intro (by simp only [ht.1]; exact vin 16 hl) (And.intro trivial ?_))
  refine gt_ hX (33) 75 (by decide +kernel) (by decide) ?_
  refine bk hX lkJ5_ok (pc' := 76) [.aload_n 0] (by decide +kernel) (And.intro trivial ?_)
  exact z_aret hX (by decide +kernel) rfl (Or.inl ⟨_, rfl⟩) (by decide) (by decide) (by
  simp only [ht.1, ct, by_ok x hx, nI_add]
  refine ⟨_, rfl, trivial, ⟨?_, ?_, ?_, fun y hy => ?_, fun k hk => ?_⟩, fun q h1 h2 => ?_⟩
  · rw [up2_ne _ _ _ (by decide), up2_self]; simp
  · rw [up2_ne _ _ _ (by decide), up2_at, if_neg (by decide)]; exact ht.2.1
  · simp; omega
  · rcases List.mem_append.mp hy with h | h
    · exact ht.2.2.2.1 y h
    · rw [List.mem_singleton.mp h]; exact hx
  · rw [up2_at]
    rw [List.length_append] at hk
    by_cases e : k = t.length
    · rw [if_pos e, e]; simp
    · have hk2 : k < t.length := by simp at hk; omega
      rw [if_neg e, up2_ne _ _ _ (by decide), ht.2.2.2.2 k hk2, List.getD_eq_getElem?_getD, List.getD_eq_getElem?_getD, List.getElem?_append_left hk2]
  · rw [up2_ne _ _ _ h2, up2_ne _ _ _ h1])
theorem c_J4_append (E : zE) (K N : Nat → Nat) (Rf : Nat → Nat → Option Nat) (I : Nat → Nat → Int32) (L : Nat → Nat → Int64) {t : List Nat} (ht : xTr t I) (hl : t.length < 16) {x : Nat} (hx : x < 128) : zCt E mJ4_append_cf468 2 0 0 (sg K N Rf I L) [.ref 208, .int (nI x)] (fun r σ' => ∃ I', σ' = sg K N Rf I' L ∧ r = some (.ref 208) ∧ xTr (t ++ [x]) I' ∧ frB I I') := by
  refine z_intro (by decide) (Nat.le_of_ble_eq_true rfl) (fun X hX => ?_)
  refine bk hX lkJ4_ok (pc' := 2) [.aload_n 0, .iload_n 1] (by decide +kernel) (And.intro trivial ?_)
  refine z_callSU hX ks_J4_50 (c_J5_append E K N Rf I L ht hl hx) rfl rfl rfl rfl (by decide +kernel) (by decide) (by decide) (by decide) (by decide) (Nat.le_of_ble_eq_true rfl) ?_
  rintro _ _ ⟨I1, rfl, rfl, y1, y2⟩
  refine bk hX lkJ4_ok (pc' := 7) [.pop, .aload_n 0] (by decide +kernel) (And.intro trivial ?_)
  exact z_aret hX (by decide +kernel) rfl (Or.inl ⟨_, rfl⟩) (by decide) (by decide) (⟨I1, rfl, rfl, y1, y2⟩)
theorem c_J5_setLength (E : zE) (K N : Nat → Nat) (Rf : Nat → Nat → Option Nat) (I : Nat → Nat → Int32) (L : Nat → Nat → Int64) {t : List Nat} (ht : xTr t I) : zCt E mJ5_setLength_d00df 1 0 0 (sg K N Rf I L) [.ref 208, .int (nI 0)] (fun r σ' => ∃ I', σ' = sg K N Rf I' L ∧ r = none ∧ xTr [] I' ∧ frB I I') := by
  refine z_intro (by decide) (Nat.le_of_ble_eq_true rfl) (fun X hX => ?_)
  refine bk hX lkJ5_ok (pc' := 1) [.iload_n 1] (by decide +kernel) (And.intro trivial ?_)
  refine if_ge hX (12) 13 (by decide +kernel) (by decide) (fun c_1 => ?_) (fun c => absurd (by decide) c)
  refine bk hX lkJ5_ok (pc' := 15) [.aload_n 0, .iload_n 1] (by decide +kernel) (And.intro trivial ?_)
  refine z_callP hX kq_J5_100 (c_J5_ensure E K N Rf I L ht (m := 0) (by decide)) rfl rfl rfl rfl rfl (by decide +kernel) (by decide) (by decide) (by decide) (by decide) (Nat.le_of_ble_eq_true rfl) ?_
  rintro _ _ ⟨rfl, rfl⟩
  refine bk hX lkJ5_ok (pc' := 23) [.aload_n 0, .getfield 79, .iload_n 1] (by decide +kernel) (And.intro trivial ?_)
  rw [ht.1]
  refine ic_ge hX (40) 63 (by decide +kernel) (by decide) (fun c_23 => ?_) (fun c => absurd (nI_le (Nat.zero_le _) (by have := ht.2.2.1; omega)) c)
  refine bk hX lkJ5_ok (pc' := 68) [.aload_n 0, .getfield 79, .iload_n 1] (by decide +kernel) (And.intro trivial ?_)
  refine ic_le hX (8) 76 (by decide +kernel) (by decide) (fun c_68 => ?_) (fun c_68 => ?_)
  · refine bk hX lkJ5_ok (pc' := 81) [.aload_n 0, .iload_n 1, .putfield 79] (by decide +kernel) (And.intro trivial ?_)
    exact z_vret hX (by decide +kernel) rfl (by decide) (by decide) (by
  refine ⟨_, rfl, rfl, ⟨up2_self _ _ _ _, ?_, Nat.zero_le _, fun y hy => (by cases hy), fun k hk => absurd hk (Nat.not_lt_zero _)⟩, fun q h1 h2 => ?_⟩
  · first
      | (rw [up2_at, if_neg (by decide), up2_at, if_neg (by decide)]; exact ht.2.1)
      | (rw [up2_at, if_neg (by decide)]; exact ht.2.1)
  · first
      | (rw [up2_ne _ _ _ h1, up2_ne _ _ _ h1]; done)
      | (rw [up2_ne _ _ _ h1]; done))
  · refine bk hX lkJ5_ok (pc' := 81) [.aload_n 0, .iconst 1, .putfield 73, .aload_n 0, .iload_n 1, .putfield 79] (by decide +kernel) (And.intro (by exact ⟨rfl, rfl⟩) (And.intro trivial ?_))
    exact z_vret hX (by decide +kernel) rfl (by decide) (by decide) (by
  refine ⟨_, rfl, rfl, ⟨up2_self _ _ _ _, ?_, Nat.zero_le _, fun y hy => (by cases hy), fun k hk => absurd hk (Nat.not_lt_zero _)⟩, fun q h1 h2 => ?_⟩
  · first
      | (rw [up2_at, if_neg (by decide), up2_at, if_neg (by decide)]; exact ht.2.1)
      | (rw [up2_at, if_neg (by decide)]; exact ht.2.1)
  · first
      | (rw [up2_ne _ _ _ h1, up2_ne _ _ _ h1]; done)
      | (rw [up2_ne _ _ _ h1]; done))
theorem c_J4_setLength (E : zE) (K N : Nat → Nat) (Rf : Nat → Nat → Option Nat) (I : Nat → Nat → Int32) (L : Nat → Nat → Int64) {t : List Nat} (ht : xTr t I) : zCt E mJ4_setLength_d00df 2 0 0 (sg K N Rf I L) [.ref 208, .int (nI 0)] (fun r σ' => ∃ I', σ' = sg K N Rf I' L ∧ r = none ∧ xTr [] I' ∧ frB I I') := by
  refine z_intro (by decide) (Nat.le_of_ble_eq_true rfl) (fun X hX => ?_)
  refine bk hX lkJ4_ok (pc' := 2) [.aload_n 0, .iload_n 1] (by decide +kernel) (And.intro trivial ?_)
  refine z_callSU hX ks_J4_333 (c_J5_setLength E K N Rf I L ht) rfl rfl rfl rfl (by decide +kernel) (by decide) (by decide) (by decide) (by decide) (Nat.le_of_ble_eq_true rfl) ?_
  rintro _ _ ⟨I1, rfl, rfl, y1, y2⟩
  exact z_vret hX (by decide +kernel) rfl (by decide) (by decide) (⟨I1, rfl, rfl, y1, y2⟩)
theorem c_J5_charAt (E : zE) (K N : Nat → Nat) (Rf : Nat → Nat → Option Nat) (I : Nat → Nat → Int32) (L : Nat → Nat → Int64) {t : List Nat} (ht : xTr t I) {i : Nat} (hi : i < t.length) : zCt E mJ5_charAt_5068e 2 0 0 (sg K N Rf I L) [.ref 208, .int (nI i)] (fun r σ' => σ' = (sg K N Rf I L) ∧ r = some (.int (nI (t.getD i 0)))) := by
  have hl := ht.2.2.1
  have ci : (nI i).toNatClampNeg = i := cl (by omega)
  have e : nI 16 >>> ((0 : Int32) &&& 31) = nI 16 := by decide +kernel
  have em : (if nI 16 < nI t.length then nI 16 else nI t.length) = nI t.length := if_neg (fun z => absurd ((nI_ltI (by decide) (by omega)).mp z) (by omega))
  have hv : t.getD i 0 < 128 := by
    rw [List.getD_eq_getElem?_getD, List.getElem?_eq_getElem hi]
    exact ht.2.2.2.1 _ (List.getElem_mem hi)
  refine z_intro (by decide) (Nat.le_of_ble_eq_true rfl) (fun X hX => ?_)
  refine bk hX lkJ5_ok (pc' := 18) [.aload_n 0, .getfield 22, .istore_n 2, .aload_n 0, .getfield 15, .astore_n 3, .aload_n 0, .getfield 79, .aload_n 3, .arraylength, .iload_n 2, .ishr] (by decide +kernel) (And.intro trivial ?_)
  rw [ht.2.1, show nI (nF N 220) = nI 16 from rfl, e, ht.1]
  refine z_mmin hX kn_J5_138 (by decide) (Nat.le_of_ble_eq_true rfl) (by decide) (by decide) (by decide +kernel) ?_
  rw [em]
  refine bk hX lkJ5_ok (pc' := 26) [.istore 4, .iload_n 1, .iload 4] (by decide +kernel) (And.intro trivial ?_)
  refine z_callS hX kw_J5_144 (c_J0_checkIndex E _ hi (by omega)) rfl rfl (by decide +kernel) (by decide) (by decide) (by decide) (by decide) (Nat.le_of_ble_eq_true rfl) ?_
  rintro _ _ ⟨rfl, rfl⟩
  refine bk hX lkJ5_ok (pc' := 30) [.iload_n 2] (by decide +kernel) (And.intro trivial ?_)
  refine if_ne hX (12) 42 (by decide +kernel) (by decide) (fun c => absurd (rfl) c) (fun c_30 => ?_)
  refine bk hX lkJ5_ok (pc' := 41) [.aload_n 3, .iload_n 1, .baload, .sipush 255, .iand, .i2c] (by decide +kernel) (And.intro (by exact vin 16 (by omega)) (And.intro trivial ?_))
  rw [ci, show I 220 i = _ from ht.2.2.2.2 i hi, ca_ok _ hv]
  exact z_iret hX (by decide +kernel) rfl (nc_ok _ hv) (by decide) (by decide) (⟨rfl, rfl⟩)
theorem c_J4_charAt (E : zE) (K N : Nat → Nat) (Rf : Nat → Nat → Option Nat) (I : Nat → Nat → Int32) (L : Nat → Nat → Int64) {t : List Nat} (ht : xTr t I) {i : Nat} (hi : i < t.length) : zCt E mJ4_charAt_5068e 3 0 0 (sg K N Rf I L) [.ref 208, .int (nI i)] (fun r σ' => σ' = (sg K N Rf I L) ∧ r = some (.int (nI (t.getD i 0)))) := by
  have hv : t.getD i 0 < 128 := by
    rw [List.getD_eq_getElem?_getD, List.getElem?_eq_getElem hi]
    exact ht.2.2.2.1 _ (List.getElem_mem hi)
  refine z_intro (by decide) (Nat.le_of_ble_eq_true rfl) (fun X hX => ?_)
  refine bk hX lkJ4_ok (pc' := 2) [.aload_n 0, .iload_n 1] (by decide +kernel) (And.intro trivial ?_)
  refine z_callSU hX ks_J4_329 (c_J5_charAt E K N Rf I L ht hi) rfl rfl rfl rfl (by decide +kernel) (by decide) (by decide) (by decide) (by decide) (Nat.le_of_ble_eq_true rfl) ?_
  rintro _ _ ⟨rfl, rfl⟩
  exact z_iret hX (by decide +kernel) rfl (nc_ok _ hv) (by decide) (by decide) (⟨rfl, rfl⟩)
theorem c_X_trace (E : zE) (K N : Nat → Nat) (Rf : Nat → Nat → Option Nat) (I : Nat → Nat → Int32) (L : Nat → Nat → Int64) {t : List Nat} (ht : xTr t I) (x : Int32) : zCt E mX11_trace 4 0 0 (sg K N Rf I L) [.ref 200, .int x] (fun r σ' => σ' = (sg K N Rf I L) ∧ r = some (.int (trcS t x))) := by
  have hl := ht.2.2.1
  refine z_intro (by decide) (Nat.le_of_ble_eq_true rfl) (fun X hX => ?_)
  refine bk hX lkX11_ok (pc' := 1) [.iload_n 1] (by decide +kernel) (And.intro trivial ?_)
  refine if_lt hX (20) 21 (by decide +kernel) (by decide) (fun c1 => ?_) (fun c1 => ?_)
  · refine bk hX lkX11_ok (pc' := 22) [.iconst (Int.negSucc 0)] (by decide +kernel) (And.intro trivial ?_)
    exact z_iret hX (by decide +kernel) rfl (rfl) (by decide) (by decide) (by
  have e : ¬ (isIn x 20 = true ∧ isIn x t.length = true) := by
    first
      | exact fun z => isIn_f1 c1 z.1
      | exact fun z => isIn_ge c7 (by decide) z.1
      | exact fun z => isIn_ge (i_nlt.mp c18) (by omega) z.2
  exact ⟨rfl, by rw [trcS, if_neg e]⟩)
  · refine bk hX lkX11_ok (pc' := 7) [.iload_n 1, .bipush 20] (by decide +kernel) (And.intro trivial ?_)
    refine ic_ge hX (14) 21 (by decide +kernel) (by decide) (fun c7 => ?_) (fun c7 => ?_)
    · refine bk hX lkX11_ok (pc' := 22) [.iconst (Int.negSucc 0)] (by decide +kernel) (And.intro trivial ?_)
      exact z_iret hX (by decide +kernel) rfl (rfl) (by decide) (by decide) (by
  have e : ¬ (isIn x 20 = true ∧ isIn x t.length = true) := by
    first
      | exact fun z => isIn_f1 c1 z.1
      | exact fun z => isIn_ge c7 (by decide) z.1
      | exact fun z => isIn_ge (i_nlt.mp c18) (by omega) z.2
  exact ⟨rfl, by rw [trcS, if_neg e]⟩)
    · refine bk hX lkX11_ok (pc' := 15) [.iload_n 1, .aload_n 0, .getfield 31] (by decide +kernel) (And.intro trivial ?_)
      refine z_callV hX kw_X11_266 (c_J4_length E K N Rf I L ht) rfl rfl rfl rfl rfl (by decide +kernel) (by decide) (by decide) (by decide) (by decide) (Nat.le_of_ble_eq_true rfl) ?_
      rintro _ _ ⟨rfl, rfl⟩
      refine ic_lt hX (5) 23 (by decide +kernel) (by decide) (fun c18 => ?_) (fun c18 => ?_)
      · have h2 : isIn x t.length = true := isIn_lt c1 (i_nle.mpr c18) (by omega)
        have h20 : isIn x 20 = true := isIn_lt c1 c7 (by decide)
        obtain ⟨i, hi, rfl⟩ := isIn_ex h2 (by omega)
        refine bk hX lkX11_ok (pc' := 28) [.aload_n 0, .getfield 31, .iload_n 1] (by decide +kernel) (And.intro trivial ?_)
        refine z_callV hX kw_X11_269 (c_J4_charAt E K N Rf I L ht hi) rfl rfl rfl rfl rfl (by decide +kernel) (by decide) (by decide) (by decide) (by decide) (Nat.le_of_ble_eq_true rfl) ?_
        rintro _ _ ⟨rfl, rfl⟩
        exact z_iret hX (by decide +kernel) rfl (rfl) (by decide) (by decide) (⟨rfl, by rw [trcS, if_pos ⟨h20, h2⟩, jx_nI (by omega)]⟩)
      · refine bk hX lkX11_ok (pc' := 22) [.iconst (Int.negSucc 0)] (by decide +kernel) (And.intro trivial ?_)
        exact z_iret hX (by decide +kernel) rfl (rfl) (by decide) (by decide) (by
  have e : ¬ (isIn x 20 = true ∧ isIn x t.length = true) := by
    first
      | exact fun z => isIn_f1 c1 z.1
      | exact fun z => isIn_ge c7 (by decide) z.1
      | exact fun z => isIn_ge (i_nlt.mp c18) (by omega) z.2
  exact ⟨rfl, by rw [trcS, if_neg e]⟩)
theorem c_X_count (E : zE) (K N : Nat → Nat) (Rf : Nat → Nat → Option Nat) (I : Nat → Nat → Int32) (L : Nat → Nat → Int64) {t : List Nat} (ht : xTr t I) {n m s p b f : Nat} (h0 : I 300 4 = nI n) (h1 : I 200 6 = nI m) (h2 : I 310 3 = nI s) (h3 : I 314 3 = nI p) (h4 : I 318 3 = nI b) (h5 : I 200 5 = nI f) (x : Int32) : zCt E mX11_count 2 0 0 (sg K N Rf I L) [.ref 200, .int x] (fun o σ' => σ' = (sg K N Rf I L) ∧ o = some (.int (cntS n m s p b f t.length x))) := by
  refine z_intro (by decide) (Nat.le_of_ble_eq_true rfl) (fun X hX => ?_)
  refine bk hX lkX11_ok (pc' := 1) [.iload_n 1] (by decide +kernel) (And.intro trivial ?_)
  rcases sw8 x with rfl | rfl | rfl | rfl | rfl | rfl | rfl | h7
  · refine z_tsw hX 44 (dflt := 102) (lo := 0) (hi := 6) (offs := #[43, 51, 56, 67, 78, 89, 94]) (len := 43) (off := 43) (by decide +kernel) (by decide) (by decide) ?_
    refine bk hX lkX11_ok (pc' := 51) [.aload_n 0, .getfield 12, .getfield 65] (by decide +kernel) (And.intro trivial ?_)
    exact z_iret hX (by decide +kernel) rfl (rfl) (by decide) (by decide) (⟨rfl, by rw [show cntS n m s p b f t.length (nI 0) = nI n by rw [cntS, if_pos (by decide)]; simp [show jx (nI 0) = 0 by decide]]; exact congrArg some (congrArg Value.int h0)⟩)
  · refine z_tsw hX 52 (dflt := 102) (lo := 0) (hi := 6) (offs := #[43, 51, 56, 67, 78, 89, 94]) (len := 43) (off := 51) (by decide +kernel) (by decide) (by decide) ?_
    refine bk hX lkX11_ok (pc' := 56) [.aload_n 0, .getfield 137] (by decide +kernel) (And.intro trivial ?_)
    exact z_iret hX (by decide +kernel) rfl (rfl) (by decide) (by decide) (⟨rfl, by rw [show cntS n m s p b f t.length (nI 1) = nI m by rw [cntS, if_pos (by decide)]; simp [show jx (nI 1) = 1 by decide]]; exact congrArg some (congrArg Value.int h1)⟩)
  · refine z_tsw hX 57 (dflt := 102) (lo := 0) (hi := 6) (offs := #[43, 51, 56, 67, 78, 89, 94]) (len := 43) (off := 56) (by decide +kernel) (by decide) (by decide) ?_
    refine bk hX lkX11_ok (pc' := 67) [.aload_n 0, .getfield 12, .getfield 202, .getfield 206] (by decide +kernel) (And.intro trivial ?_)
    exact z_iret hX (by decide +kernel) rfl (rfl) (by decide) (by decide) (⟨rfl, by rw [show cntS n m s p b f t.length (nI 2) = nI s by rw [cntS, if_pos (by decide)]; simp [show jx (nI 2) = 2 by decide]]; exact congrArg some (congrArg Value.int h2)⟩)
  · refine z_tsw hX 68 (dflt := 102) (lo := 0) (hi := 6) (offs := #[43, 51, 56, 67, 78, 89, 94]) (len := 43) (off := 67) (by decide +kernel) (by decide) (by decide) ?_
    refine bk hX lkX11_ok (pc' := 78) [.aload_n 0, .getfield 12, .getfield 224, .getfield 206] (by decide +kernel) (And.intro trivial ?_)
    exact z_iret hX (by decide +kernel) rfl (rfl) (by decide) (by decide) (⟨rfl, by rw [show cntS n m s p b f t.length (nI 3) = nI p by rw [cntS, if_pos (by decide)]; simp [show jx (nI 3) = 3 by decide]]; exact congrArg some (congrArg Value.int h3)⟩)
  · refine z_tsw hX 79 (dflt := 102) (lo := 0) (hi := 6) (offs := #[43, 51, 56, 67, 78, 89, 94]) (len := 43) (off := 78) (by decide +kernel) (by decide) (by decide) ?_
    refine bk hX lkX11_ok (pc' := 89) [.aload_n 0, .getfield 12, .getfield 236, .getfield 206] (by decide +kernel) (And.intro trivial ?_)
    exact z_iret hX (by decide +kernel) rfl (rfl) (by decide) (by decide) (⟨rfl, by rw [show cntS n m s p b f t.length (nI 4) = nI b by rw [cntS, if_pos (by decide)]; simp [show jx (nI 4) = 4 by decide]]; exact congrArg some (congrArg Value.int h4)⟩)
  · refine z_tsw hX 90 (dflt := 102) (lo := 0) (hi := 6) (offs := #[43, 51, 56, 67, 78, 89, 94]) (len := 43) (off := 89) (by decide +kernel) (by decide) (by decide) ?_
    refine bk hX lkX11_ok (pc' := 94) [.aload_n 0, .getfield 134] (by decide +kernel) (And.intro trivial ?_)
    exact z_iret hX (by decide +kernel) rfl (rfl) (by decide) (by decide) (⟨rfl, by rw [show cntS n m s p b f t.length (nI 5) = nI f by rw [cntS, if_pos (by decide)]; simp [show jx (nI 5) = 5 by decide]]; exact congrArg some (congrArg Value.int h5)⟩)
  · refine z_tsw hX 95 (dflt := 102) (lo := 0) (hi := 6) (offs := #[43, 51, 56, 67, 78, 89, 94]) (len := 43) (off := 94) (by decide +kernel) (by decide) (by decide) ?_
    refine bk hX lkX11_ok (pc' := 99) [.aload_n 0, .getfield 31] (by decide +kernel) (And.intro trivial ?_)
    refine z_callV hX kw_X11_266 (c_J4_length E K N Rf I L ht) rfl rfl rfl rfl rfl (by decide +kernel) (by decide) (by decide) (by decide) (by decide) (Nat.le_of_ble_eq_true rfl) ?_
    rintro _ _ ⟨rfl, rfl⟩
    exact z_iret hX (by decide +kernel) rfl (rfl) (by decide) (by decide) (⟨rfl, by rw [show cntS n m s p b f t.length (nI 6) = nI t.length by rw [cntS, if_pos (by decide)]; simp [show jx (nI 6) = 6 by decide]]⟩)
  · refine z_tsw hX 103 (dflt := 102) (lo := 0) (hi := 6) (offs := #[43, 51, 56, 67, 78, 89, 94]) (len := 43) (off := 102) (by decide +kernel) (Or.inl ⟨isIn_out (n := 6) h7, rfl⟩) (by decide) ?_
    refine bk hX lkX11_ok (pc' := 105) [.bipush (Int.negSucc 1)] (by decide +kernel) (And.intro trivial ?_)
    exact z_iret hX (by decide +kernel) rfl (rfl) (by decide) (by decide) (⟨rfl, by rw [cntS, if_neg h7]⟩)
