/-! ===== String constants ===== -/
def wsL (i : Nat) : List Nat := if i = 0 then [114, 111, 117, 110, 100, 32] else if i = 1 then [115, 111, 117, 114, 32] else if i = 2 then [103, 108, 97, 100, 32] else [112, 99, 107, 118, 104, 100]
theorem wsL_b : ∀ i, i < 4 → ∀ j, j < zlens.getD i 0 → (zbyts.getD i []).getD j 0 = nI ((wsL i).getD j 0) ∧ (wsL i).getD j 0 < 128 := by decide +kernel
theorem wsL_n : ∀ i, i < 4 → zlens.getD i 0 = (wsL i).length ∧ (wsL i).length ≤ 6 := by decide +kernel
theorem sh_0 : ∀ i, i < 4 → nI (zlens.getD i 0) >>> ((0 : Int32) &&& 31) = nI (wsL i).length := by decide +kernel
theorem c_J0_isLatin1 (E : zE) (σ : Sg) {i : Nat} (hi : i < 4) : zCt E mJ0_isLatin1_aae02 0 0 0 σ [.ref (900 + i)] (fun r σ' => σ' = σ ∧ r = some (.int (nI 1))) := by
  refine z_intro (by decide) (Nat.le_of_ble_eq_true rfl) (fun X hX => ?_)
  refine z_gets hX kg_J0_38 (by decide +kernel) ?_
  refine if_eq hX (14) 17 (by decide +kernel) (by decide) (fun c => absurd c (by decide)) (fun c_3 => ?_)
  refine bk hX lkJ0_ok (pc' := 7) [.aload_n 0] (by decide +kernel) (And.intro trivial ?_)
  refine z_scod hX hi kg_J0_15 (by decide +kernel) ?_
  refine if_ne hX (7) 17 (by decide +kernel) (by decide) (fun c => absurd (rfl) c) (fun c_10 => ?_)
  refine bk hX lkJ0_ok (pc' := 14) [.iconst 1] (by decide +kernel) (And.intro trivial ?_)
  refine gt_ hX (4) 18 (by decide +kernel) (by decide) ?_
  exact z_iret hX (by decide +kernel) rfl (rfl) (by decide) (by decide) (⟨rfl, rfl⟩)
theorem c_J0_coder (E : zE) (σ : Sg) {i : Nat} (hi : i < 4) : zCt E mJ0_coder_7d493 0 0 0 σ [.ref (900 + i)] (fun r σ' => σ' = σ ∧ r = some (.int 0)) := by
  refine z_intro (by decide) (Nat.le_of_ble_eq_true rfl) (fun X hX => ?_)
  refine z_gets hX kg_J0_38 (by decide +kernel) ?_
  refine if_eq hX (10) 13 (by decide +kernel) (by decide) (fun c => absurd c (by decide)) (fun c_3 => ?_)
  refine bk hX lkJ0_ok (pc' := 7) [.aload_n 0] (by decide +kernel) (And.intro trivial ?_)
  refine z_scod hX hi kg_J0_15 (by decide +kernel) ?_
  refine gt_ hX (4) 14 (by decide +kernel) (by decide) ?_
  exact z_iret hX (by decide +kernel) rfl (rfl) (by decide) (by decide) (⟨rfl, rfl⟩)
theorem c_J0_length (E : zE) (σ : Sg) {i : Nat} (hi : i < 4) : zCt E mJ0_length_8abf5 1 0 0 σ [.ref (900 + i)] (fun r σ' => σ' = σ ∧ r = some (.int (nI (wsL i).length))) := by
  refine z_intro (by decide) (Nat.le_of_ble_eq_true rfl) (fun X hX => ?_)
  refine bk hX lkJ0_ok (pc' := 1) [.aload_n 0] (by decide +kernel) (And.intro trivial ?_)
  refine z_sval hX hi kg_J0_9 (by decide +kernel) ?_
  refine z_slen hX hi (by decide +kernel) ?_
  refine bk hX lkJ0_ok (pc' := 6) [.aload_n 0] (by decide +kernel) (And.intro trivial ?_)
  refine z_callK hX hi kw_J0_335 (c_J0_coder E σ hi) rfl rfl rfl (by decide +kernel) (by decide) (by decide) (by decide) (by decide) (Nat.le_of_ble_eq_true rfl) ?_
  rintro _ _ ⟨rfl, rfl⟩
  refine bk hX lkJ0_ok (pc' := 10) [.ishr] (by decide +kernel) (And.intro trivial ?_)
  exact z_iret hX (by decide +kernel) rfl (rfl) (by decide) (by decide) (⟨rfl, congrArg some (congrArg Value.int (sh_0 i hi))⟩)
theorem c_J1_charAt (E : zE) (σ : Sg) {i j : Nat} (hi : i < 4) (hj : j < (wsL i).length) : zCt E mJ1_charAt_3b067 2 0 0 σ [.ref (910 + i), .int (nI j)] (fun r σ' => σ' = σ ∧ r = some (.int (nI ((wsL i).getD j 0)))) := by
  obtain ⟨n1, n2⟩ := wsL_n i hi
  obtain ⟨b1, b2⟩ := wsL_b i hi j (by rw [n1]; exact hj)
  have cj : (nI j).toNatClampNeg = j := cl (by omega)
  refine z_intro (by decide) (Nat.le_of_ble_eq_true rfl) (fun X hX => ?_)
  refine bk hX lkJ1_ok (pc' := 2) [.iload_n 1, .aload_n 0] (by decide +kernel) (And.intro trivial ?_)
  refine z_slen hX hi (by decide +kernel) ?_
  rw [n1]
  refine z_callS hX kw_J1_9 (c_J0_checkIndex E _ hj (by omega)) rfl rfl (by decide +kernel) (by decide) (by decide) (by decide) (by decide) (Nat.le_of_ble_eq_true rfl) ?_
  rintro _ _ ⟨rfl, rfl⟩
  refine bk hX lkJ1_ok (pc' := 8) [.aload_n 0, .iload_n 1] (by decide +kernel) (And.intro trivial ?_)
  refine z_sbld hX hi (by rw [n1]; exact vp_in_nI hj (by omega)) (by decide +kernel) ?_
  rw [cj, b1]
  refine bk hX lkJ1_ok (pc' := 14) [.sipush 255, .iand, .i2c] (by decide +kernel) (And.intro trivial ?_)
  rw [ca_ok _ b2]
  exact z_iret hX (by decide +kernel) rfl (nc_ok _ b2) (by decide) (by decide) (⟨rfl, rfl⟩)
theorem c_J0_charAt (E : zE) (σ : Sg) {i j : Nat} (hi : i < 4) (hj : j < (wsL i).length) : zCt E mJ0_charAt_5068e 3 0 0 σ [.ref (900 + i), .int (nI j)] (fun r σ' => σ' = σ ∧ r = some (.int (nI ((wsL i).getD j 0)))) := by
  obtain ⟨n1, n2⟩ := wsL_n i hi
  obtain ⟨b1, b2⟩ := wsL_b i hi j (by rw [n1]; exact hj)
  refine z_intro (by decide) (Nat.le_of_ble_eq_true rfl) (fun X hX => ?_)
  refine bk hX lkJ0_ok (pc' := 1) [.aload_n 0] (by decide +kernel) (And.intro trivial ?_)
  refine z_callK hX hi kw_J0_492 (c_J0_isLatin1 E σ hi) rfl rfl rfl (by decide +kernel) (by decide) (by decide) (by decide) (by decide) (Nat.le_of_ble_eq_true rfl) ?_
  rintro _ _ ⟨rfl, rfl⟩
  refine if_eq hX (12) 16 (by decide +kernel) (by decide) (fun c => absurd c (by decide)) (fun c_4 => ?_)
  refine bk hX lkJ0_ok (pc' := 8) [.aload_n 0] (by decide +kernel) (And.intro trivial ?_)
  refine z_sval hX hi kg_J0_9 (by decide +kernel) ?_
  refine bk hX lkJ0_ok (pc' := 12) [.iload_n 1] (by decide +kernel) (And.intro trivial ?_)
  refine z_callS hX kw_J0_495 (c_J1_charAt E _ hi hj) rfl rfl (by decide +kernel) (by decide) (by decide) (by decide) (by decide) (Nat.le_of_ble_eq_true rfl) ?_
  rintro _ _ ⟨rfl, rfl⟩
  exact z_iret hX (by decide +kernel) rfl (nc_ok _ b2) (by decide) (by decide) (⟨rfl, rfl⟩)
def ixL (c : Nat) : Nat → Nat → Int32
  | 0, _ => -nI 1
  | m + 1, k => if zl6 k = c then nI k else ixL c m (k + 1)
theorem ix_ok : ∀ c, c < 128 → ixL c 6 0 = plI c := by decide +kernel
theorem zl6_b : ∀ j, j < 6 → (zbyts.getD 3 []).getD j 0 = nI (zl6 j) ∧ zl6 j < 128 := by decide +kernel
theorem tb_ok : ∀ c, c < 128 → (nI c).toInt8.toInt32 = nI c := by decide +kernel
theorem c_J1_indexOfChar (E : zE) (σ : Sg) {c : Nat} (hc : c < 128) : zCt E mJ1_indexOfChar_4cfef 0 0 0 σ [.ref (910 + 3), .int (nI c), .int (nI 0), .int (nI 6)] (fun r σ' => σ' = σ ∧ r = some (.int (plI c))) := by
  refine z_intro (by decide) (Nat.le_of_ble_eq_true rfl) (fun X hX => ?_)
  have hl : ∀ m k, k + m = 6 → ixL c m k = plI c → zS X σ 0 0 7 [(0, .ref (910 + 3)), (1, .int (nI c)), (2, .int (nI 0)), (3, .int (nI 6)), (4, .int (nI c)), (5, .int (nI k))] [] := by
    intro m
    induction m with
    | zero =>
      intro k hk hf
      obtain rfl : k = 6 := by omega
      refine bk hX lkJ1_ok (pc' := 10) [.iload 5, .iload_n 3] (by decide +kernel) (And.intro trivial ?_)
      refine ic_ge hX (21) 31 (by decide +kernel) (by decide) (fun c_10 => ?_) (fun c => absurd (by decide) c)
      refine bk hX lkJ1_ok (pc' := 32) [.iconst (Int.negSucc 0)] (by decide +kernel) (And.intro trivial ?_)
      exact z_iret hX (by decide +kernel) rfl (rfl) (by decide) (by decide) (by rw [← hf]; exact ⟨rfl, rfl⟩)
    | succ m ih =>
      intro k hk hf
      have hf' : (if zl6 k = c then nI k else ixL c m (k + 1)) = plI c := hf
      obtain ⟨z1, z2⟩ := zl6_b k (by omega)
      have ck : (nI k).toNatClampNeg = k := cl (by omega)
      refine bk hX lkJ1_ok (pc' := 10) [.iload 5, .iload_n 3] (by decide +kernel) (And.intro trivial ?_)
      refine ic_ge hX (21) 31 (by decide +kernel) (by decide) (fun c => absurd c (nI_ge (a := k) (b := 6) (by omega) (by decide))) (fun c_10 => ?_)
      refine bk hX lkJ1_ok (pc' := 16) [.aload_n 0, .iload 5] (by decide +kernel) (And.intro trivial ?_)
      refine z_sbld hX (i := 3) (by decide) (vp_in_nI (show k < 6 by omega) (by decide)) (by decide +kernel) ?_
      rw [ck, z1]
      refine bk hX lkJ1_ok (pc' := 19) [.iload 4] (by decide +kernel) (And.intro trivial ?_)
      refine ic_ne hX (6) 25 (by decide +kernel) (by decide) (fun c19 => ?_) (fun c19 => ?_)
      · refine bk hX lkJ1_ok (pc' := 28) [.iinc 5 1] (by decide +kernel) (And.intro trivial ?_)
        refine gt_ hX (-21) 7 (by decide +kernel) (by decide) ?_
        refine z_lvk (lv' := [(0, _), (1, _), (2, _), (3, _), (4, _), (5, _)]) [1, 2, 3, 4, 5, 0] rfl ?_
        rw [if_neg (fun z => c19 (by rw [z]))] at hf'
        rw [nI_add]
        exact ih (k + 1) (by omega) hf'
      · refine bk hX lkJ1_ok (pc' := 24) [.iload 5] (by decide +kernel) (And.intro trivial ?_)
        exact z_iret hX (by decide +kernel) rfl (rfl) (by decide) (by decide) (by rw [if_pos (nI_inj (by omega) (by omega) c19)] at hf'; rw [← hf']; exact ⟨rfl, rfl⟩)
  refine bk hX lkJ1_ok (pc' := 7) [.iload_n 1, .i2b, .istore 4, .iload_n 2, .istore 5] (by decide +kernel) (And.intro trivial ?_)
  refine z_lvk (lv' := [(0, _), (1, _), (2, _), (3, _), (4, _), (5, _)]) [2, 3, 4, 5, 1, 0] rfl ?_
  rw [tb_ok c hc]
  exact hl 6 0 (by omega) (ix_ok c hc)
theorem c_J1_canEncodeI (E : zE) (σ : Sg) {x : Nat} (hx : x < 128) : zCt E mJ1_canEncode_9a6ad 0 0 0 σ [.int (nI x)] (fun r σ' => σ' = σ ∧ r = some (.int (nI 1))) := by
  refine z_intro (by decide) (Nat.le_of_ble_eq_true rfl) (fun X hX => ?_)
  refine bk hX lkJ1_ok (pc' := 1) [.iload_n 0] (by decide +kernel) (And.intro trivial ?_)
  refine if_lt hX (14) 15 (by decide +kernel) (by decide) (fun c => absurd c (nI_nn (by omega))) (fun c_1 => ?_)
  refine bk hX lkJ1_ok (pc' := 8) [.iload_n 0, .sipush 255] (by decide +kernel) (And.intro trivial ?_)
  refine ic_gt hX (7) 15 (by decide +kernel) (by decide) (fun c => absurd c (fun z => absurd ((nI_ltI (a := 255) (b := x) (by decide) (by omega)).mp z) (by omega))) (fun c_8 => ?_)
  refine bk hX lkJ1_ok (pc' := 12) [.iconst 1] (by decide +kernel) (And.intro trivial ?_)
  refine gt_ hX (4) 16 (by decide +kernel) (by decide) ?_
  exact z_iret hX (by decide +kernel) rfl (rfl) (by decide) (by decide) (⟨rfl, rfl⟩)
theorem c_J1_indexOf (E : zE) (σ : Sg) {c : Nat} (hc : c < 128) : zCt E mJ1_indexOf_4cfef 1 0 0 σ [.ref (910 + 3), .int (nI c), .int (nI 0), .int (nI 6)] (fun r σ' => σ' = σ ∧ r = some (.int (plI c))) := by
  have e1 : (if nI 0 < nI 0 then nI 0 else nI 0) = nI 0 := by decide
  have e2 : (if nI (zlens.getD 3 0) < nI 6 then nI (zlens.getD 3 0) else nI 6) = nI 6 := by decide +kernel
  refine z_intro (by decide) (Nat.le_of_ble_eq_true rfl) (fun X hX => ?_)
  refine bk hX lkJ1_ok (pc' := 1) [.iload_n 1] (by decide +kernel) (And.intro trivial ?_)
  refine z_callS hX kw_J1_88 (c_J1_canEncodeI E _ hc) rfl rfl (by decide +kernel) (by decide) (by decide) (by decide) (by decide) (Nat.le_of_ble_eq_true rfl) ?_
  rintro _ _ ⟨rfl, rfl⟩
  refine if_ne hX (5) 9 (by decide +kernel) (by decide) (fun c_4 => ?_) (fun c => absurd c (by decide))
  refine bk hX lkJ1_ok (pc' := 11) [.iload_n 2, .iconst 0] (by decide +kernel) (And.intro trivial ?_)
  refine z_mmax hX km_J1_92 (by decide) (Nat.le_of_ble_eq_true rfl) (by decide) (by decide) (by decide +kernel) ?_
  rw [e1]
  refine bk hX lkJ1_ok (pc' := 17) [.istore_n 2, .iload_n 3, .aload_n 0] (by decide +kernel) (And.intro trivial ?_)
  refine z_slen hX (i := 3) (by decide) (by decide +kernel) ?_
  refine z_mmin hX kn_J1_38 (by decide) (Nat.le_of_ble_eq_true rfl) (by decide) (by decide) (by decide +kernel) ?_
  rw [e2]
  refine bk hX lkJ1_ok (pc' := 24) [.istore_n 3, .iload_n 2, .iload_n 3] (by decide +kernel) (And.intro trivial ?_)
  refine ic_lt hX (5) 29 (by decide +kernel) (by decide) (fun c_24 => ?_) (fun c => absurd (by decide) c)
  refine bk hX lkJ1_ok (pc' := 33) [.aload_n 0, .iload_n 1, .iload_n 2, .iload_n 3] (by decide +kernel) (And.intro trivial ?_)
  refine z_callS hX kw_J1_95 (c_J1_indexOfChar E _ hc) rfl rfl (by decide +kernel) (by decide) (by decide) (by decide) (by decide) (Nat.le_of_ble_eq_true rfl) ?_
  rintro _ _ ⟨rfl, rfl⟩
  exact z_iret hX (by decide +kernel) rfl (rfl) (by decide) (by decide) (⟨rfl, rfl⟩)
theorem c_J0_indexOfII (E : zE) (σ : Sg) {c : Nat} (hc : c < 128) : zCt E mJ0_indexOf_7cf53 2 0 0 σ [.ref (900 + 3), .int (nI c), .int (nI 0)] (fun r σ' => σ' = σ ∧ r = some (.int (plI c))) := by
  refine z_intro (by decide) (Nat.le_of_ble_eq_true rfl) (fun X hX => ?_)
  refine bk hX lkJ0_ok (pc' := 1) [.aload_n 0] (by decide +kernel) (And.intro trivial ?_)
  refine z_callK hX (i := 3) (by decide) kw_J0_492 (c_J0_isLatin1 E σ (i := 3) (by decide)) rfl rfl rfl (by decide +kernel) (by decide) (by decide) (by decide) (by decide) (Nat.le_of_ble_eq_true rfl) ?_
  rintro _ _ ⟨rfl, rfl⟩
  refine if_eq hX (19) 23 (by decide +kernel) (by decide) (fun c => absurd c (by decide)) (fun c_4 => ?_)
  refine bk hX lkJ0_ok (pc' := 8) [.aload_n 0] (by decide +kernel) (And.intro trivial ?_)
  refine z_sval hX (i := 3) (by decide) kg_J0_9 (by decide +kernel) ?_
  refine bk hX lkJ0_ok (pc' := 14) [.iload_n 1, .iload_n 2, .aload_n 0] (by decide +kernel) (And.intro trivial ?_)
  refine z_callK hX (i := 3) (by decide) kw_J0_505 (c_J0_length E _ (i := 3) (by decide)) rfl rfl rfl (by decide +kernel) (by decide) (by decide) (by decide) (by decide) (Nat.le_of_ble_eq_true rfl) ?_
  rintro _ _ ⟨rfl, rfl⟩
  rw [show nI (wsL 3).length = nI 6 from rfl]
  refine z_callS hX kw_J0_637 (c_J1_indexOf E _ hc) rfl rfl (by decide +kernel) (by decide) (by decide) (by decide) (by decide) (Nat.le_of_ble_eq_true rfl) ?_
  rintro _ _ ⟨rfl, rfl⟩
  refine gt_ hX (16) 36 (by decide +kernel) (by decide) ?_
  exact z_iret hX (by decide +kernel) rfl (rfl) (by decide) (by decide) (⟨rfl, rfl⟩)
theorem c_J0_indexOf (E : zE) (σ : Sg) {c : Nat} (hc : c < 128) : zCt E mJ0_indexOf_0f7a4 3 0 0 σ [.ref (900 + 3), .int (nI c)] (fun r σ' => σ' = σ ∧ r = some (.int (plI c))) := by
  refine z_intro (by decide) (Nat.le_of_ble_eq_true rfl) (fun X hX => ?_)
  refine bk hX lkJ0_ok (pc' := 3) [.aload_n 0, .iload_n 1, .iconst 0] (by decide +kernel) (And.intro trivial ?_)
  refine z_callK hX (i := 3) (by decide) kw_J0_633 (c_J0_indexOfII E _ hc) rfl rfl rfl (by decide +kernel) (by decide) (by decide) (by decide) (by decide) (Nat.le_of_ble_eq_true rfl) ?_
  rintro _ _ ⟨rfl, rfl⟩
  exact z_iret hX (by decide +kernel) rfl (rfl) (by decide) (by decide) (⟨rfl, rfl⟩)
