/-! ===== the reader: tests, factors, sums ===== -/
def rsP (rd wo a b c : Nat) (t : List Nat) (I0 : Nat → Nat → Int32) (r : Nat) (ss : List Spt) (v : Option Value) (I' : Nat → Nat → Int32) : Rs → Prop
  | (none, q) => v = some (.int 0) ∧ ∃ ss', rdI rd wo a b c t I0 I' q ss' r
  | (some ts, q) => v = some (.int 1) ∧ rdI rd wo a b c t I0 I' q (ss ++ ts.map stT) r
theorem i2c_ok : ∀ j, j < 128 → ((nI j).toUInt32 % 65536).toInt32 = nI j := by decide +kernel
theorem plI_nn : ∀ c, c < 128 → (0 ≤ plI c ↔ ¬ plc c = 9) := by decide +kernel
theorem plc_zl : ∀ c, c < 128 → ¬ plc c = 9 → zl6 (plc c) = c ∧ plc c ≤ 5 := by decide +kernel
theorem stT_tk {f s n c : Nat} (hs : 60 ≤ s ∧ s ≤ 62) (hn : n ≤ 99) (hf : zl6 f = c) : stT (10 + (1000 * f + 100 * (s - 60) + n)) = (s, c, n) := by
  unfold stT
  rw [if_neg (by omega), if_neg (by omega), if_neg (by omega), Nat.add_sub_cancel_left]
  have e1 : (1000 * f + 100 * (s - 60) + n) / 100 % 10 = s - 60 := by omega
  have e2 : (1000 * f + 100 * (s - 60) + n) / 1000 = f := by omega
  have e3 : (1000 * f + 100 * (s - 60) + n) % 100 = n := by omega
  rw [e1, e2, e3, hf]
  congr 1
  omega
theorem nxI_in {t : List Nat} {p : Nat} (h : p < t.length) (ht : txw t) : nxI (nx t p) = nI (nx t p) := if_neg (by have := nx_lt ht h; omega)
theorem nxI_end {t : List Nat} {p : Nat} (ht : txw t) (hp : p ≤ t.length) : nxI (nx t p) = -nI 1 ↔ ¬ p < t.length := by
  constructor
  · intro z h
    rw [nxI_in h ht] at z
    have := nx_lt ht h
    have := congrArg Int32.toInt z
    rw [nI_toInt (by omega), show (-nI 1).toInt = -1 by decide] at this
    omega
  · intro h
    rw [nx_end h]
    rfl
theorem c_R_test (E : zE) (K N : Nat → Nat) (Rf : Nat → Nat → Option Nat) (I : Nat → Nat → Int32) (L : Nat → Nat → Int64) {I0 : Nat → Nat → Int32} {rd wo a b c : Nat} {t : List Nat} (ht : txw t) (hF : rdF rd wo a b c t K N Rf) (hT : ∀ k, k < t.length → I0 205 k = nI (t.getD k 0)) {p r : Nat} {ss : List Spt} (h : rdI rd wo a b c t I0 I p ss r) (hp : p ≤ t.length) (hss : ss.length ≤ p) : zCt E mX7_isTest 4 0 0 (sg K N Rf I L) [.ref rd] (fun v σ' => ∃ I', σ' = sg K N Rf I' L ∧ rsP rd wo a b c t I0 r ss v I' (pTs t p)) := by
  refine z_intro (by decide) (Nat.le_of_ble_eq_true rfl) (fun X hX => ?_)
  refine bk hX lkX7_ok (pc' := 1) [.aload_n 0] (by decide +kernel) (And.intro trivial ?_)
  refine z_callV hX kw_X7_39 (c_R_sign E K N Rf I L ht hF hT h hp) rfl rfl (rd_k hF I L) rfl rfl (by decide +kernel) (by decide) (by decide) (by decide) (by decide) (Nat.le_of_ble_eq_true rfl) ?_
  rintro _ _ ⟨rfl, rfl⟩
  refine bk hX lkX7_ok (pc' := 7) [.istore_n 1, .iload_n 1, .iconst (Int.negSucc 0)] (by decide +kernel) (And.intro trivial ?_)
  refine ic_eq hX (13) 20 (by decide +kernel) (by decide) (fun c7 => ?_) (fun c7 => ?_)
  · refine bk hX lkX7_ok (pc' := 21) [.iconst 0] (by decide +kernel) (And.intro trivial ?_)
    exact z_iret hX (by decide +kernel) rfl (rfl) (by decide) (by decide) (by
  have e : plc (nx t p) = 9 := by
    first
      | exact Decidable.byContradiction (fun z => c17 ((plI_nn _ hc8).mpr z))
      | (rw [nx_end ((nxI_end ht hp).mp c7)]; rfl)
  rw [pTs, if_pos e]
  exact ⟨I, rfl, rfl, ss, h⟩)
  · have hp2 : p < t.length := Decidable.byContradiction (fun z => c7 ((nxI_end ht hp).mpr z))
    have hc8 : nx t p < 128 := nx_lt ht hp2
    rw [nxI_in hp2 ht]
    refine z_ldcS hX rfl (i := 3) (Or.inr (Or.inr (Or.inr ⟨rfl, rfl⟩))) (by decide +kernel) ?_
    refine bk hX lkX7_ok (pc' := 14) [.iload_n 1, .i2c] (by decide +kernel) (And.intro trivial ?_)
    rw [i2c_ok _ hc8]
    refine z_callK hX (i := 3) (by decide) kw_X7_75 (c_J0_indexOf E _ (c := nx t p) hc8) rfl rfl rfl (by decide +kernel) (by decide) (by decide) (by decide) (by decide) (Nat.le_of_ble_eq_true rfl) ?_
    rintro _ _ ⟨rfl, rfl⟩
    refine if_ge hX (5) 22 (by decide +kernel) (by decide) (fun c17 => ?_) (fun c17 => ?_)
    · have e9 := (plI_nn _ hc8).mp c17
      obtain ⟨el, e5⟩ := plc_zl _ hc8 e9
      have h2 := rdI_at hF h (p + 1)
      refine bk hX lkX7_ok (pc' := 24) [.aload_n 0, .dup] (by decide +kernel) (And.intro trivial ?_)
      refine z_gIv hX lkX7_ok 32 8 3 (fun k h => h) (by decide) (rd_k hF I L) (by decide +kernel) (h.2.2.1) ?_
      refine bk hX lkX7_ok (pc' := 29) [.iconst 1, .iadd] (by decide +kernel) (And.intro trivial ?_)
      rw [nI_add]
      refine z_pI hX lkX7_ok (z_no _ _) 32 8 3 (fun k h => h) rfl (rd_k hF I L) (by decide +kernel) ?_
      show zS _ (sg K N Rf _ L) _ _ _ _ _
      refine bk hX lkX7_ok (pc' := 33) [.aload_n 0] (by decide +kernel) (And.intro trivial ?_)
      refine z_callV hX kw_X7_39 (c_R_sign E K N Rf _ L ht hF hT h2 hp2) rfl rfl (rd_k hF _ L) rfl rfl (by decide +kernel) (by decide) (by decide) (by decide) (by decide) (Nat.le_of_ble_eq_true rfl) ?_
      rintro _ _ ⟨rfl, rfl⟩
      refine bk hX lkX7_ok (pc' := 40) [.istore_n 2, .iload_n 2, .bipush 60] (by decide +kernel) (And.intro trivial ?_)
      refine ic_eq hX (17) 57 (by decide +kernel) (by decide) (fun c40 => ?_) (fun c40 => ?_)
      · have hs : 60 ≤ nx t (p + 1) ∧ nx t (p + 1) ≤ 62 := by
          have z : nx t (p + 1) = 60 ∨ nx t (p + 1) = 61 ∨ nx t (p + 1) = 62 := by
            first
              | exact Or.inr (Or.inr ((nxI_eq (nx_le ht (p + 1)) (by decide)).mp c52))
              | exact Or.inr (Or.inl ((nxI_eq (nx_le ht (p + 1)) (by decide)).mp c46))
              | exact Or.inl ((nxI_eq (nx_le ht (p + 1)) (by decide)).mp c40)
          omega
        have hp3 : p + 1 < t.length := nx_in (c := nx t (p + 1)) rfl (by omega)
        have h3 := rdI_at hF h2 (p + 2)
        rw [nxI_in hp3 ht]
        refine bk hX lkX7_ok (pc' := 59) [.aload_n 0, .dup] (by decide +kernel) (And.intro trivial ?_)
        refine z_gIv hX lkX7_ok 32 8 3 (fun k h => h) (by decide) (rd_k hF _ L) (by decide +kernel) (h2.2.2.1) ?_
        refine bk hX lkX7_ok (pc' := 64) [.iconst 1, .iadd] (by decide +kernel) (And.intro trivial ?_)
        rw [nI_add]
        refine z_pI hX lkX7_ok (z_no _ _) 32 8 3 (fun k h => h) rfl (rd_k hF _ L) (by decide +kernel) ?_
        show zS _ (sg K N Rf _ L) _ _ _ _ _
        refine bk hX lkX7_ok (pc' := 68) [.aload_n 0] (by decide +kernel) (And.intro trivial ?_)
        refine z_callV hX kw_X7_53 (c_R_number E K N Rf _ L ht hF hT h3 hp3) rfl rfl (rd_k hF _ L) rfl rfl (by decide +kernel) (by decide) (by decide) (by decide) (by decide) (Nat.le_of_ble_eq_true rfl) ?_
        rintro _ _ ⟨I3, rfl, rfl, y3⟩
        generalize hn : pNm t (p + 2) = res at y3 ⊢
        obtain ⟨_ | n, q⟩ := res
        · refine bk hX lkX7_ok (pc' := 73) [.istore_n 3, .iload_n 3] (by decide +kernel) (And.intro trivial ?_)
          refine if_ge hX (5) 78 (by decide +kernel) (by decide) (fun c => absurd c (show ¬ (0 : Int32) ≤ -nI 1 by decide)) (fun c_73 => ?_)
          refine bk hX lkX7_ok (pc' := 77) [.iconst 0] (by decide +kernel) (And.intro trivial ?_)
          exact z_iret hX (by decide +kernel) rfl (rfl) (by decide) (by decide) (by
  rw [pTs, if_neg e9, if_pos hs, hn]
  exact ⟨I3, rfl, rfl, ss, y3⟩)
        · have hn99 := pNm_ok hn
          refine bk hX lkX7_ok (pc' := 73) [.istore_n 3, .iload_n 3] (by decide +kernel) (And.intro trivial ?_)
          refine if_ge hX (5) 78 (by decide +kernel) (by decide) (fun c_73 => ?_) (fun c => absurd (i_nlt.mp (nI_nn (show n < 2 ^ 31 by omega))) c)
          refine bk hX lkX7_ok (pc' := 79) [.aload_n 0] (by decide +kernel) (And.intro trivial ?_)
          refine z_gR hX lkX7_ok 24 8 2 (fun k h => h) (rd_k hF _ L) (rd_2 hF _ L) (by decide +kernel) ?_
          refine bk hX lkX7_ok (pc' := 85) [.iload_n 2, .iload_n 1, .iload_n 3] (by decide +kernel) (And.intro trivial ?_)
          refine z_callV hX kw_X7_63 (c_R_add E K N Rf I3 L ht hF y3 (by omega) (nx t (p + 1)) (nx t p) n) rfl rfl (wo_k hF _ L) rfl rfl (by decide +kernel) (by decide) (by decide) (by decide) (by decide) (Nat.le_of_ble_eq_true rfl) ?_
          rintro _ _ ⟨I4, rfl, rfl, y4⟩
          refine bk hX lkX7_ok (pc' := 89) [.iconst 1] (by decide +kernel) (And.intro trivial ?_)
          exact z_iret hX (by decide +kernel) rfl (rfl) (by decide) (by decide) (by
  rw [pTs, if_neg e9, if_pos hs, hn]
  refine ⟨I4, rfl, rfl, ?_⟩
  rw [List.map_cons, List.map_nil, stT_tk hs hn99.1 el]
  exact y4)
      · refine bk hX lkX7_ok (pc' := 46) [.iload_n 2, .bipush 61] (by decide +kernel) (And.intro trivial ?_)
        refine ic_eq hX (11) 57 (by decide +kernel) (by decide) (fun c46 => ?_) (fun c46 => ?_)
        · have hs : 60 ≤ nx t (p + 1) ∧ nx t (p + 1) ≤ 62 := by
            have z : nx t (p + 1) = 60 ∨ nx t (p + 1) = 61 ∨ nx t (p + 1) = 62 := by
              first
                | exact Or.inr (Or.inr ((nxI_eq (nx_le ht (p + 1)) (by decide)).mp c52))
                | exact Or.inr (Or.inl ((nxI_eq (nx_le ht (p + 1)) (by decide)).mp c46))
                | exact Or.inl ((nxI_eq (nx_le ht (p + 1)) (by decide)).mp c40)
            omega
          have hp3 : p + 1 < t.length := nx_in (c := nx t (p + 1)) rfl (by omega)
          have h3 := rdI_at hF h2 (p + 2)
          rw [nxI_in hp3 ht]
          refine bk hX lkX7_ok (pc' := 59) [.aload_n 0, .dup] (by decide +kernel) (And.intro trivial ?_)
          refine z_gIv hX lkX7_ok 32 8 3 (fun k h => h) (by decide) (rd_k hF _ L) (by decide +kernel) (h2.2.2.1) ?_
          refine bk hX lkX7_ok (pc' := 64) [.iconst 1, .iadd] (by decide +kernel) (And.intro trivial ?_)
          rw [nI_add]
          refine z_pI hX lkX7_ok (z_no _ _) 32 8 3 (fun k h => h) rfl (rd_k hF _ L) (by decide +kernel) ?_
          show zS _ (sg K N Rf _ L) _ _ _ _ _
          refine bk hX lkX7_ok (pc' := 68) [.aload_n 0] (by decide +kernel) (And.intro trivial ?_)
          refine z_callV hX kw_X7_53 (c_R_number E K N Rf _ L ht hF hT h3 hp3) rfl rfl (rd_k hF _ L) rfl rfl (by decide +kernel) (by decide) (by decide) (by decide) (by decide) (Nat.le_of_ble_eq_true rfl) ?_
          rintro _ _ ⟨I3, rfl, rfl, y3⟩
          generalize hn : pNm t (p + 2) = res at y3 ⊢
          obtain ⟨_ | n, q⟩ := res
          · refine bk hX lkX7_ok (pc' := 73) [.istore_n 3, .iload_n 3] (by decide +kernel) (And.intro trivial ?_)
            refine if_ge hX (5) 78 (by decide +kernel) (by decide) (fun c => absurd c (show ¬ (0 : Int32) ≤ -nI 1 by decide)) (fun c_73 => ?_)
            refine bk hX lkX7_ok (pc' := 77) [.iconst 0] (by decide +kernel) (And.intro trivial ?_)
            exact z_iret hX (by decide +kernel) rfl (rfl) (by decide) (by decide) (by
  rw [pTs, if_neg e9, if_pos hs, hn]
  exact ⟨I3, rfl, rfl, ss, y3⟩)
          · have hn99 := pNm_ok hn
            refine bk hX lkX7_ok (pc' := 73) [.istore_n 3, .iload_n 3] (by decide +kernel) (And.intro trivial ?_)
            refine if_ge hX (5) 78 (by decide +kernel) (by decide) (fun c_73 => ?_) (fun c => absurd (i_nlt.mp (nI_nn (show n < 2 ^ 31 by omega))) c)
            refine bk hX lkX7_ok (pc' := 79) [.aload_n 0] (by decide +kernel) (And.intro trivial ?_)
            refine z_gR hX lkX7_ok 24 8 2 (fun k h => h) (rd_k hF _ L) (rd_2 hF _ L) (by decide +kernel) ?_
            refine bk hX lkX7_ok (pc' := 85) [.iload_n 2, .iload_n 1, .iload_n 3] (by decide +kernel) (And.intro trivial ?_)
            refine z_callV hX kw_X7_63 (c_R_add E K N Rf I3 L ht hF y3 (by omega) (nx t (p + 1)) (nx t p) n) rfl rfl (wo_k hF _ L) rfl rfl (by decide +kernel) (by decide) (by decide) (by decide) (by decide) (Nat.le_of_ble_eq_true rfl) ?_
            rintro _ _ ⟨I4, rfl, rfl, y4⟩
            refine bk hX lkX7_ok (pc' := 89) [.iconst 1] (by decide +kernel) (And.intro trivial ?_)
            exact z_iret hX (by decide +kernel) rfl (rfl) (by decide) (by decide) (by
  rw [pTs, if_neg e9, if_pos hs, hn]
  refine ⟨I4, rfl, rfl, ?_⟩
  rw [List.map_cons, List.map_nil, stT_tk hs hn99.1 el]
  exact y4)
        · refine bk hX lkX7_ok (pc' := 52) [.iload_n 2, .bipush 62] (by decide +kernel) (And.intro trivial ?_)
          refine ic_eq hX (5) 57 (by decide +kernel) (by decide) (fun c52 => ?_) (fun c52 => ?_)
          · have hs : 60 ≤ nx t (p + 1) ∧ nx t (p + 1) ≤ 62 := by
              have z : nx t (p + 1) = 60 ∨ nx t (p + 1) = 61 ∨ nx t (p + 1) = 62 := by
                first
                  | exact Or.inr (Or.inr ((nxI_eq (nx_le ht (p + 1)) (by decide)).mp c52))
                  | exact Or.inr (Or.inl ((nxI_eq (nx_le ht (p + 1)) (by decide)).mp c46))
                  | exact Or.inl ((nxI_eq (nx_le ht (p + 1)) (by decide)).mp c40)
              omega
            have hp3 : p + 1 < t.length := nx_in (c := nx t (p + 1)) rfl (by omega)
            have h3 := rdI_at hF h2 (p + 2)
            rw [nxI_in hp3 ht]
            refine bk hX lkX7_ok (pc' := 59) [.aload_n 0, .dup] (by decide +kernel) (And.intro trivial ?_)
            refine z_gIv hX lkX7_ok 32 8 3 (fun k h => h) (by decide) (rd_k hF _ L) (by decide +kernel) (h2.2.2.1) ?_
            refine bk hX lkX7_ok (pc' := 64) [.iconst 1, .iadd] (by decide +kernel) (And.intro trivial ?_)
            rw [nI_add]
            refine z_pI hX lkX7_ok (z_no _ _) 32 8 3 (fun k h => h) rfl (rd_k hF _ L) (by decide +kernel) ?_
            show zS _ (sg K N Rf _ L) _ _ _ _ _
            refine bk hX lkX7_ok (pc' := 68) [.aload_n 0] (by decide +kernel) (And.intro trivial ?_)
            refine z_callV hX kw_X7_53 (c_R_number E K N Rf _ L ht hF hT h3 hp3) rfl rfl (rd_k hF _ L) rfl rfl (by decide +kernel) (by decide) (by decide) (by decide) (by decide) (Nat.le_of_ble_eq_true rfl) ?_
            rintro _ _ ⟨I3, rfl, rfl, y3⟩
            generalize hn : pNm t (p + 2) = res at y3 ⊢
            obtain ⟨_ | n, q⟩ := res
            · refine bk hX lkX7_ok (pc' := 73) [.istore_n 3, .iload_n 3] (by decide +kernel) (And.intro trivial ?_)
              refine if_ge hX (5) 78 (by decide +kernel) (by decide) (fun c => absurd c (show ¬ (0 : Int32) ≤ -nI 1 by decide)) (fun c_73 => ?_)
              refine bk hX lkX7_ok (pc' := 77) [.iconst 0] (by decide +kernel) (And.intro trivial ?_)
              exact z_iret hX (by decide +kernel) rfl (rfl) (by decide) (by decide) (by
  rw [pTs, if_neg e9, if_pos hs, hn]
  exact ⟨I3, rfl, rfl, ss, y3⟩)
            · have hn99 := pNm_ok hn
              refine bk hX lkX7_ok (pc' := 73) [.istore_n 3, .iload_n 3] (by decide +kernel) (And.intro trivial ?_)
              refine if_ge hX (5) 78 (by decide +kernel) (by decide) (fun c_73 => ?_) (fun c => absurd (i_nlt.mp (nI_nn (show n < 2 ^ 31 by omega))) c)
              refine bk hX lkX7_ok (pc' := 79) [.aload_n 0] (by decide +kernel) (And.intro trivial ?_)
              refine z_gR hX lkX7_ok 24 8 2 (fun k h => h) (rd_k hF _ L) (rd_2 hF _ L) (by decide +kernel) ?_
              refine bk hX lkX7_ok (pc' := 85) [.iload_n 2, .iload_n 1, .iload_n 3] (by decide +kernel) (And.intro trivial ?_)
              refine z_callV hX kw_X7_63 (c_R_add E K N Rf I3 L ht hF y3 (by omega) (nx t (p + 1)) (nx t p) n) rfl rfl (wo_k hF _ L) rfl rfl (by decide +kernel) (by decide) (by decide) (by decide) (by decide) (Nat.le_of_ble_eq_true rfl) ?_
              rintro _ _ ⟨I4, rfl, rfl, y4⟩
              refine bk hX lkX7_ok (pc' := 89) [.iconst 1] (by decide +kernel) (And.intro trivial ?_)
              exact z_iret hX (by decide +kernel) rfl (rfl) (by decide) (by decide) (by
  rw [pTs, if_neg e9, if_pos hs, hn]
  refine ⟨I4, rfl, rfl, ?_⟩
  rw [List.map_cons, List.map_nil, stT_tk hs hn99.1 el]
  exact y4)
          · refine bk hX lkX7_ok (pc' := 56) [.iconst 0] (by decide +kernel) (And.intro trivial ?_)
            exact z_iret hX (by decide +kernel) rfl (rfl) (by decide) (by decide) (by
  have e : ¬ (60 ≤ nx t (p + 1) ∧ nx t (p + 1) ≤ 62) := by
    intro z
    have z1 : ¬ nx t (p + 1) = 60 := fun q => c40 ((nxI_eq (nx_le ht (p + 1)) (by decide)).mpr q)
    have z2 : ¬ nx t (p + 1) = 61 := fun q => c46 ((nxI_eq (nx_le ht (p + 1)) (by decide)).mpr q)
    have z3 : ¬ nx t (p + 1) = 62 := fun q => c52 ((nxI_eq (nx_le ht (p + 1)) (by decide)).mpr q)
    omega
  rw [pTs, if_neg e9, if_neg e]
  exact ⟨_, rfl, rfl, ss, h2⟩)
    · refine bk hX lkX7_ok (pc' := 21) [.iconst 0] (by decide +kernel) (And.intro trivial ?_)
      exact z_iret hX (by decide +kernel) rfl (rfl) (by decide) (by decide) (by
  have e : plc (nx t p) = 9 := by
    first
      | exact Decidable.byContradiction (fun z => c17 ((plI_nn _ hc8).mpr z))
      | (rw [nx_end ((nxI_end ht hp).mp c7)]; rfl)
  rw [pTs, if_pos e]
  exact ⟨I, rfl, rfl, ss, h⟩)
theorem pFa_33n {Q d p b : Nat} {t : List Nat} (h : nx t p = 33) (e : pFa Q t d (p + 1) = (none, b)) : pFa Q t (d + 1) p = (none, b) := by
  rw [pFa, if_pos h, e]
theorem pFa_33s {Q d p b : Nat} {t ts : List Nat} (h : nx t p = 33) (e : pFa Q t d (p + 1) = (some ts, b)) : pFa Q t (d + 1) p = (some (ts ++ [0]), b) := by
  rw [pFa, if_pos h, e]
theorem pFa_40n {Q d p b : Nat} {t : List Nat} (h : nx t p = 40) (e : pEi Q t d (p + 1) = (none, b)) : pFa Q t (d + 1) p = (none, b) := by
  unfold pEi at e
  rw [pFa, if_neg (by omega), if_pos h, e]
theorem pFa_40f {Q d p b : Nat} {t ts : List Nat} (h : nx t p = 40) (e : pEi Q t d (p + 1) = (some ts, b)) (h2 : ¬ nx t b = 41) : pFa Q t (d + 1) p = (none, b) := by
  unfold pEi at e
  rw [pFa, if_neg (by omega), if_pos h, e]
  exact if_neg h2
theorem pFa_40t {Q d p b : Nat} {t ts : List Nat} (h : nx t p = 40) (e : pEi Q t d (p + 1) = (some ts, b)) (h2 : nx t b = 41) : pFa Q t (d + 1) p = (some ts, b + 1) := by
  unfold pEi at e
  rw [pFa, if_neg (by omega), if_pos h, e]
  exact if_pos h2
theorem pFa_ts {Q d p : Nat} {t : List Nat} (h : ¬ nx t p = 33) (h2 : ¬ nx t p = 40) : pFa Q t d p = pTs t p := by
  cases d with
  | zero => rw [pFa, if_neg (fun z => z.elim h h2)]
  | succ d => rw [pFa, if_neg h, if_neg h2]
theorem eL_no {t : List Nat} {F : Nat → Rs} {k a b : Nat} {o n : Bool} {acc : List Nat} (e : F a = (none, b)) : eL t F (k + 1) o n a acc = (none, b) := by
  rw [eL, e]
theorem eL_and {t us : List Nat} {F : Nat → Rs} {k a b : Nat} {o n : Bool} {acc : List Nat} (e : F a = (some us, b)) (h : nx t b = 38) : eL t F (k + 1) o n a acc = eL t F k o true (b + 1) (acc ++ us ++ (if n = true then [1] else [])) := by
  rw [eL, e]
  exact if_pos h
theorem eL_or {t us : List Nat} {F : Nat → Rs} {k a b : Nat} {o n : Bool} {acc : List Nat} (e : F a = (some us, b)) (h : ¬ nx t b = 38) (h2 : nx t b = 124) : eL t F (k + 1) o n a acc = eL t F k true false (b + 1) (acc ++ us ++ (if n = true then [1] else []) ++ (if o = true then [2] else [])) := by
  rw [eL, e]
  exact (if_neg h).trans (if_pos h2)
theorem eL_end {t us : List Nat} {F : Nat → Rs} {k a b : Nat} {o n : Bool} {acc : List Nat} (e : F a = (some us, b)) (h : ¬ nx t b = 38) (h2 : ¬ nx t b = 124) : eL t F (k + 1) o n a acc = (some (acc ++ us ++ (if n = true then [1] else []) ++ (if o = true then [2] else [])), b) := by
  rw [eL, e]
  exact (if_neg h).trans (if_neg h2)
def cFa (E : zE) (K N : Nat → Nat) (Rf : Nat → Nat → Option Nat) (L : Nat → Nat → Int64) (I0 : Nat → Nat → Int32) (rd wo a b c : Nat) (t : List Nat) (M : zM) (dp d : Nat) (P : Nat → Rs) : Prop := ∀ (I : Nat → Nat → Int32) (p r : Nat) (ss : List Spt), rdI rd wo a b c t I0 I p ss r → p ≤ t.length → ss.length ≤ p → zCt E M dp 0 0 (sg K N Rf I L) [.ref rd, .int (nI (4 - d))] (fun v σ' => ∃ I', σ' = sg K N Rf I' L ∧ rsP rd wo a b c t I0 r ss v I' (P p))
theorem ssl {ss : List Spt} {ts : List Nat} : (ss ++ ts.map stT).length = ss.length + ts.length := by rw [List.length_append, List.length_map]
theorem c_R_factor0 (E : zE) (K N : Nat → Nat) (Rf : Nat → Nat → Option Nat) (L : Nat → Nat → Int64) {I0 : Nat → Nat → Int32} {rd wo a b c : Nat} {t : List Nat} (ht : txw t) (hF : rdF rd wo a b c t K N Rf) (hT : ∀ k, k < t.length → I0 205 k = nI (t.getD k 0)) : cFa E K N Rf L I0 rd wo a b c t mX7_isFactor (5) (0) (pFa 100 t 0) := by
  intro I p r ss h hp hss
  refine z_intro (by decide) (Nat.le_of_ble_eq_true rfl) (fun X hX => ?_)
  refine bk hX lkX7_ok (pc' := 1) [.aload_n 0] (by decide +kernel) (And.intro trivial ?_)
  refine z_callV hX kw_X7_39 (c_R_sign E K N Rf I L ht hF hT h hp) rfl rfl (rd_k hF I L) rfl rfl (by decide +kernel) (by decide) (by decide) (by decide) (by decide) (Nat.le_of_ble_eq_true rfl) ?_
  rintro _ _ ⟨rfl, rfl⟩
  refine bk hX lkX7_ok (pc' := 8) [.istore_n 2, .iload_n 2, .bipush 33] (by decide +kernel) (And.intro trivial ?_)
  refine ic_eq hX (14) 22 (by decide +kernel) (by decide) (fun c8 => ?_) (fun c8 => ?_)
  · refine bk hX lkX7_ok (pc' := 24) [.iload_n 1, .iconst 4] (by decide +kernel) (And.intro trivial ?_)
    refine ic_lt hX (5) 29 (by decide +kernel) (by decide) (fun c => absurd c (show ¬ nI (4 - 0) < nI 4 by decide)) (fun c_24 => ?_)
    refine bk hX lkX7_ok (pc' := 28) [.iconst 0] (by decide +kernel) (And.intro trivial ?_)
    exact z_iret hX (by decide +kernel) rfl (rfl) (by decide) (by decide) (by
  have e : nx t p = 33 ∨ nx t p = 40 := by
    first
      | exact Or.inl ((nxI_eq (nx_le ht p) (by decide)).mp c8)
      | exact Or.inr ((nxI_eq (nx_le ht p) (by decide)).mp c14)
  rw [pFa, if_pos e]
  exact ⟨I, rfl, rfl, ss, h⟩)
  · refine bk hX lkX7_ok (pc' := 14) [.iload_n 2, .bipush 40] (by decide +kernel) (And.intro trivial ?_)
    refine ic_eq hX (8) 22 (by decide +kernel) (by decide) (fun c14 => ?_) (fun c14 => ?_)
    · refine bk hX lkX7_ok (pc' := 24) [.iload_n 1, .iconst 4] (by decide +kernel) (And.intro trivial ?_)
      refine ic_lt hX (5) 29 (by decide +kernel) (by decide) (fun c => absurd c (show ¬ nI (4 - 0) < nI 4 by decide)) (fun c_24 => ?_)
      refine bk hX lkX7_ok (pc' := 28) [.iconst 0] (by decide +kernel) (And.intro trivial ?_)
      exact z_iret hX (by decide +kernel) rfl (rfl) (by decide) (by decide) (by
  have e : nx t p = 33 ∨ nx t p = 40 := by
    first
      | exact Or.inl ((nxI_eq (nx_le ht p) (by decide)).mp c8)
      | exact Or.inr ((nxI_eq (nx_le ht p) (by decide)).mp c14)
  rw [pFa, if_pos e]
  exact ⟨I, rfl, rfl, ss, h⟩)
    · refine bk hX lkX7_ok (pc' := 18) [.aload_n 0] (by decide +kernel) (And.intro trivial ?_)
      refine z_callV hX kw_X7_70 (c_R_test E K N Rf I L ht hF hT h hp hss) rfl rfl (rd_k hF I L) rfl rfl (by decide +kernel) (by decide) (by decide) (by decide) (by decide) (Nat.le_of_ble_eq_true rfl) ?_
      rintro v _ ⟨I2, rfl, y⟩
      generalize hq : pTs t p = res at y
      obtain ⟨_ | ts, q⟩ := res <;> obtain ⟨rfl, y⟩ := y
      · exact z_iret hX (by decide +kernel) rfl (rfl) (by decide) (by decide) (by
  rw [pFa_ts (fun z => c8 ((nxI_eq (nx_le ht p) (by decide)).mpr z)) (fun z => c14 ((nxI_eq (nx_le ht p) (by decide)).mpr z)), hq]
  exact ⟨I2, rfl, rfl, y⟩)
      · exact z_iret hX (by decide +kernel) rfl (rfl) (by decide) (by decide) (by
  rw [pFa_ts (fun z => c8 ((nxI_eq (nx_le ht p) (by decide)).mpr z)) (fun z => c14 ((nxI_eq (nx_le ht p) (by decide)).mpr z)), hq]
  exact ⟨I2, rfl, rfl, y⟩)
theorem c_R_factorS (E : zE) (K N : Nat → Nat) (Rf : Nat → Nat → Option Nat) (L : Nat → Nat → Int64) {I0 : Nat → Nat → Int32} {rd wo a b c : Nat} {t : List Nat} (ht : txw t) (hF : rdF rd wo a b c t K N Rf) (hT : ∀ k, k < t.length → I0 205 k = nI (t.getD k 0)) {d n : Nat} (hd : d < 4) (hn : 5 ≤ n) (hA : cFa E K N Rf L I0 rd wo a b c t mX7_isFactor (n) (d) (pFa 100 t d)) (hE : cFa E K N Rf L I0 rd wo a b c t mX7_isEither (n + 1) (d) (pEi 100 t d)) : cFa E K N Rf L I0 rd wo a b c t mX7_isFactor (n + 2) (d + 1) (pFa 100 t (d + 1)) := by
  intro I p r ss h hp hss
  refine z_intro (by decide) (Nat.le_of_ble_eq_true rfl) (fun X hX => ?_)
  refine bk hX lkX7_ok (pc' := 1) [.aload_n 0] (by decide +kernel) (And.intro trivial ?_)
  refine z_callV hX kw_X7_39 (c_R_sign E K N Rf I L ht hF hT h hp) rfl rfl (rd_k hF I L) rfl rfl (by decide +kernel) (by omega) (by decide) (by decide) (by decide) (Nat.le_of_ble_eq_true rfl) ?_
  rintro _ _ ⟨rfl, rfl⟩
  refine bk hX lkX7_ok (pc' := 8) [.istore_n 2, .iload_n 2, .bipush 33] (by decide +kernel) (And.intro trivial ?_)
  refine ic_eq hX (14) 22 (by decide +kernel) (by decide) (fun c8 => ?_) (fun c8 => ?_)
  · refine bk hX lkX7_ok (pc' := 24) [.iload_n 1, .iconst 4] (by decide +kernel) (And.intro trivial ?_)
    refine ic_lt hX (5) 29 (by decide +kernel) (by decide) (fun c_24 => ?_) (fun c => absurd ((nI_ltI (by omega) (by omega)).mpr (show 4 - (d + 1) < 4 by omega)) c)
    have hp2 : p + 1 ≤ t.length := by
      have z : nx t p = 33 ∨ nx t p = 40 := by
        first
          | exact Or.inl ((nxI_eq (nx_le ht p) (by decide)).mp c8)
          | exact Or.inr ((nxI_eq (nx_le ht p) (by decide)).mp c14)
      exact nx_in (c := nx t p) rfl (by omega)
    have h2 := rdI_at hF h (p + 1)
    refine bk hX lkX7_ok (pc' := 31) [.aload_n 0, .dup] (by decide +kernel) (And.intro trivial ?_)
    refine z_gIv hX lkX7_ok 32 8 3 (fun k h => h) (by decide) (rd_k hF I L) (by decide +kernel) (h.2.2.1) ?_
    refine bk hX lkX7_ok (pc' := 36) [.iconst 1, .iadd] (by decide +kernel) (And.intro trivial ?_)
    rw [nI_add]
    refine z_pI hX lkX7_ok (z_no _ _) 32 8 3 (fun k h => h) rfl (rd_k hF I L) (by decide +kernel) ?_
    show zS _ (sg K N Rf _ L) _ _ _ _ _
    refine bk hX lkX7_ok (pc' := 42) [.iload_n 2, .bipush 40] (by decide +kernel) (And.intro trivial ?_)
    refine ic_ne hX (28) 70 (by decide +kernel) (by decide) (fun c42 => ?_) (fun c42 => ?_)
    · have e33 : nx t p = 33 := by
        first
          | exact (nxI_eq (nx_le ht p) (by decide)).mp c8
          | exact absurd c14 c42
      refine bk hX lkX7_ok (pc' := 74) [.aload_n 0, .iload_n 1, .iconst 1, .iadd] (by decide +kernel) (And.intro trivial ?_)
      rw [nI_add, show 4 - (d + 1) + 1 = 4 - d by omega]
      refine z_callV hX kw_X7_67 (hA _ _ _ _ h2 hp2 (by omega)) rfl rfl (rd_k hF _ L) rfl rfl (by decide +kernel) (by omega) (by decide) (by decide) (by decide) (Nat.le_of_ble_eq_true rfl) ?_
      rintro v _ ⟨I2, rfl, y⟩
      generalize hq : pFa 100 t d (p + 1) = res at y
      obtain ⟨_ | ts, q⟩ := res <;> obtain ⟨rfl, y⟩ := y
      · refine if_ne hX (5) 82 (by decide +kernel) (by decide) (fun c => absurd (by decide) c) (fun c_77 => ?_)
        refine bk hX lkX7_ok (pc' := 81) [.iconst 0] (by decide +kernel) (And.intro trivial ?_)
        exact z_iret hX (by decide +kernel) rfl (rfl) (by decide) (by decide) (by
  rw [pFa_33n e33 hq]
  exact ⟨I2, rfl, rfl, y⟩)
      · have ok := (pFa_ok d).1 _ _ _ hq
        refine if_ne hX (5) 82 (by decide +kernel) (by decide) (fun c_77 => ?_) (fun c => absurd c (by decide))
        refine bk hX lkX7_ok (pc' := 83) [.aload_n 0] (by decide +kernel) (And.intro trivial ?_)
        refine z_gR hX lkX7_ok 24 8 2 (fun k h => h) (rd_k hF _ L) (rd_2 hF _ L) (by decide +kernel) ?_
        refine bk hX lkX7_ok (pc' := 90) [.bipush 33, .iconst 0, .iconst 0] (by decide +kernel) (And.intro trivial ?_)
        refine z_callV hX kw_X7_63 (c_R_add E K N Rf I2 L ht hF y (by have := ok.2.2.1; have := ok.2.2.2.1; rw [ssl]; omega) 33 0 0) rfl rfl (wo_k hF _ L) rfl rfl (by decide +kernel) (by omega) (by decide) (by decide) (by decide) (Nat.le_of_ble_eq_true rfl) ?_
        rintro _ _ ⟨I4, rfl, rfl, y4⟩
        refine bk hX lkX7_ok (pc' := 94) [.iconst 1] (by decide +kernel) (And.intro trivial ?_)
        exact z_iret hX (by decide +kernel) rfl (rfl) (by decide) (by decide) (by
  rw [pFa_33s e33 hq]
  refine ⟨I4, rfl, rfl, ?_⟩
  rw [List.map_append, ← List.append_assoc]
  exact y4)
    · have e40 : nx t p = 40 := (nxI_eq (nx_le ht p) (by decide)).mp c42
      refine bk hX lkX7_ok (pc' := 49) [.aload_n 0, .iload_n 1, .iconst 1, .iadd] (by decide +kernel) (And.intro trivial ?_)
      rw [nI_add, show 4 - (d + 1) + 1 = 4 - d by omega]
      refine z_callV hX kw_X7_59 (hE _ _ _ _ h2 hp2 (by omega)) rfl rfl (rd_k hF _ L) rfl rfl (by decide +kernel) (by omega) (by decide) (by decide) (by decide) (Nat.le_of_ble_eq_true rfl) ?_
      rintro v _ ⟨I2, rfl, y⟩
      generalize hq : pEi 100 t d (p + 1) = res at y
      obtain ⟨_ | ts, q⟩ := res <;> obtain ⟨rfl, y⟩ := y
      · refine if_eq hX (16) 68 (by decide +kernel) (by decide) (fun c_52 => ?_) (fun c => absurd (by decide) c)
        refine bk hX lkX7_ok (pc' := 69) [.iconst 0] (by decide +kernel) (And.intro trivial ?_)
        exact z_iret hX (by decide +kernel) rfl (rfl) (by decide) (by decide) (by
  rw [pFa_40n e40 hq]
  exact ⟨I2, rfl, rfl, y⟩)
      · have ok := pEi_ok hq
        refine if_eq hX (16) 68 (by decide +kernel) (by decide) (fun c => absurd c (by decide)) (fun c_52 => ?_)
        refine bk hX lkX7_ok (pc' := 58) [.aload_n 0, .bipush 41] (by decide +kernel) (And.intro trivial ?_)
        refine z_callV hX kw_X7_35 (c_R_takes E K N Rf I2 L ht hF hT y ok.2.2.1 (x := 41) (by decide)) rfl rfl (rd_k hF _ L) rfl rfl (by decide +kernel) (by omega) (by decide) (by decide) (by decide) (Nat.le_of_ble_eq_true rfl) ?_
        rintro _ _ (⟨z1, rfl, rfl⟩ | ⟨z1, rfl, rfl⟩)
        · refine if_eq hX (7) 68 (by decide +kernel) (by decide) (fun c => absurd c (by decide)) (fun c_61 => ?_)
          refine bk hX lkX7_ok (pc' := 65) [.iconst 1] (by decide +kernel) (And.intro trivial ?_)
          refine gt_ hX (4) 69 (by decide +kernel) (by decide) ?_
          exact z_iret hX (by decide +kernel) rfl (rfl) (by decide) (by decide) (by
  rw [pFa_40t e40 hq z1]
  exact ⟨_, rfl, rfl, rdI_at hF y (q + 1)⟩)
        · refine if_eq hX (7) 68 (by decide +kernel) (by decide) (fun c_61 => ?_) (fun c => absurd (by decide) c)
          refine bk hX lkX7_ok (pc' := 69) [.iconst 0] (by decide +kernel) (And.intro trivial ?_)
          exact z_iret hX (by decide +kernel) rfl (rfl) (by decide) (by decide) (by
  rw [pFa_40f e40 hq z1]
  exact ⟨I2, rfl, rfl, _, y⟩)
  · refine bk hX lkX7_ok (pc' := 14) [.iload_n 2, .bipush 40] (by decide +kernel) (And.intro trivial ?_)
    refine ic_eq hX (8) 22 (by decide +kernel) (by decide) (fun c14 => ?_) (fun c14 => ?_)
    · refine bk hX lkX7_ok (pc' := 24) [.iload_n 1, .iconst 4] (by decide +kernel) (And.intro trivial ?_)
      refine ic_lt hX (5) 29 (by decide +kernel) (by decide) (fun c_24 => ?_) (fun c => absurd ((nI_ltI (by omega) (by omega)).mpr (show 4 - (d + 1) < 4 by omega)) c)
      have hp2 : p + 1 ≤ t.length := by
        have z : nx t p = 33 ∨ nx t p = 40 := by
          first
            | exact Or.inl ((nxI_eq (nx_le ht p) (by decide)).mp c8)
            | exact Or.inr ((nxI_eq (nx_le ht p) (by decide)).mp c14)
        exact nx_in (c := nx t p) rfl (by omega)
      have h2 := rdI_at hF h (p + 1)
      refine bk hX lkX7_ok (pc' := 31) [.aload_n 0, .dup] (by decide +kernel) (And.intro trivial ?_)
      refine z_gIv hX lkX7_ok 32 8 3 (fun k h => h) (by decide) (rd_k hF I L) (by decide +kernel) (h.2.2.1) ?_
      refine bk hX lkX7_ok (pc' := 36) [.iconst 1, .iadd] (by decide +kernel) (And.intro trivial ?_)
      rw [nI_add]
      refine z_pI hX lkX7_ok (z_no _ _) 32 8 3 (fun k h => h) rfl (rd_k hF I L) (by decide +kernel) ?_
      show zS _ (sg K N Rf _ L) _ _ _ _ _
      refine bk hX lkX7_ok (pc' := 42) [.iload_n 2, .bipush 40] (by decide +kernel) (And.intro trivial ?_)
      refine ic_ne hX (28) 70 (by decide +kernel) (by decide) (fun c42 => ?_) (fun c42 => ?_)
      · have e33 : nx t p = 33 := by
          first
            | exact (nxI_eq (nx_le ht p) (by decide)).mp c8
            | exact absurd c14 c42
        refine bk hX lkX7_ok (pc' := 74) [.aload_n 0, .iload_n 1, .iconst 1, .iadd] (by decide +kernel) (And.intro trivial ?_)
        rw [nI_add, show 4 - (d + 1) + 1 = 4 - d by omega]
        refine z_callV hX kw_X7_67 (hA _ _ _ _ h2 hp2 (by omega)) rfl rfl (rd_k hF _ L) rfl rfl (by decide +kernel) (by omega) (by decide) (by decide) (by decide) (Nat.le_of_ble_eq_true rfl) ?_
        rintro v _ ⟨I2, rfl, y⟩
        generalize hq : pFa 100 t d (p + 1) = res at y
        obtain ⟨_ | ts, q⟩ := res <;> obtain ⟨rfl, y⟩ := y
        · refine if_ne hX (5) 82 (by decide +kernel) (by decide) (fun c => absurd (by decide) c) (fun c_77 => ?_)
          refine bk hX lkX7_ok (pc' := 81) [.iconst 0] (by decide +kernel) (And.intro trivial ?_)
          exact z_iret hX (by decide +kernel) rfl (rfl) (by decide) (by decide) (by
  rw [pFa_33n e33 hq]
  exact ⟨I2, rfl, rfl, y⟩)
        · have ok := (pFa_ok d).1 _ _ _ hq
          refine if_ne hX (5) 82 (by decide +kernel) (by decide) (fun c_77 => ?_) (fun c => absurd c (by decide))
          refine bk hX lkX7_ok (pc' := 83) [.aload_n 0] (by decide +kernel) (And.intro trivial ?_)
          refine z_gR hX lkX7_ok 24 8 2 (fun k h => h) (rd_k hF _ L) (rd_2 hF _ L) (by decide +kernel) ?_
          refine bk hX lkX7_ok (pc' := 90) [.bipush 33, .iconst 0, .iconst 0] (by decide +kernel) (And.intro trivial ?_)
          refine z_callV hX kw_X7_63 (c_R_add E K N Rf I2 L ht hF y (by have := ok.2.2.1; have := ok.2.2.2.1; rw [ssl]; omega) 33 0 0) rfl rfl (wo_k hF _ L) rfl rfl (by decide +kernel) (by omega) (by decide) (by decide) (by decide) (Nat.le_of_ble_eq_true rfl) ?_
          rintro _ _ ⟨I4, rfl, rfl, y4⟩
          refine bk hX lkX7_ok (pc' := 94) [.iconst 1] (by decide +kernel) (And.intro trivial ?_)
          exact z_iret hX (by decide +kernel) rfl (rfl) (by decide) (by decide) (by
  rw [pFa_33s e33 hq]
  refine ⟨I4, rfl, rfl, ?_⟩
  rw [List.map_append, ← List.append_assoc]
  exact y4)
      · have e40 : nx t p = 40 := (nxI_eq (nx_le ht p) (by decide)).mp c42
        refine bk hX lkX7_ok (pc' := 49) [.aload_n 0, .iload_n 1, .iconst 1, .iadd] (by decide +kernel) (And.intro trivial ?_)
        rw [nI_add, show 4 - (d + 1) + 1 = 4 - d by omega]
        refine z_callV hX kw_X7_59 (hE _ _ _ _ h2 hp2 (by omega)) rfl rfl (rd_k hF _ L) rfl rfl (by decide +kernel) (by omega) (by decide) (by decide) (by decide) (Nat.le_of_ble_eq_true rfl) ?_
        rintro v _ ⟨I2, rfl, y⟩
        generalize hq : pEi 100 t d (p + 1) = res at y
        obtain ⟨_ | ts, q⟩ := res <;> obtain ⟨rfl, y⟩ := y
        · refine if_eq hX (16) 68 (by decide +kernel) (by decide) (fun c_52 => ?_) (fun c => absurd (by decide) c)
          refine bk hX lkX7_ok (pc' := 69) [.iconst 0] (by decide +kernel) (And.intro trivial ?_)
          exact z_iret hX (by decide +kernel) rfl (rfl) (by decide) (by decide) (by
  rw [pFa_40n e40 hq]
  exact ⟨I2, rfl, rfl, y⟩)
        · have ok := pEi_ok hq
          refine if_eq hX (16) 68 (by decide +kernel) (by decide) (fun c => absurd c (by decide)) (fun c_52 => ?_)
          refine bk hX lkX7_ok (pc' := 58) [.aload_n 0, .bipush 41] (by decide +kernel) (And.intro trivial ?_)
          refine z_callV hX kw_X7_35 (c_R_takes E K N Rf I2 L ht hF hT y ok.2.2.1 (x := 41) (by decide)) rfl rfl (rd_k hF _ L) rfl rfl (by decide +kernel) (by omega) (by decide) (by decide) (by decide) (Nat.le_of_ble_eq_true rfl) ?_
          rintro _ _ (⟨z1, rfl, rfl⟩ | ⟨z1, rfl, rfl⟩)
          · refine if_eq hX (7) 68 (by decide +kernel) (by decide) (fun c => absurd c (by decide)) (fun c_61 => ?_)
            refine bk hX lkX7_ok (pc' := 65) [.iconst 1] (by decide +kernel) (And.intro trivial ?_)
            refine gt_ hX (4) 69 (by decide +kernel) (by decide) ?_
            exact z_iret hX (by decide +kernel) rfl (rfl) (by decide) (by decide) (by
  rw [pFa_40t e40 hq z1]
  exact ⟨_, rfl, rfl, rdI_at hF y (q + 1)⟩)
          · refine if_eq hX (7) 68 (by decide +kernel) (by decide) (fun c_61 => ?_) (fun c => absurd (by decide) c)
            refine bk hX lkX7_ok (pc' := 69) [.iconst 0] (by decide +kernel) (And.intro trivial ?_)
            exact z_iret hX (by decide +kernel) rfl (rfl) (by decide) (by decide) (by
  rw [pFa_40f e40 hq z1]
  exact ⟨I2, rfl, rfl, _, y⟩)
    · refine bk hX lkX7_ok (pc' := 18) [.aload_n 0] (by decide +kernel) (And.intro trivial ?_)
      refine z_callV hX kw_X7_70 (c_R_test E K N Rf I L ht hF hT h hp hss) rfl rfl (rd_k hF I L) rfl rfl (by decide +kernel) (by omega) (by decide) (by decide) (by decide) (Nat.le_of_ble_eq_true rfl) ?_
      rintro v _ ⟨I2, rfl, y⟩
      generalize hq : pTs t p = res at y
      obtain ⟨_ | ts, q⟩ := res <;> obtain ⟨rfl, y⟩ := y
      · exact z_iret hX (by decide +kernel) rfl (rfl) (by decide) (by decide) (by
  rw [pFa_ts (fun z => c8 ((nxI_eq (nx_le ht p) (by decide)).mpr z)) (fun z => c14 ((nxI_eq (nx_le ht p) (by decide)).mpr z)), hq]
  exact ⟨I2, rfl, rfl, y⟩)
      · exact z_iret hX (by decide +kernel) rfl (rfl) (by decide) (by decide) (by
  rw [pFa_ts (fun z => c8 ((nxI_eq (nx_le ht p) (by decide)).mpr z)) (fun z => c14 ((nxI_eq (nx_le ht p) (by decide)).mpr z)), hq]
  exact ⟨I2, rfl, rfl, y⟩)
/-- the sum behind one more factor: what is there, and where -/
theorem either_l {acc us : List Nat} {ss : List Spt} (n o : Bool) : (ss ++ (acc ++ us ++ (if n = true then [1] else []) ++ (if o = true then [2] else [])).map stT).length = ss.length + acc.length + us.length + n.toNat + o.toNat := by
  rw [ssl]
  cases n <;> cases o <;> simp [Nat.add_assoc]
theorem either_1 {acc us : List Nat} (n : Bool) : (acc ++ us ++ (if n = true then [1] else [])).length = acc.length + us.length + n.toNat := by
  cases n <;> simp [Nat.add_assoc]
theorem either_2 {acc us : List Nat} (n o : Bool) : (acc ++ us ++ (if n = true then [1] else []) ++ (if o = true then [2] else [])).length = acc.length + us.length + n.toNat + o.toNat := by
  cases n <;> cases o <;> simp [Nat.add_assoc]
theorem c_R_either (E : zE) (K N : Nat → Nat) (Rf : Nat → Nat → Option Nat) (L : Nat → Nat → Int64) {I0 : Nat → Nat → Int32} {rd wo a b c : Nat} {t : List Nat} (ht : txw t) (hF : rdF rd wo a b c t K N Rf) (hT : ∀ k, k < t.length → I0 205 k = nI (t.getD k 0)) {d n : Nat} (hn : 5 ≤ n) (hA : cFa E K N Rf L I0 rd wo a b c t mX7_isFactor (n) (d) (pFa 100 t d)) : cFa E K N Rf L I0 rd wo a b c t mX7_isEither (n + 1) (d) (pEi 100 t d) := by
  intro I p r ss h hp hss
  refine z_intro (by decide) (Nat.le_of_ble_eq_true rfl) (fun X hX => ?_)
  have h65 : ∀ (k : Nat) (q0 q : Nat) (o n : Bool) (acc us : List Nat) (J : Nat → Nat → Int32), k + 1 ≤ 100 → pFa 100 t d q0 = (some us, q) → ¬ nx t q = 38 → rdI rd wo a b c t I0 J q (ss ++ (acc ++ us ++ (if n = true then [1] else []) ++ (if o = true then [2] else [])).map stT) r → acc.length + o.toNat + n.toNat + p ≤ q0 → eL t (pFa 100 t d) (k + 1) o n q0 acc = pEi 100 t d p → (∀ (o n : Bool) (a2 : Nat) (acc : List Nat) (I : Nat → Nat → Int32), rdI rd wo a b c t I0 I a2 (ss ++ acc.map stT) r → a2 ≤ t.length → acc.length + o.toNat + n.toNat + p ≤ a2 → eL t (pFa 100 t d) k o n a2 acc = pEi 100 t d p → zS X (sg K N Rf I L) 0 0 7 [(0, .ref rd), (1, .int (nI (4 - d))), (2, .int (b2i o)), (3, .int (b2i n)), (4, .int (nI (100 - k)))] []) → zS X (sg K N Rf J L) 0 0 65 [(0, .ref rd), (1, .int (nI (4 - d))), (2, .int (b2i o)), (3, .int 0), (4, .int (nI (100 - (k + 1))))] [] := by
    intro k q0 q o n acc us J hk hq hz y hin hw ih
    obtain ⟨ok1, ok2, ok3, ok4, ok5, ok6⟩ := (pFa_ok d).1 _ _ _ hq
    refine bk hX lkX7_ok (pc' := 68) [.aload_n 0, .bipush 124] (by decide +kernel) (And.intro trivial ?_)
    refine z_callV hX kw_X7_35 (c_R_takes E K N Rf J L ht hF hT y ok3 (x := 124) (by decide)) rfl rfl (rd_k hF _ L) rfl rfl (by decide +kernel) (by omega) (by decide) (by decide) (by decide) (Nat.le_of_ble_eq_true rfl) ?_
    rintro _ _ (⟨z1, rfl, rfl⟩ | ⟨z1, rfl, rfl⟩)
    · refine bk hX lkX7_ok (pc' := 73) [.istore_n 2, .iload_n 2] (by decide +kernel) (And.intro trivial ?_)
      refine if_ne hX (5) 78 (by decide +kernel) (by decide) (fun c_73 => ?_) (fun c => absurd c (by decide))
      refine bk hX lkX7_ok (pc' := 81) [.iinc 4 1] (by decide +kernel) (And.intro trivial ?_)
      refine gt_ hX (-74) 7 (by decide +kernel) (by decide) ?_
      refine z_lvk (lv' := [(0, _), (1, _), (2, _), (3, _), (4, _)]) [2, 3, 1, 4, 0] rfl ?_
      rw [nI_add, show 100 - (k + 1) + 1 = 100 - k by omega]
      exact ih true false (q + 1) _ _ (rdI_at hF y (q + 1)) (nx_in z1 (by decide)) (by rw [either_2]; show _ + 1 + 0 + p ≤ q + 1; omega) (by rw [← hw, eL_or hq hz z1])
    · refine bk hX lkX7_ok (pc' := 73) [.istore_n 2, .iload_n 2] (by decide +kernel) (And.intro trivial ?_)
      refine if_ne hX (5) 78 (by decide +kernel) (by decide) (fun c => absurd (by decide) c) (fun c_73 => ?_)
      refine bk hX lkX7_ok (pc' := 77) [.iconst 1] (by decide +kernel) (And.intro trivial ?_)
      exact z_iret hX (by decide +kernel) rfl (rfl) (by decide) (by decide) (by
  rw [← hw, eL_end hq hz z1]
  exact ⟨J, rfl, rfl, y⟩)
  have h39 : ∀ (k : Nat) (q0 q : Nat) (o n : Bool) (acc us : List Nat) (J : Nat → Nat → Int32), k + 1 ≤ 100 → pFa 100 t d q0 = (some us, q) → rdI rd wo a b c t I0 J q (ss ++ (acc ++ us ++ (if n = true then [1] else [])).map stT) r → acc.length + o.toNat + n.toNat + p ≤ q0 → eL t (pFa 100 t d) (k + 1) o n q0 acc = pEi 100 t d p → (∀ (o n : Bool) (a2 : Nat) (acc : List Nat) (I : Nat → Nat → Int32), rdI rd wo a b c t I0 I a2 (ss ++ acc.map stT) r → a2 ≤ t.length → acc.length + o.toNat + n.toNat + p ≤ a2 → eL t (pFa 100 t d) k o n a2 acc = pEi 100 t d p → zS X (sg K N Rf I L) 0 0 7 [(0, .ref rd), (1, .int (nI (4 - d))), (2, .int (b2i o)), (3, .int (b2i n)), (4, .int (nI (100 - k)))] []) → zS X (sg K N Rf J L) 0 0 39 [(0, .ref rd), (1, .int (nI (4 - d))), (2, .int (b2i o)), (3, .int (b2i n)), (4, .int (nI (100 - (k + 1))))] [] := by
    intro k q0 q o n acc us J hk hq y hin hw ih
    obtain ⟨ok1, ok2, ok3, ok4, ok5, ok6⟩ := (pFa_ok d).1 _ _ _ hq
    refine bk hX lkX7_ok (pc' := 42) [.aload_n 0, .bipush 38] (by decide +kernel) (And.intro trivial ?_)
    refine z_callV hX kw_X7_35 (c_R_takes E K N Rf J L ht hF hT y ok3 (x := 38) (by decide)) rfl rfl (rd_k hF _ L) rfl rfl (by decide +kernel) (by omega) (by decide) (by decide) (by decide) (Nat.le_of_ble_eq_true rfl) ?_
    rintro _ _ (⟨z1, rfl, rfl⟩ | ⟨z1, rfl, rfl⟩)
    rotate_left 1
    cases o
    · refine bk hX lkX7_ok (pc' := 47) [.istore_n 3, .iload_n 3] (by decide +kernel) (And.intro trivial ?_)
      refine if_ne hX (31) 78 (by decide +kernel) (by decide) (fun c => absurd (by decide) c) (fun c_47 => ?_)
      refine bk hX lkX7_ok (pc' := 51) [.iload_n 2] (by decide +kernel) (And.intro trivial ?_)
      refine if_eq hX (14) 65 (by decide +kernel) (by decide) (fun c_51 => ?_) (fun c => absurd (by decide) c)
      refine z_lvk (lv' := [(0, _), (1, _), (2, _), (3, _), (4, _)]) [1, 2, 3, 0, 4] rfl ?_
      exact h65 k q0 q false n acc us J hk hq z1 (by rw [if_neg Bool.false_ne_true, List.append_nil]; exact y) hin hw ih
    · have hin1 : acc.length + 1 + n.toNat + p ≤ q0 := hin
      refine bk hX lkX7_ok (pc' := 47) [.istore_n 3, .iload_n 3] (by decide +kernel) (And.intro trivial ?_)
      refine if_ne hX (31) 78 (by decide +kernel) (by decide) (fun c => absurd (by decide) c) (fun c_47 => ?_)
      refine bk hX lkX7_ok (pc' := 51) [.iload_n 2] (by decide +kernel) (And.intro trivial ?_)
      refine if_eq hX (14) 65 (by decide +kernel) (by decide) (fun c => absurd c (by decide)) (fun c_51 => ?_)
      refine bk hX lkX7_ok (pc' := 55) [.aload_n 0] (by decide +kernel) (And.intro trivial ?_)
      refine z_gR hX lkX7_ok 24 8 2 (fun k h => h) (rd_k hF _ L) (rd_2 hF _ L) (by decide +kernel) ?_
      refine bk hX lkX7_ok (pc' := 62) [.bipush 124, .iconst 0, .iconst 0] (by decide +kernel) (And.intro trivial ?_)
      refine z_callV hX kw_X7_63 (c_R_add E K N Rf J L ht hF y (by rw [ssl, either_1]; omega) 124 0 0) rfl rfl (wo_k hF _ L) rfl rfl (by decide +kernel) (by omega) (by decide) (by decide) (by decide) (Nat.le_of_ble_eq_true rfl) ?_
      rintro _ _ ⟨I4, rfl, rfl, y4⟩
      refine z_lvk (lv' := [(0, _), (1, _), (2, _), (3, _), (4, _)]) [1, 2, 3, 0, 4] rfl ?_
      exact h65 k q0 q true n acc us I4 hk hq z1 (by rw [if_pos rfl, List.map_append, ← List.append_assoc]; exact y4) hin hw ih
    · refine bk hX lkX7_ok (pc' := 47) [.istore_n 3, .iload_n 3] (by decide +kernel) (And.intro trivial ?_)
      refine if_ne hX (31) 78 (by decide +kernel) (by decide) (fun c_47 => ?_) (fun c => absurd c (by decide))
      refine bk hX lkX7_ok (pc' := 81) [.iinc 4 1] (by decide +kernel) (And.intro trivial ?_)
      refine gt_ hX (-74) 7 (by decide +kernel) (by decide) ?_
      refine z_lvk (lv' := [(0, _), (1, _), (2, _), (3, _), (4, _)]) [2, 3, 4, 1, 0] rfl ?_
      rw [nI_add, show 100 - (k + 1) + 1 = 100 - k by omega]
      exact ih o true (q + 1) _ _ (rdI_at hF y (q + 1)) (nx_in z1 (by decide)) (by rw [either_1]; show _ + 1 + p ≤ q + 1; omega) (by rw [← hw, eL_and hq z1])
  have h7 : ∀ k, k ≤ 100 → ∀ (o n : Bool) (q0 : Nat) (acc : List Nat) (I : Nat → Nat → Int32), rdI rd wo a b c t I0 I q0 (ss ++ acc.map stT) r → q0 ≤ t.length → acc.length + o.toNat + n.toNat + p ≤ q0 → eL t (pFa 100 t d) k o n q0 acc = pEi 100 t d p → zS X (sg K N Rf I L) 0 0 7 [(0, .ref rd), (1, .int (nI (4 - d))), (2, .int (b2i o)), (3, .int (b2i n)), (4, .int (nI (100 - k)))] [] := by
    clear h hp
    intro k
    induction k with
    | zero =>
      intro _ o n q0 acc I h hp hin hw
      refine bk hX lkX7_ok (pc' := 11) [.iload 4, .bipush 100] (by decide +kernel) (And.intro trivial ?_)
      refine ic_ge hX (73) 84 (by decide +kernel) (by decide) (fun c_11 => ?_) (fun c => absurd (show nI 100 ≤ nI (100 - 0) by decide) c)
      refine bk hX lkX7_ok (pc' := 85) [.iconst 0] (by decide +kernel) (And.intro trivial ?_)
      exact z_iret hX (by decide +kernel) rfl (rfl) (by decide) (by decide) (by
  rw [← hw]
  exact ⟨I, rfl, rfl, _, h⟩)
    | succ k ih =>
      intro hk o n q0 acc I h hp hin hw
      have ih2 := ih (by omega)
      refine bk hX lkX7_ok (pc' := 11) [.iload 4, .bipush 100] (by decide +kernel) (And.intro trivial ?_)
      refine ic_ge hX (73) 84 (by decide +kernel) (by decide) (fun c => absurd c (nI_ge (a := 100 - (k + 1)) (b := 100) (by omega) (by decide))) (fun c_11 => ?_)
      refine bk hX lkX7_ok (pc' := 16) [.aload_n 0, .iload_n 1] (by decide +kernel) (And.intro trivial ?_)
      refine z_callV hX kw_X7_67 (hA _ _ _ _ h hp (by rw [ssl]; omega)) rfl rfl (rd_k hF _ L) rfl rfl (by decide +kernel) (by omega) (by decide) (by decide) (by decide) (Nat.le_of_ble_eq_true rfl) ?_
      rintro v _ ⟨I2, rfl, y⟩
      generalize hq : pFa 100 t d q0 = res at y
      obtain ⟨_ | us, q⟩ := res <;> obtain ⟨rfl, y⟩ := y
      rotate_left 1
      cases n
      · refine if_ne hX (5) 24 (by decide +kernel) (by decide) (fun c_19 => ?_) (fun c => absurd c (by decide))
        refine bk hX lkX7_ok (pc' := 25) [.iload_n 3] (by decide +kernel) (And.intro trivial ?_)
        refine if_eq hX (14) 39 (by decide +kernel) (by decide) (fun c_25 => ?_) (fun c => absurd (by decide) c)
        refine z_lvk (lv' := [(0, _), (1, _), (2, _), (3, _), (4, _)]) [0, 1, 2, 3, 4] rfl ?_
        exact h39 k q0 q o false acc us I2 (by omega) hq (by rw [if_neg Bool.false_ne_true, List.append_nil, List.map_append, ← List.append_assoc]; exact y) hin hw ih2
      · obtain ⟨ok1, ok2, ok3, ok4, ok5, ok6⟩ := (pFa_ok d).1 _ _ _ hq
        have hin1 : acc.length + o.toNat + 1 + p ≤ q0 := hin
        refine if_ne hX (5) 24 (by decide +kernel) (by decide) (fun c_19 => ?_) (fun c => absurd c (by decide))
        refine bk hX lkX7_ok (pc' := 25) [.iload_n 3] (by decide +kernel) (And.intro trivial ?_)
        refine if_eq hX (14) 39 (by decide +kernel) (by decide) (fun c => absurd c (by decide)) (fun c_25 => ?_)
        refine bk hX lkX7_ok (pc' := 29) [.aload_n 0] (by decide +kernel) (And.intro trivial ?_)
        refine z_gR hX lkX7_ok 24 8 2 (fun k h => h) (rd_k hF _ L) (rd_2 hF _ L) (by decide +kernel) ?_
        refine bk hX lkX7_ok (pc' := 36) [.bipush 38, .iconst 0, .iconst 0] (by decide +kernel) (And.intro trivial ?_)
        refine z_callV hX kw_X7_63 (c_R_add E K N Rf I2 L ht hF y (by rw [ssl, ssl]; omega) 38 0 0) rfl rfl (wo_k hF _ L) rfl rfl (by decide +kernel) (by omega) (by decide) (by decide) (by decide) (Nat.le_of_ble_eq_true rfl) ?_
        rintro _ _ ⟨I4, rfl, rfl, y4⟩
        refine z_lvk (lv' := [(0, _), (1, _), (2, _), (3, _), (4, _)]) [0, 1, 2, 3, 4] rfl ?_
        exact h39 k q0 q o true acc us I4 (by omega) hq (by rw [if_pos rfl, List.map_append, List.map_append, ← List.append_assoc, ← List.append_assoc]; exact y4) hin hw ih2
      · refine if_ne hX (5) 24 (by decide +kernel) (by decide) (fun c => absurd (by decide) c) (fun c_19 => ?_)
        refine bk hX lkX7_ok (pc' := 23) [.iconst 0] (by decide +kernel) (And.intro trivial ?_)
        exact z_iret hX (by decide +kernel) rfl (rfl) (by decide) (by decide) (by
  rw [← hw, eL_no hq]
  exact ⟨I2, rfl, rfl, y⟩)
  refine bk hX lkX7_ok (pc' := 7) [.iconst 0, .istore_n 2, .iconst 0, .istore_n 3, .iconst 0, .istore 4] (by decide +kernel) (And.intro trivial ?_)
  refine z_lvk (lv' := [(0, _), (1, _), (2, _), (3, _), (4, _)]) [3, 4, 2, 1, 0] rfl ?_
  exact h7 100 (Nat.le_refl _) false false p [] I (by rw [List.map_nil, List.append_nil]; exact h) hp (by show 0 + 0 + 0 + p ≤ p; omega) rfl
theorem c_R_factor (E : zE) (K N : Nat → Nat) (Rf : Nat → Nat → Option Nat) (L : Nat → Nat → Int64) {I0 : Nat → Nat → Int32} {rd wo a b c : Nat} {t : List Nat} (ht : txw t) (hF : rdF rd wo a b c t K N Rf) (hT : ∀ k, k < t.length → I0 205 k = nI (t.getD k 0)) : ∀ d, d ≤ 4 → cFa E K N Rf L I0 rd wo a b c t mX7_isFactor (5 + 2 * d) (d) (pFa 100 t d)
  | 0, _ => c_R_factor0 E K N Rf L ht hF hT
  | d + 1, h => by
    have ih := c_R_factor E K N Rf L ht hF hT d (by omega)
    exact c_R_factorS E K N Rf L ht hF hT (n := 5 + 2 * d) (by omega) (by omega) ih (c_R_either E K N Rf L ht hF hT (n := 5 + 2 * d) (by omega) ih)
theorem c_R_either4 (E : zE) (K N : Nat → Nat) (Rf : Nat → Nat → Option Nat) (L : Nat → Nat → Int64) {I0 : Nat → Nat → Int32} {rd wo a b c : Nat} {t : List Nat} (ht : txw t) (hF : rdF rd wo a b c t K N Rf) (hT : ∀ k, k < t.length → I0 205 k = nI (t.getD k 0)) : cFa E K N Rf L I0 rd wo a b c t mX7_isEither (14) (4) (pEi 100 t 4) := c_R_either E K N Rf L ht hF hT (by decide) (c_R_factor E K N Rf L ht hF hT 4 (by decide))
