/-! ===== the reader: clauses, works ===== -/
def clP (rd wo a b c : Nat) (t : List Nat) (I0 : Nat → Nat → Int32) (r : Nat) (ss : List Spt) (v : Option Value) (I' : Nat → Nat → Int32) : Option Cl × Nat → Prop
  | (none, q) => v = some (.int 0) ∧ ∃ ss' r', rdI rd wo a b c t I0 I' q ss' r'
  | (some l, q) => v = some (.int 1) ∧ rdI rd wo a b c t I0 I' q (ss ++ stC l) (if l.1 = 2 then l.2.1 else r)
theorem sp_r {t : List Nat} {p : Nat} (h : nx t p = 114) : pWd t (wsL 0) p = pWd t (hLs (hWd (nx t p))) p := by rw [h]; rfl
theorem sp_s {t : List Nat} {p : Nat} (h : nx t p = 115) : pWd t (wsL 1) p = pWd t (hLs (hWd (nx t p))) p := by rw [h]; rfl
theorem sp_g {t : List Nat} {p : Nat} (h : ¬ nx t p = 114) (h2 : ¬ nx t p = 115) : pWd t (wsL 2) p = pWd t (hLs (hWd (nx t p))) p := by
  by_cases h3 : nx t p = 103
  · rw [h3]; rfl
  · have e : hWd (nx t p) = 2 := by rw [hWd, if_neg h3, if_neg h2]
    rw [e]
    show pWd t [103, 108, 97, 100, 32] p = pWd t [114, 111, 117, 110, 100, 32] p
    rw [pWd, if_neg h3, pWd, if_neg h]
theorem hWd_gs {t : List Nat} {p q : Nat} (h : pWd t (hLs (hWd (nx t p))) p = (true, q)) (h2 : ¬ nx t p = 114) : (hWd (nx t p) = 0 ∧ nx t p = 103) ∨ (hWd (nx t p) = 1 ∧ nx t p = 115) := by
  by_cases h3 : nx t p = 103
  · exact Or.inl ⟨by rw [h3]; rfl, h3⟩
  · by_cases h4 : nx t p = 115
    · exact Or.inr ⟨by rw [h4]; rfl, h4⟩
    · have e : hWd (nx t p) = 2 := by rw [hWd, if_neg h3, if_neg h4]
      rw [e] at h
      have h5 : pWd t [114, 111, 117, 110, 100, 32] p = (true, q) := h
      rw [pWd, if_neg h2] at h5
      cases h5
theorem pCl_w {Q p q : Nat} {t : List Nat} (h : pWd t (hLs (hWd (nx t p))) p = (false, q)) : pCl Q t p = (none, q) := by rw [pCl, h]
theorem pCl_n {Q p q b : Nat} {t : List Nat} (h : pWd t (hLs (hWd (nx t p))) p = (true, q)) (h2 : pNm t q = (none, b)) : pCl Q t p = (none, b) := by
  rw [pCl, h]
  show (match pNm t q with
    | (none, c) => ((none, c) : Option Cl × Nat)
    | (some n, c) => _) = _
  rw [h2]
theorem pCl_r {Q p q b n : Nat} {t : List Nat} (h : pWd t (hLs (hWd (nx t p))) p = (true, q)) (h2 : pNm t q = (some n, b)) (h3 : hWd (nx t p) = 2) : pCl Q t p = (some (2, n, []), b) := by
  rw [pCl, h]
  show (match pNm t q with
    | (none, c) => ((none, c) : Option Cl × Nat)
    | (some n, c) => _) = _
  rw [h2]
  exact if_pos h3
theorem pCl_b {Q p q b n : Nat} {t : List Nat} (h : pWd t (hLs (hWd (nx t p))) p = (true, q)) (h2 : pNm t q = (some n, b)) (h3 : ¬ hWd (nx t p) = 2) (h4 : ¬ nx t b = 32) : pCl Q t p = (none, b) := by
  rw [pCl, h]
  show (match pNm t q with
    | (none, c) => ((none, c) : Option Cl × Nat)
    | (some n, c) => _) = _
  rw [h2]
  exact (if_neg h3).trans (if_neg h4)
theorem pCl_e {Q p q b n d : Nat} {t : List Nat} (h : pWd t (hLs (hWd (nx t p))) p = (true, q)) (h2 : pNm t q = (some n, b)) (h3 : ¬ hWd (nx t p) = 2) (h4 : nx t b = 32) (h5 : pEi Q t 4 (b + 1) = (none, d)) : pCl Q t p = (none, d) := by
  rw [pCl, h]
  show (match pNm t q with
    | (none, c) => ((none, c) : Option Cl × Nat)
    | (some n, c) => _) = _
  rw [h2]
  refine (if_neg h3).trans ((if_pos h4).trans ?_)
  rw [h5]
theorem pCl_s {Q p q b n d : Nat} {t ts : List Nat} (h : pWd t (hLs (hWd (nx t p))) p = (true, q)) (h2 : pNm t q = (some n, b)) (h3 : ¬ hWd (nx t p) = 2) (h4 : nx t b = 32) (h5 : pEi Q t 4 (b + 1) = (some ts, d)) : pCl Q t p = (some (hWd (nx t p), n, ts), d) := by
  rw [pCl, h]
  show (match pNm t q with
    | (none, c) => ((none, c) : Option Cl × Nat)
    | (some n, c) => _) = _
  rw [h2]
  refine (if_neg h3).trans ((if_pos h4).trans ?_)
  rw [h5]
set_option maxHeartbeats 4000000 in
theorem c_R_clause (E : zE) (K N : Nat → Nat) (Rf : Nat → Nat → Option Nat) (I : Nat → Nat → Int32) (L : Nat → Nat → Int64) {I0 : Nat → Nat → Int32} {rd wo a b c : Nat} {t : List Nat} (ht : txw t) (hF : rdF rd wo a b c t K N Rf) (hT : ∀ k, k < t.length → I0 205 k = nI (t.getD k 0)) {p r : Nat} {ss : List Spt} (h : rdI rd wo a b c t I0 I p ss r) (hp : p ≤ t.length) (hss : ss.length ≤ p) : zCt E mX7_isClause 15 0 0 (sg K N Rf I L) [.ref rd] (fun v σ' => ∃ I', σ' = sg K N Rf I' L ∧ clP rd wo a b c t I0 r ss v I' (pCl 100 t p)) := by
  refine z_intro (by decide) (Nat.le_of_ble_eq_true rfl) (fun X hX => ?_)
  refine bk hX lkX7_ok (pc' := 1) [.aload_n 0] (by decide +kernel) (And.intro trivial ?_)
  refine z_callV hX kw_X7_39 (c_R_sign E K N Rf I L ht hF hT h hp) rfl rfl (rd_k hF I L) rfl rfl (by decide +kernel) (by decide) (by decide) (by decide) (by decide) (Nat.le_of_ble_eq_true rfl) ?_
  rintro _ _ ⟨rfl, rfl⟩
  refine bk hX lkX7_ok (pc' := 9) [.istore_n 1, .aload_n 0, .iload_n 1, .bipush 114] (by decide +kernel) (And.intro trivial ?_)
  refine ic_ne hX (8) 17 (by decide +kernel) (by decide) (fun c9 => ?_) (fun c9 => ?_)
  · refine bk hX lkX7_ok (pc' := 20) [.iload_n 1, .bipush 115] (by decide +kernel) (And.intro trivial ?_)
    refine ic_ne hX (8) 28 (by decide +kernel) (by decide) (fun c20 => ?_) (fun c20 => ?_)
    · refine z_ldcS hX rfl (i := 2) (Or.inr (Or.inr (Or.inl ⟨rfl, rfl⟩))) (by decide +kernel) ?_
      refine z_callV hX kw_X7_49 (c_R_spells E K N Rf I L ht hF hT h hp (by decide)) rfl rfl (rd_k hF I L) rfl rfl (by decide +kernel) (by decide) (by decide) (by decide) (by decide) (Nat.le_of_ble_eq_true rfl) ?_
      rintro v _ ⟨I2, rfl, y2, hh⟩
      first
        | rw [sp_r ((nxI_eq (nx_le ht p) (by decide)).mp c9)] at y2 hh
        | rw [sp_s ((nxI_eq (nx_le ht p) (by decide)).mp c20)] at y2 hh
        | rw [sp_g (fun z => c9 ((nxI_eq (nx_le ht p) (by decide)).mpr z)) (fun z => c20 ((nxI_eq (nx_le ht p) (by decide)).mpr z))] at y2 hh
      have hwl := pWd_le (t := t) (hLs (hWd (nx t p))) p (hLs_ok _).1
      have hw5 := (hLs_ok (hWd (nx t p))).2
      generalize hW : pWd t (hLs (hWd (nx t p))) p = W at y2 hh hwl
      obtain ⟨_ | _, q⟩ := W
      · obtain rfl : v = some (.int 0) := by
          rcases hh with ⟨z, _⟩ | ⟨_, z⟩
          · cases z
          · exact z
        refine if_ne hX (5) 38 (by decide +kernel) (by decide) (fun c => absurd (by decide) c) (fun c_33 => ?_)
        refine bk hX lkX7_ok (pc' := 37) [.iconst 0] (by decide +kernel) (And.intro trivial ?_)
        exact z_iret hX (by decide +kernel) rfl (rfl) (by decide) (by decide) (by
  rw [pCl_w hW]
  exact ⟨I2, rfl, rfl, _, _, y2⟩)
      · obtain rfl : v = some (.int 1) := by
          rcases hh with ⟨_, z⟩ | ⟨z, _⟩
          · exact z
          · exact absurd rfl z
        have hq2 : q ≤ t.length := hwl.2.2.1 hp
        have hq3 : q = p + (hLs (hWd (nx t p))).length := hwl.2.2.2 rfl
        refine if_ne hX (5) 38 (by decide +kernel) (by decide) (fun c_33 => ?_) (fun c => absurd c (by decide))
        refine bk hX lkX7_ok (pc' := 39) [.aload_n 0] (by decide +kernel) (And.intro trivial ?_)
        refine z_callV hX kw_X7_53 (c_R_number E K N Rf I2 L ht hF hT y2 hq2) rfl rfl (rd_k hF _ L) rfl rfl (by decide +kernel) (by decide) (by decide) (by decide) (by decide) (Nat.le_of_ble_eq_true rfl) ?_
        rintro _ _ ⟨I3, rfl, rfl, y3⟩
        generalize hn : pNm t q = res at y3 ⊢
        obtain ⟨_ | n, q2⟩ := res
        · refine bk hX lkX7_ok (pc' := 44) [.istore_n 2, .iload_n 2] (by decide +kernel) (And.intro trivial ?_)
          refine if_ge hX (5) 49 (by decide +kernel) (by decide) (fun c => absurd c (show ¬ (0 : Int32) ≤ -nI 1 by decide)) (fun c_44 => ?_)
          refine bk hX lkX7_ok (pc' := 48) [.iconst 0] (by decide +kernel) (And.intro trivial ?_)
          exact z_iret hX (by decide +kernel) rfl (rfl) (by decide) (by decide) (by
  rw [pCl_n hW hn]
  exact ⟨I3, rfl, rfl, _, _, y3⟩)
        · have hn99 := pNm_ok hn
          refine bk hX lkX7_ok (pc' := 44) [.istore_n 2, .iload_n 2] (by decide +kernel) (And.intro trivial ?_)
          refine if_ge hX (5) 49 (by decide +kernel) (by decide) (fun c_44 => ?_) (fun c => absurd (i_nlt.mp (nI_nn (show n < 2 ^ 31 by omega))) c)
          refine bk hX lkX7_ok (pc' := 52) [.iload_n 1, .bipush 114] (by decide +kernel) (And.intro trivial ?_)
          refine ic_ne hX (13) 65 (by decide +kernel) (by decide) (fun c52 => ?_) (fun c52 => ?_)
          · have hgs := hWd_gs hW (fun z => c52 ((nxI_eq (nx_le ht p) (by decide)).mpr z))
            have hn2 : ¬ hWd (nx t p) = 2 := by omega
            refine bk hX lkX7_ok (pc' := 68) [.aload_n 0, .bipush 32] (by decide +kernel) (And.intro trivial ?_)
            refine z_callV hX kw_X7_35 (c_R_takes E K N Rf I3 L ht hF hT y3 hn99.2.2.2 (x := 32) (by decide)) rfl rfl (rd_k hF _ L) rfl rfl (by decide +kernel) (by decide) (by decide) (by decide) (by decide) (Nat.le_of_ble_eq_true rfl) ?_
            rintro _ _ (⟨z1, rfl, rfl⟩ | ⟨z1, rfl, rfl⟩)
            · have hp9 := nx_in z1 (by decide)
              have y9 := rdI_at hF y3 (q2 + 1)
              refine if_eq hX (11) 82 (by decide +kernel) (by decide) (fun c => absurd c (by decide)) (fun c_71 => ?_)
              refine bk hX lkX7_ok (pc' := 76) [.aload_n 0, .iconst 0] (by decide +kernel) (And.intro trivial ?_)
              refine z_callV hX kw_X7_59 (c_R_either4 E K N Rf L ht hF hT _ _ _ _ y9 hp9 (by omega)) rfl rfl (rd_k hF _ L) rfl rfl (by decide +kernel) (by decide) (by decide) (by decide) (by decide) (Nat.le_of_ble_eq_true rfl) ?_
              rintro v _ ⟨I5, rfl, y⟩
              generalize hq : pEi 100 t 4 (q2 + 1) = res at y
              obtain ⟨_ | ts, q5⟩ := res <;> obtain ⟨rfl, y⟩ := y
              · refine if_ne hX (5) 84 (by decide +kernel) (by decide) (fun c => absurd (by decide) c) (fun c_79 => ?_)
                refine bk hX lkX7_ok (pc' := 83) [.iconst 0] (by decide +kernel) (And.intro trivial ?_)
                exact z_iret hX (by decide +kernel) rfl (rfl) (by decide) (by decide) (by
  rw [pCl_e hW hn hn2 z1 hq]
  obtain ⟨ss9, y⟩ := y
  exact ⟨_, rfl, rfl, _, _, y⟩)
              · have ok := pEi_ok hq
                have ok3 := ok.2.2.1
                have ok4 := ok.2.2.2.1
                refine if_ne hX (5) 84 (by decide +kernel) (by decide) (fun c_79 => ?_) (fun c => absurd c (by decide))
                refine bk hX lkX7_ok (pc' := 85) [.aload_n 0] (by decide +kernel) (And.intro trivial ?_)
                refine z_gR hX lkX7_ok 24 8 2 (fun k h => h) (rd_k hF _ L) (rd_2 hF _ L) (by decide +kernel) ?_
                refine bk hX lkX7_ok (pc' := 91) [.iload_n 1, .iconst 0, .iload_n 2] (by decide +kernel) (And.intro trivial ?_)
                rw [nxI_in (show p < t.length by omega) ht]
                refine z_callV hX kw_X7_63 (c_R_add E K N Rf I5 L ht hF y (by rw [ssl]; omega) (nx t p) 0 n) rfl rfl (wo_k hF _ L) rfl rfl (by decide +kernel) (by decide) (by decide) (by decide) (by decide) (Nat.le_of_ble_eq_true rfl) ?_
                rintro _ _ ⟨I6, rfl, rfl, y6⟩
                refine bk hX lkX7_ok (pc' := 95) [.iconst 1] (by decide +kernel) (And.intro trivial ?_)
                exact z_iret hX (by decide +kernel) rfl (rfl) (by decide) (by decide) (by
  rw [pCl_s hW hn hn2 z1 hq]
  refine ⟨I6, rfl, rfl, ?_⟩
  rw [if_neg hn2, stC, if_pos (show hWd (nx t p) < 2 by omega), ← List.append_assoc, show (if hWd (nx t p) = 0 then 103 else 115) = nx t p from ?_]
  · exact y6
  · rcases hgs with ⟨z2, z3⟩ | ⟨z2, z3⟩
    · rw [if_pos z2, z3]
    · rw [if_neg (by omega), z3])
            · refine if_eq hX (11) 82 (by decide +kernel) (by decide) (fun c_71 => ?_) (fun c => absurd (by decide) c)
              refine bk hX lkX7_ok (pc' := 83) [.iconst 0] (by decide +kernel) (And.intro trivial ?_)
              exact z_iret hX (by decide +kernel) rfl (rfl) (by decide) (by decide) (by
  rw [pCl_b hW hn hn2 z1]
  exact ⟨I3, rfl, rfl, _, _, y3⟩)
          · refine bk hX lkX7_ok (pc' := 56) [.aload_n 0] (by decide +kernel) (And.intro trivial ?_)
            refine z_gR hX lkX7_ok 24 8 2 (fun k h => h) (rd_k hF _ L) (rd_2 hF _ L) (by decide +kernel) ?_
            refine bk hX lkX7_ok (pc' := 60) [.iload_n 2] (by decide +kernel) (And.intro trivial ?_)
            refine z_pI hX lkX7_ok (z_no _ _) 56 11 4 (fun k h => h) rfl (wo_k hF _ L) (by decide +kernel) ?_
            show zS _ (sg K N Rf _ L) _ _ _ _ _
            refine bk hX lkX7_ok (pc' := 64) [.iconst 1] (by decide +kernel) (And.intro trivial ?_)
            exact z_iret hX (by decide +kernel) rfl (rfl) (by decide) (by decide) (by
  rw [pCl_r hW hn (by rw [(nxI_eq (nx_le ht p) (by decide)).mp c52]; rfl)]
  refine ⟨_, rfl, rfl, ?_⟩
  show rdI rd wo a b c t I0 _ q2 (ss ++ []) n
  rw [List.append_nil]
  exact rdI_rd hF y3 n)
    · refine z_ldcS hX rfl (i := 1) (Or.inr (Or.inl ⟨rfl, rfl⟩)) (by decide +kernel) ?_
      refine gt_ hX (5) 30 (by decide +kernel) (by decide) ?_
      refine z_callV hX kw_X7_49 (c_R_spells E K N Rf I L ht hF hT h hp (by decide)) rfl rfl (rd_k hF I L) rfl rfl (by decide +kernel) (by decide) (by decide) (by decide) (by decide) (Nat.le_of_ble_eq_true rfl) ?_
      rintro v _ ⟨I2, rfl, y2, hh⟩
      first
        | rw [sp_r ((nxI_eq (nx_le ht p) (by decide)).mp c9)] at y2 hh
        | rw [sp_s ((nxI_eq (nx_le ht p) (by decide)).mp c20)] at y2 hh
        | rw [sp_g (fun z => c9 ((nxI_eq (nx_le ht p) (by decide)).mpr z)) (fun z => c20 ((nxI_eq (nx_le ht p) (by decide)).mpr z))] at y2 hh
      have hwl := pWd_le (t := t) (hLs (hWd (nx t p))) p (hLs_ok _).1
      have hw5 := (hLs_ok (hWd (nx t p))).2
      generalize hW : pWd t (hLs (hWd (nx t p))) p = W at y2 hh hwl
      obtain ⟨_ | _, q⟩ := W
      · obtain rfl : v = some (.int 0) := by
          rcases hh with ⟨z, _⟩ | ⟨_, z⟩
          · cases z
          · exact z
        refine if_ne hX (5) 38 (by decide +kernel) (by decide) (fun c => absurd (by decide) c) (fun c_33 => ?_)
        refine bk hX lkX7_ok (pc' := 37) [.iconst 0] (by decide +kernel) (And.intro trivial ?_)
        exact z_iret hX (by decide +kernel) rfl (rfl) (by decide) (by decide) (by
  rw [pCl_w hW]
  exact ⟨I2, rfl, rfl, _, _, y2⟩)
      · obtain rfl : v = some (.int 1) := by
          rcases hh with ⟨_, z⟩ | ⟨z, _⟩
          · exact z
          · exact absurd rfl z
        have hq2 : q ≤ t.length := hwl.2.2.1 hp
        have hq3 : q = p + (hLs (hWd (nx t p))).length := hwl.2.2.2 rfl
        refine if_ne hX (5) 38 (by decide +kernel) (by decide) (fun c_33 => ?_) (fun c => absurd c (by decide))
        refine bk hX lkX7_ok (pc' := 39) [.aload_n 0] (by decide +kernel) (And.intro trivial ?_)
        refine z_callV hX kw_X7_53 (c_R_number E K N Rf I2 L ht hF hT y2 hq2) rfl rfl (rd_k hF _ L) rfl rfl (by decide +kernel) (by decide) (by decide) (by decide) (by decide) (Nat.le_of_ble_eq_true rfl) ?_
        rintro _ _ ⟨I3, rfl, rfl, y3⟩
        generalize hn : pNm t q = res at y3 ⊢
        obtain ⟨_ | n, q2⟩ := res
        · refine bk hX lkX7_ok (pc' := 44) [.istore_n 2, .iload_n 2] (by decide +kernel) (And.intro trivial ?_)
          refine if_ge hX (5) 49 (by decide +kernel) (by decide) (fun c => absurd c (show ¬ (0 : Int32) ≤ -nI 1 by decide)) (fun c_44 => ?_)
          refine bk hX lkX7_ok (pc' := 48) [.iconst 0] (by decide +kernel) (And.intro trivial ?_)
          exact z_iret hX (by decide +kernel) rfl (rfl) (by decide) (by decide) (by
  rw [pCl_n hW hn]
  exact ⟨I3, rfl, rfl, _, _, y3⟩)
        · have hn99 := pNm_ok hn
          refine bk hX lkX7_ok (pc' := 44) [.istore_n 2, .iload_n 2] (by decide +kernel) (And.intro trivial ?_)
          refine if_ge hX (5) 49 (by decide +kernel) (by decide) (fun c_44 => ?_) (fun c => absurd (i_nlt.mp (nI_nn (show n < 2 ^ 31 by omega))) c)
          refine bk hX lkX7_ok (pc' := 52) [.iload_n 1, .bipush 114] (by decide +kernel) (And.intro trivial ?_)
          refine ic_ne hX (13) 65 (by decide +kernel) (by decide) (fun c52 => ?_) (fun c52 => ?_)
          · have hgs := hWd_gs hW (fun z => c52 ((nxI_eq (nx_le ht p) (by decide)).mpr z))
            have hn2 : ¬ hWd (nx t p) = 2 := by omega
            refine bk hX lkX7_ok (pc' := 68) [.aload_n 0, .bipush 32] (by decide +kernel) (And.intro trivial ?_)
            refine z_callV hX kw_X7_35 (c_R_takes E K N Rf I3 L ht hF hT y3 hn99.2.2.2 (x := 32) (by decide)) rfl rfl (rd_k hF _ L) rfl rfl (by decide +kernel) (by decide) (by decide) (by decide) (by decide) (Nat.le_of_ble_eq_true rfl) ?_
            rintro _ _ (⟨z1, rfl, rfl⟩ | ⟨z1, rfl, rfl⟩)
            · have hp9 := nx_in z1 (by decide)
              have y9 := rdI_at hF y3 (q2 + 1)
              refine if_eq hX (11) 82 (by decide +kernel) (by decide) (fun c => absurd c (by decide)) (fun c_71 => ?_)
              refine bk hX lkX7_ok (pc' := 76) [.aload_n 0, .iconst 0] (by decide +kernel) (And.intro trivial ?_)
              refine z_callV hX kw_X7_59 (c_R_either4 E K N Rf L ht hF hT _ _ _ _ y9 hp9 (by omega)) rfl rfl (rd_k hF _ L) rfl rfl (by decide +kernel) (by decide) (by decide) (by decide) (by decide) (Nat.le_of_ble_eq_true rfl) ?_
              rintro v _ ⟨I5, rfl, y⟩
              generalize hq : pEi 100 t 4 (q2 + 1) = res at y
              obtain ⟨_ | ts, q5⟩ := res <;> obtain ⟨rfl, y⟩ := y
              · refine if_ne hX (5) 84 (by decide +kernel) (by decide) (fun c => absurd (by decide) c) (fun c_79 => ?_)
                refine bk hX lkX7_ok (pc' := 83) [.iconst 0] (by decide +kernel) (And.intro trivial ?_)
                exact z_iret hX (by decide +kernel) rfl (rfl) (by decide) (by decide) (by
  rw [pCl_e hW hn hn2 z1 hq]
  obtain ⟨ss9, y⟩ := y
  exact ⟨_, rfl, rfl, _, _, y⟩)
              · have ok := pEi_ok hq
                have ok3 := ok.2.2.1
                have ok4 := ok.2.2.2.1
                refine if_ne hX (5) 84 (by decide +kernel) (by decide) (fun c_79 => ?_) (fun c => absurd c (by decide))
                refine bk hX lkX7_ok (pc' := 85) [.aload_n 0] (by decide +kernel) (And.intro trivial ?_)
                refine z_gR hX lkX7_ok 24 8 2 (fun k h => h) (rd_k hF _ L) (rd_2 hF _ L) (by decide +kernel) ?_
                refine bk hX lkX7_ok (pc' := 91) [.iload_n 1, .iconst 0, .iload_n 2] (by decide +kernel) (And.intro trivial ?_)
                rw [nxI_in (show p < t.length by omega) ht]
                refine z_callV hX kw_X7_63 (c_R_add E K N Rf I5 L ht hF y (by rw [ssl]; omega) (nx t p) 0 n) rfl rfl (wo_k hF _ L) rfl rfl (by decide +kernel) (by decide) (by decide) (by decide) (by decide) (Nat.le_of_ble_eq_true rfl) ?_
                rintro _ _ ⟨I6, rfl, rfl, y6⟩
                refine bk hX lkX7_ok (pc' := 95) [.iconst 1] (by decide +kernel) (And.intro trivial ?_)
                exact z_iret hX (by decide +kernel) rfl (rfl) (by decide) (by decide) (by
  rw [pCl_s hW hn hn2 z1 hq]
  refine ⟨I6, rfl, rfl, ?_⟩
  rw [if_neg hn2, stC, if_pos (show hWd (nx t p) < 2 by omega), ← List.append_assoc, show (if hWd (nx t p) = 0 then 103 else 115) = nx t p from ?_]
  · exact y6
  · rcases hgs with ⟨z2, z3⟩ | ⟨z2, z3⟩
    · rw [if_pos z2, z3]
    · rw [if_neg (by omega), z3])
            · refine if_eq hX (11) 82 (by decide +kernel) (by decide) (fun c_71 => ?_) (fun c => absurd (by decide) c)
              refine bk hX lkX7_ok (pc' := 83) [.iconst 0] (by decide +kernel) (And.intro trivial ?_)
              exact z_iret hX (by decide +kernel) rfl (rfl) (by decide) (by decide) (by
  rw [pCl_b hW hn hn2 z1]
  exact ⟨I3, rfl, rfl, _, _, y3⟩)
          · refine bk hX lkX7_ok (pc' := 56) [.aload_n 0] (by decide +kernel) (And.intro trivial ?_)
            refine z_gR hX lkX7_ok 24 8 2 (fun k h => h) (rd_k hF _ L) (rd_2 hF _ L) (by decide +kernel) ?_
            refine bk hX lkX7_ok (pc' := 60) [.iload_n 2] (by decide +kernel) (And.intro trivial ?_)
            refine z_pI hX lkX7_ok (z_no _ _) 56 11 4 (fun k h => h) rfl (wo_k hF _ L) (by decide +kernel) ?_
            show zS _ (sg K N Rf _ L) _ _ _ _ _
            refine bk hX lkX7_ok (pc' := 64) [.iconst 1] (by decide +kernel) (And.intro trivial ?_)
            exact z_iret hX (by decide +kernel) rfl (rfl) (by decide) (by decide) (by
  rw [pCl_r hW hn (by rw [(nxI_eq (nx_le ht p) (by decide)).mp c52]; rfl)]
  refine ⟨_, rfl, rfl, ?_⟩
  show rdI rd wo a b c t I0 _ q2 (ss ++ []) n
  rw [List.append_nil]
  exact rdI_rd hF y3 n)
  · refine z_ldcS hX rfl (i := 0) (Or.inl ⟨rfl, rfl⟩) (by decide +kernel) ?_
    refine gt_ hX (16) 30 (by decide +kernel) (by decide) ?_
    refine z_callV hX kw_X7_49 (c_R_spells E K N Rf I L ht hF hT h hp (by decide)) rfl rfl (rd_k hF I L) rfl rfl (by decide +kernel) (by decide) (by decide) (by decide) (by decide) (Nat.le_of_ble_eq_true rfl) ?_
    rintro v _ ⟨I2, rfl, y2, hh⟩
    first
      | rw [sp_r ((nxI_eq (nx_le ht p) (by decide)).mp c9)] at y2 hh
      | rw [sp_s ((nxI_eq (nx_le ht p) (by decide)).mp c20)] at y2 hh
      | rw [sp_g (fun z => c9 ((nxI_eq (nx_le ht p) (by decide)).mpr z)) (fun z => c20 ((nxI_eq (nx_le ht p) (by decide)).mpr z))] at y2 hh
    have hwl := pWd_le (t := t) (hLs (hWd (nx t p))) p (hLs_ok _).1
    have hw5 := (hLs_ok (hWd (nx t p))).2
    generalize hW : pWd t (hLs (hWd (nx t p))) p = W at y2 hh hwl
    obtain ⟨_ | _, q⟩ := W
    · obtain rfl : v = some (.int 0) := by
        rcases hh with ⟨z, _⟩ | ⟨_, z⟩
        · cases z
        · exact z
      refine if_ne hX (5) 38 (by decide +kernel) (by decide) (fun c => absurd (by decide) c) (fun c_33 => ?_)
      refine bk hX lkX7_ok (pc' := 37) [.iconst 0] (by decide +kernel) (And.intro trivial ?_)
      exact z_iret hX (by decide +kernel) rfl (rfl) (by decide) (by decide) (by
  rw [pCl_w hW]
  exact ⟨I2, rfl, rfl, _, _, y2⟩)
    · obtain rfl : v = some (.int 1) := by
        rcases hh with ⟨_, z⟩ | ⟨z, _⟩
        · exact z
        · exact absurd rfl z
      have hq2 : q ≤ t.length := hwl.2.2.1 hp
      have hq3 : q = p + (hLs (hWd (nx t p))).length := hwl.2.2.2 rfl
      refine if_ne hX (5) 38 (by decide +kernel) (by decide) (fun c_33 => ?_) (fun c => absurd c (by decide))
      refine bk hX lkX7_ok (pc' := 39) [.aload_n 0] (by decide +kernel) (And.intro trivial ?_)
      refine z_callV hX kw_X7_53 (c_R_number E K N Rf I2 L ht hF hT y2 hq2) rfl rfl (rd_k hF _ L) rfl rfl (by decide +kernel) (by decide) (by decide) (by decide) (by decide) (Nat.le_of_ble_eq_true rfl) ?_
      rintro _ _ ⟨I3, rfl, rfl, y3⟩
      generalize hn : pNm t q = res at y3 ⊢
      obtain ⟨_ | n, q2⟩ := res
      · refine bk hX lkX7_ok (pc' := 44) [.istore_n 2, .iload_n 2] (by decide +kernel) (And.intro trivial ?_)
        refine if_ge hX (5) 49 (by decide +kernel) (by decide) (fun c => absurd c (show ¬ (0 : Int32) ≤ -nI 1 by decide)) (fun c_44 => ?_)
        refine bk hX lkX7_ok (pc' := 48) [.iconst 0] (by decide +kernel) (And.intro trivial ?_)
        exact z_iret hX (by decide +kernel) rfl (rfl) (by decide) (by decide) (by
  rw [pCl_n hW hn]
  exact ⟨I3, rfl, rfl, _, _, y3⟩)
      · have hn99 := pNm_ok hn
        refine bk hX lkX7_ok (pc' := 44) [.istore_n 2, .iload_n 2] (by decide +kernel) (And.intro trivial ?_)
        refine if_ge hX (5) 49 (by decide +kernel) (by decide) (fun c_44 => ?_) (fun c => absurd (i_nlt.mp (nI_nn (show n < 2 ^ 31 by omega))) c)
        refine bk hX lkX7_ok (pc' := 52) [.iload_n 1, .bipush 114] (by decide +kernel) (And.intro trivial ?_)
        refine ic_ne hX (13) 65 (by decide +kernel) (by decide) (fun c52 => ?_) (fun c52 => ?_)
        · have hgs := hWd_gs hW (fun z => c52 ((nxI_eq (nx_le ht p) (by decide)).mpr z))
          have hn2 : ¬ hWd (nx t p) = 2 := by omega
          refine bk hX lkX7_ok (pc' := 68) [.aload_n 0, .bipush 32] (by decide +kernel) (And.intro trivial ?_)
          refine z_callV hX kw_X7_35 (c_R_takes E K N Rf I3 L ht hF hT y3 hn99.2.2.2 (x := 32) (by decide)) rfl rfl (rd_k hF _ L) rfl rfl (by decide +kernel) (by decide) (by decide) (by decide) (by decide) (Nat.le_of_ble_eq_true rfl) ?_
          rintro _ _ (⟨z1, rfl, rfl⟩ | ⟨z1, rfl, rfl⟩)
          · have hp9 := nx_in z1 (by decide)
            have y9 := rdI_at hF y3 (q2 + 1)
            refine if_eq hX (11) 82 (by decide +kernel) (by decide) (fun c => absurd c (by decide)) (fun c_71 => ?_)
            refine bk hX lkX7_ok (pc' := 76) [.aload_n 0, .iconst 0] (by decide +kernel) (And.intro trivial ?_)
            refine z_callV hX kw_X7_59 (c_R_either4 E K N Rf L ht hF hT _ _ _ _ y9 hp9 (by omega)) rfl rfl (rd_k hF _ L) rfl rfl (by decide +kernel) (by decide) (by decide) (by decide) (by decide) (Nat.le_of_ble_eq_true rfl) ?_
            rintro v _ ⟨I5, rfl, y⟩
            generalize hq : pEi 100 t 4 (q2 + 1) = res at y
            obtain ⟨_ | ts, q5⟩ := res <;> obtain ⟨rfl, y⟩ := y
            · refine if_ne hX (5) 84 (by decide +kernel) (by decide) (fun c => absurd (by decide) c) (fun c_79 => ?_)
              refine bk hX lkX7_ok (pc' := 83) [.iconst 0] (by decide +kernel) (And.intro trivial ?_)
              exact z_iret hX (by decide +kernel) rfl (rfl) (by decide) (by decide) (by
  rw [pCl_e hW hn hn2 z1 hq]
  obtain ⟨ss9, y⟩ := y
  exact ⟨_, rfl, rfl, _, _, y⟩)
            · have ok := pEi_ok hq
              have ok3 := ok.2.2.1
              have ok4 := ok.2.2.2.1
              refine if_ne hX (5) 84 (by decide +kernel) (by decide) (fun c_79 => ?_) (fun c => absurd c (by decide))
              refine bk hX lkX7_ok (pc' := 85) [.aload_n 0] (by decide +kernel) (And.intro trivial ?_)
              refine z_gR hX lkX7_ok 24 8 2 (fun k h => h) (rd_k hF _ L) (rd_2 hF _ L) (by decide +kernel) ?_
              refine bk hX lkX7_ok (pc' := 91) [.iload_n 1, .iconst 0, .iload_n 2] (by decide +kernel) (And.intro trivial ?_)
              rw [nxI_in (show p < t.length by omega) ht]
              refine z_callV hX kw_X7_63 (c_R_add E K N Rf I5 L ht hF y (by rw [ssl]; omega) (nx t p) 0 n) rfl rfl (wo_k hF _ L) rfl rfl (by decide +kernel) (by decide) (by decide) (by decide) (by decide) (Nat.le_of_ble_eq_true rfl) ?_
              rintro _ _ ⟨I6, rfl, rfl, y6⟩
              refine bk hX lkX7_ok (pc' := 95) [.iconst 1] (by decide +kernel) (And.intro trivial ?_)
              exact z_iret hX (by decide +kernel) rfl (rfl) (by decide) (by decide) (by
  rw [pCl_s hW hn hn2 z1 hq]
  refine ⟨I6, rfl, rfl, ?_⟩
  rw [if_neg hn2, stC, if_pos (show hWd (nx t p) < 2 by omega), ← List.append_assoc, show (if hWd (nx t p) = 0 then 103 else 115) = nx t p from ?_]
  · exact y6
  · rcases hgs with ⟨z2, z3⟩ | ⟨z2, z3⟩
    · rw [if_pos z2, z3]
    · rw [if_neg (by omega), z3])
          · refine if_eq hX (11) 82 (by decide +kernel) (by decide) (fun c_71 => ?_) (fun c => absurd (by decide) c)
            refine bk hX lkX7_ok (pc' := 83) [.iconst 0] (by decide +kernel) (And.intro trivial ?_)
            exact z_iret hX (by decide +kernel) rfl (rfl) (by decide) (by decide) (by
  rw [pCl_b hW hn hn2 z1]
  exact ⟨I3, rfl, rfl, _, _, y3⟩)
        · refine bk hX lkX7_ok (pc' := 56) [.aload_n 0] (by decide +kernel) (And.intro trivial ?_)
          refine z_gR hX lkX7_ok 24 8 2 (fun k h => h) (rd_k hF _ L) (rd_2 hF _ L) (by decide +kernel) ?_
          refine bk hX lkX7_ok (pc' := 60) [.iload_n 2] (by decide +kernel) (And.intro trivial ?_)
          refine z_pI hX lkX7_ok (z_no _ _) 56 11 4 (fun k h => h) rfl (wo_k hF _ L) (by decide +kernel) ?_
          show zS _ (sg K N Rf _ L) _ _ _ _ _
          refine bk hX lkX7_ok (pc' := 64) [.iconst 1] (by decide +kernel) (And.intro trivial ?_)
          exact z_iret hX (by decide +kernel) rfl (rfl) (by decide) (by decide) (by
  rw [pCl_r hW hn (by rw [(nxI_eq (nx_le ht p) (by decide)).mp c52]; rfl)]
  refine ⟨_, rfl, rfl, ?_⟩
  show rdI rd wo a b c t I0 _ q2 (ss ++ []) n
  rw [List.append_nil]
  exact rdI_rd hF y3 n)
theorem rdN_app (w : Wk) (c : Cl) : ∀ k, k ≤ w.length → rdN (w ++ [c]) k = rdN w k
  | 0, _ => rfl
  | k + 1, h => by
    have e : wkd (w ++ [c]) k = wkd w k := by
      unfold wkd
      rw [List.getD_eq_getElem?_getD, List.getElem?_append_left (by omega), ← List.getD_eq_getElem?_getD]
    rw [rdN, rdN, e, rdN_app w c k (by omega)]
theorem rdS_app (w : Wk) (c : Cl) : rdS (w ++ [c]) = if c.1 = 2 then c.2.1 else rdS w := by
  have e : wkd (w ++ [c]) w.length = c := by unfold wkd; exact getD_app w [] c _
  unfold rdS
  rw [List.length_append]
  show rdN (w ++ [c]) (w.length + 1) = _
  rw [rdN, e, rdN_app w c _ (Nat.le_refl _)]
theorem stW_1 (w : Wk) (c : Cl) : stW (w ++ [c]) = stW w ++ stC c := by
  rw [stW_app]
  show stW w ++ (stC c ++ []) = _
  rw [List.append_nil]
theorem stC_len (c : Cl) : (stC c).length ≤ c.2.2.length + 1 := by
  unfold stC
  split
  · simp
  · exact Nat.zero_le _
def wkP (rd wo a b c : Nat) (t : List Nat) (I0 : Nat → Nat → Int32) (v : Option Value) (I' : Nat → Nat → Int32) : Option Wk × Nat → Prop
  | (none, q) => v = some (.int 0) ∧ ∃ ss' r', rdI rd wo a b c t I0 I' q ss' r'
  | (some w, q) => v = some (.int 1) ∧ q ≤ t.length ∧ (stW w).length ≤ q ∧ rdI rd wo a b c t I0 I' q (stW w) (rdS w)
theorem pTx_n {Q k p q : Nat} {t : List Nat} {acc : Wk} (h : pCl Q t p = (none, q)) : pTx Q t (k + 1) p acc = (none, q) := by rw [pTx, h]
theorem pTx_e {Q k p q : Nat} {t : List Nat} {acc : Wk} {c : Cl} (h : pCl Q t p = (some c, q)) (h2 : q = t.length) : pTx Q t (k + 1) p acc = (some (acc ++ [c]), q) := by
  rw [pTx, h]
  exact if_pos h2
theorem pTx_0 {Q p q : Nat} {t : List Nat} {acc : Wk} {c : Cl} (h : pCl Q t p = (some c, q)) (h2 : ¬ q = t.length) : pTx Q t (0 + 1) p acc = (none, q) := by
  rw [pTx, h]
  exact (if_neg h2).trans (if_pos rfl)
theorem pTx_c {Q k p q : Nat} {t : List Nat} {acc : Wk} {c : Cl} (h : pCl Q t p = (some c, q)) (h2 : ¬ q = t.length) (hk : ¬ k = 0) (h3 : nx t q = 59) : pTx Q t (k + 1) p acc = pTx Q t k (q + 1) (acc ++ [c]) := by
  rw [pTx, h]
  exact (if_neg h2).trans ((if_neg hk).trans (if_pos h3))
theorem pTx_f {Q k p q : Nat} {t : List Nat} {acc : Wk} {c : Cl} (h : pCl Q t p = (some c, q)) (h2 : ¬ q = t.length) (hk : ¬ k = 0) (h3 : ¬ nx t q = 59) : pTx Q t (k + 1) p acc = (none, q) := by
  rw [pTx, h]
  exact (if_neg h2).trans ((if_neg hk).trans (if_neg h3))
theorem c_R_works (E : zE) (K N : Nat → Nat) (Rf : Nat → Nat → Option Nat) (I : Nat → Nat → Int32) (L : Nat → Nat → Int64) {I0 : Nat → Nat → Int32} {rd wo a b c : Nat} {t : List Nat} (ht : txw t) (hF : rdF rd wo a b c t K N Rf) (hT : ∀ k, k < t.length → I0 205 k = nI (t.getD k 0)) (h : rdI rd wo a b c t I0 I 0 [] 0) : zCt E mX7_isWorks 16 0 0 (sg K N Rf I L) [.ref rd] (fun v σ' => ∃ I', σ' = sg K N Rf I' L ∧ wkP rd wo a b c t I0 v I' (pWk 100 10 t)) := by
  have ht1 := ht.1
  refine z_intro (by decide) (Nat.le_of_ble_eq_true rfl) (fun X hX => ?_)
  have hl : ∀ k, k ≤ 10 → 0 < k → ∀ (q0 : Nat) (acc : Wk) (J : Nat → Nat → Int32), rdI rd wo a b c t I0 J q0 (stW acc) (rdS acc) → q0 ≤ t.length → (stW acc).length ≤ q0 → pTx 100 t k q0 acc = pWk 100 10 t → zS X (sg K N Rf J L) 0 0 2 [(0, .ref rd), (1, .int (nI (11 - k)))] [] := by
    intro k
    induction k with
    | zero => intro _ h0; exact absurd h0 (Nat.lt_irrefl _)
    | succ k ih =>
      intro hk _ q0 acc J h hp hss hw
      refine bk hX lkX7_ok (pc' := 5) [.iload_n 1, .bipush 10] (by decide +kernel) (And.intro trivial ?_)
      refine ic_gt hX (48) 53 (by decide +kernel) (by decide) (fun c => absurd c (fun z => absurd ((nI_ltI (a := 10) (b := 11 - (k + 1)) (by decide) (by omega)).mp z) (show ¬ 10 < 11 - (k + 1) by omega))) (fun c_5 => ?_)
      refine bk hX lkX7_ok (pc' := 9) [.aload_n 0] (by decide +kernel) (And.intro trivial ?_)
      refine z_callV hX kw_X7_28 (c_R_clause E K N Rf J L ht hF hT h hp hss) rfl rfl (rd_k hF _ L) rfl rfl (by decide +kernel) (by decide) (by decide) (by decide) (by decide) (Nat.le_of_ble_eq_true rfl) ?_
      rintro v _ ⟨I2, rfl, y⟩
      generalize hq : pCl 100 t q0 = res at y
      obtain ⟨_ | l, q⟩ := res <;> obtain ⟨rfl, y⟩ := y
      · refine if_ne hX (5) 17 (by decide +kernel) (by decide) (fun c => absurd (by decide) c) (fun c_12 => ?_)
        refine bk hX lkX7_ok (pc' := 16) [.iconst 0] (by decide +kernel) (And.intro trivial ?_)
        exact z_iret hX (by decide +kernel) rfl (rfl) (by decide) (by decide) (by
  rw [← hw, pTx_n hq]
  exact ⟨I2, rfl, rfl, y⟩)
      · have ok := pCl_ok hq
        obtain ⟨ok1, ok2, ok3, ok4, ok5, ok6⟩ := ok
        have hsl := stC_len l
        rw [← stW_1, ← rdS_app] at y
        have hss2 : (stW (acc ++ [l])).length ≤ q := by rw [stW_1, List.length_append]; omega
        refine if_ne hX (5) 17 (by decide +kernel) (by decide) (fun c_12 => ?_) (fun c => absurd c (by decide))
        refine bk hX lkX7_ok (pc' := 18) [.aload_n 0] (by decide +kernel) (And.intro trivial ?_)
        refine z_gIv hX lkX7_ok 32 8 3 (fun k h => h) (by decide) (rd_k hF _ L) (by decide +kernel) (y.2.2.1) ?_
        refine bk hX lkX7_ok (pc' := 22) [.aload_n 0] (by decide +kernel) (And.intro trivial ?_)
        refine z_gIv hX lkX7_ok 15 8 1 (fun k h => h) (by decide) (rd_k hF _ L) (by decide +kernel) (y.2.1) ?_
        refine ic_ne hX (5) 30 (by decide +kernel) (by decide) (fun c25 => ?_) (fun c25 => ?_)
        · have hne : ¬ q = t.length := fun z => c25 (by rw [z])
          refine bk hX lkX7_ok (pc' := 33) [.iload_n 1, .bipush 10] (by decide +kernel) (And.intro trivial ?_)
          refine ic_eq hX (12) 45 (by decide +kernel) (by decide) (fun c33 => ?_) (fun c33 => ?_)
          · refine bk hX lkX7_ok (pc' := 46) [.iconst 0] (by decide +kernel) (And.intro trivial ?_)
            exact z_iret hX (by decide +kernel) rfl (rfl) (by decide) (by decide) (by
  have e : k = 0 := by
    have := nI_inj (a := 11 - (k + 1)) (b := 10) (by omega) (by decide) c33
    have e2 : 11 - (k + 1) = 10 := this
    omega
  subst e
  rw [← hw, pTx_0 hq hne]
  exact ⟨I2, rfl, rfl, _, _, y⟩)
          · refine bk hX lkX7_ok (pc' := 39) [.aload_n 0, .bipush 59] (by decide +kernel) (And.intro trivial ?_)
            refine z_callV hX kw_X7_35 (c_R_takes E K N Rf I2 L ht hF hT y ok4 (x := 59) (by decide)) rfl rfl (rd_k hF _ L) rfl rfl (by decide +kernel) (by decide) (by decide) (by decide) (by decide) (Nat.le_of_ble_eq_true rfl) ?_
            have hk0 : ¬ k = 0 := fun z => c33 (by rw [z])
            rintro _ _ (⟨z1, rfl, rfl⟩ | ⟨z1, rfl, rfl⟩)
            · refine if_ne hX (5) 47 (by decide +kernel) (by decide) (fun c_42 => ?_) (fun c => absurd c (by decide))
              refine bk hX lkX7_ok (pc' := 50) [.iinc 1 1] (by decide +kernel) (And.intro trivial ?_)
              refine gt_ hX (-48) 2 (by decide +kernel) (by decide) ?_
              refine z_lvk (lv' := [(0, _), (1, _)]) [1, 0] rfl ?_
              rw [nI_add, show 11 - (k + 1) + 1 = 11 - k by omega]
              exact ih (by omega) (by omega) (q + 1) _ _ (rdI_at hF y (q + 1)) (nx_in z1 (by decide)) (by omega) (by rw [← hw, pTx_c hq hne hk0 z1])
            · refine if_ne hX (5) 47 (by decide +kernel) (by decide) (fun c => absurd (by decide) c) (fun c_42 => ?_)
              refine bk hX lkX7_ok (pc' := 46) [.iconst 0] (by decide +kernel) (And.intro trivial ?_)
              exact z_iret hX (by decide +kernel) rfl (rfl) (by decide) (by decide) (by
  rw [← hw, pTx_f hq hne hk0 z1]
  exact ⟨I2, rfl, rfl, _, _, y⟩)
        · refine bk hX lkX7_ok (pc' := 29) [.iconst 1] (by decide +kernel) (And.intro trivial ?_)
          exact z_iret hX (by decide +kernel) rfl (rfl) (by decide) (by decide) (by
  rw [← hw, pTx_e hq (nI_inj (by omega) (by omega) c25)]
  exact ⟨I2, rfl, rfl, ok4, hss2, y⟩)
  refine bk hX lkX7_ok (pc' := 2) [.iconst 1, .istore_n 1] (by decide +kernel) (And.intro trivial ?_)
  refine z_lvk (lv' := [(0, _), (1, _)]) [1, 0] rfl ?_
  exact hl 10 (Nat.le_refl _) (by decide) 0 [] I h (Nat.zero_le _) (Nat.le_refl _) rfl
