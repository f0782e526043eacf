theorem c_M_next (E : zE) (K N : Nat → Nat) (Rf : Nat → Nat → Option Nat) (I : Nat → Nat → Int32) (L : Nat → Nat → Int64) {t : List Nat} (ht : txw t) (hx : mTx t I) {a : Nat} (ha : I 100 11 = nI a) (hal : a ≤ t.length) : zCt E mX12_next 0 0 0 (sg K N Rf I L) [.ref 100] (fun r σ' => σ' = (sg K N Rf I L) ∧ r = some (.int (nxI (nx t a)))) := by
  obtain ⟨x1, x2, x3⟩ := hx
  refine z_intro (by decide) (Nat.le_of_ble_eq_true rfl) (fun X hX => ?_)
  refine bk hX lkX12_ok (pc' := 8) [.aload_n 0, .getfield 44, .aload_n 0, .getfield 41] (by decide +kernel) (And.intro trivial ?_)
  rw [ha, x1]
  refine ic_ge hX (15) 23 (by decide +kernel) (by decide) (fun c1 => ?_) (fun c1 => ?_)
  · refine bk hX lkX12_ok (pc' := 24) [.iconst (Int.negSucc 0)] (by decide +kernel) (And.intro trivial ?_)
    exact z_iret hX (by decide +kernel) rfl (rfl) (by decide) (by decide) (by first
  | exact ⟨rfl, by rw [ha, cl (by omega), show I (101 + 13) a = _ from x3 a hlt, nx_at hlt 0, ← nx_at hlt 0]; unfold nxI; rw [if_neg (by omega)]⟩
  | exact ⟨rfl, by rw [nx_end (fun z => absurd (nI_lt z (by omega)) (i_nlt.mpr c1))]; rfl⟩)
  · have hlt : a < t.length := (nI_ltI (by omega) (by omega)).mp (i_nle.mp c1)
    have h128 := nx_lt ht hlt
    refine bk hX lkX12_ok (pc' := 20) [.aload_n 0, .getfield 50, .aload_n 0, .getfield 44, .iaload] (by decide +kernel) (And.intro (by rw [ha]; exact vin 100 (by omega)) (And.intro trivial ?_))
    refine gt_ hX (4) 24 (by decide +kernel) (by decide) ?_
    exact z_iret hX (by decide +kernel) rfl (rfl) (by decide) (by decide) (by first
  | exact ⟨rfl, by rw [ha, cl (by omega), show I (101 + 13) a = _ from x3 a hlt, nx_at hlt 0, ← nx_at hlt 0]; unfold nxI; rw [if_neg (by omega)]⟩
  | exact ⟨rfl, by rw [nx_end (fun z => absurd (nI_lt z (by omega)) (i_nlt.mpr c1))]; rfl⟩)
theorem c_M_takes (E : zE) (K N : Nat → Nat) (Rf : Nat → Nat → Option Nat) (I : Nat → Nat → Int32) (L : Nat → Nat → Int64) {t : List Nat} (ht : txw t) (hx : mTx t I) {a : Nat} (ha : I 100 11 = nI a) (hal : a ≤ t.length) {c : Nat} (hc : c < 128) : zCt E mX12_takes 1 0 0 (sg K N Rf I L) [.ref 100, .int (nI c)] (fun r σ' => (nx t a = c ∧ r = some (.int 1) ∧ σ' = sg K N Rf (up2 I 100 11 (nI (a + 1))) L) ∨ (¬ nx t a = c ∧ r = some (.int 0) ∧ σ' = (sg K N Rf I L))) := by
  refine z_intro (by decide) (Nat.le_of_ble_eq_true rfl) (fun X hX => ?_)
  refine bk hX lkX12_ok (pc' := 1) [.aload_n 0] (by decide +kernel) (And.intro trivial ?_)
  refine z_callV hX kw_X12_247 (c_M_next E K N Rf I L ht hx ha hal) rfl rfl rfl rfl rfl (by decide +kernel) (by decide) (by decide) (by decide) (by decide) (Nat.le_of_ble_eq_true rfl) ?_
  rintro _ _ ⟨rfl, rfl⟩
  refine bk hX lkX12_ok (pc' := 5) [.iload_n 1] (by decide +kernel) (And.intro trivial ?_)
  refine ic_eq hX (5) 10 (by decide +kernel) (by decide) (fun c1 => ?_) (fun c1 => ?_)
  · refine bk hX lkX12_ok (pc' := 21) [.aload_n 0, .dup, .getfield 44, .iconst 1, .iadd, .putfield 44, .iconst 1] (by decide +kernel) (And.intro trivial ?_)
    exact z_iret hX (by decide +kernel) rfl (rfl) (by decide) (by decide) (Or.inl ⟨(nxI_eq (nx_le ht a) hc).mp c1, rfl, by rw [ha, nI_add]⟩)
  · refine bk hX lkX12_ok (pc' := 9) [.iconst 0] (by decide +kernel) (And.intro trivial ?_)
    exact z_iret hX (by decide +kernel) rfl (rfl) (by decide) (by decide) (Or.inr ⟨fun z => c1 ((nxI_eq (nx_le ht a) hc).mpr z), rfl, rfl⟩)
theorem mTx_at {t : List Nat} {I I' : Nat → Nat → Int32} {Ps Fs : List Nat} (hx : mTx t I) (h : frX Ps Fs I I') (h1 : 114 ∉ Ps) (h2 : 10 ∉ Fs) : mTx t I' := by
  unfold mTx
  rw [h.1 _ h1 (by decide), h.2 _ h2]
  exact hx
theorem txw_le {t : List Nat} (ht : txw t) : t.length ≤ 100 := ht.1
def mLe (I : Nat → Nat → Int32) : Prop := ∀ k, k < 13 → I 125 k = nI (zget [103, 108, 97, 100, 115, 111, 117, 114, 114, 111, 117, 110, 100] k)
theorem pWd_s (t : List Nat) (c : Nat) (r : List Nat) (a : Nat) : pWd t (c :: r) a = if nx t a = c then pWd t r (a + 1) else (false, a) := rfl
set_option maxHeartbeats 1000000 in
theorem c_M_takesWord (E : zE) (K N : Nat → Nat) (Rf : Nat → Nat → Option Nat) (I : Nat → Nat → Int32) (L : Nat → Nat → Int64) {t : List Nat} (ht : txw t) (hx : mTx t I) {a : Nat} (ha : I 100 11 = nI a) (hal : a ≤ t.length) (hL : mLe I) {f m : Nat} {ws : List Nat} (hf : f + m ≤ 13) (hm : m ≤ 5) (hws : ws.length = m) (hwk : ∀ k, k < m → ws.getD k 0 = zget [103, 108, 97, 100, 115, 111, 117, 114, 114, 111, 117, 110, 100] (f + k)) (h128 : ∀ x ∈ ws, x < 128) : zCt E mX12_takesWord 2 0 0 (sg K N Rf I L) [.ref 100, .int (nI f), .int (nI m)] (fun r σ' => ∃ I', σ' = sg K N Rf I' L ∧ r = some (.int (b2i (pWd t (ws ++ [32]) a).1)) ∧ I' 100 11 = nI (pWd t (ws ++ [32]) a).2 ∧ frX [] [11] I I') := by
  have hl100 := ht.1
  refine z_intro (by decide) (Nat.le_of_ble_eq_true rfl) (fun X hX => ?_)
  have hl : ∀ n k b (I1 : Nat → Nat → Int32), k + n = m → b ≤ t.length → I1 100 11 = nI b → frX [] [11] I I1 → pWd t (ws.drop k ++ [32]) b = pWd t (ws ++ [32]) a → zS X (sg K N Rf I1 L) 0 0 2 [(0, .ref 100), (1, .int (nI f)), (2, .int (nI m)), (3, .int (nI k))] [] := by
    intro n
    induction n with
    | zero =>
      intro k b I1 hk hb h1 h2 h3
      obtain rfl : k = m := by omega
      rw [List.drop_of_length_le (by omega), List.nil_append, pWd_s] at h3
      refine bk hX lkX12_ok (pc' := 4) [.iload_n 3, .iload_n 2] (by decide +kernel) (And.intro trivial ?_)
      refine ic_ge hX (26) 30 (by decide +kernel) (by decide) (fun c_4 => ?_) (fun c => absurd (nI_le (by omega) (by omega)) c)
      refine bk hX lkX12_ok (pc' := 33) [.aload_n 0, .bipush 32] (by decide +kernel) (And.intro trivial ?_)
      refine z_callV hX kw_X12_251 (c_M_takes E K N Rf I1 L ht (mTx_at hx h2 (by decide) (by decide)) h1 hb (c := 32) (by decide)) rfl rfl rfl rfl rfl (by decide +kernel) (by decide) (by decide) (by decide) (by decide) (Nat.le_of_ble_eq_true rfl) ?_
      rintro _ _ (⟨c1, rfl, rfl⟩ | ⟨c1, rfl, rfl⟩)
      · rw [if_pos c1] at h3
        exact z_iret hX (by decide +kernel) rfl rfl (by decide) (by decide) ⟨_, rfl, by rw [← h3]; rfl, by rw [up2_self, ← h3]; rfl, frX_tr h2 (frX_f (by decide))⟩
      · rw [if_neg c1] at h3
        exact z_iret hX (by decide +kernel) rfl rfl (by decide) (by decide) ⟨_, rfl, by rw [← h3]; rfl, by rw [← h3]; exact h1, h2⟩
    | succ n ih =>
      intro k b I1 hk hb h1 h2 h3
      have hkl : k < ws.length := by omega
      have e1 : ws.drop k = ws.getD k 0 :: ws.drop (k + 1) := by
        rw [List.getD_eq_getElem?_getD, List.getElem?_eq_getElem hkl]
        exact List.drop_eq_getElem_cons hkl
      have hc128 : ws.getD k 0 < 128 := by
        rw [List.getD_eq_getElem?_getD, List.getElem?_eq_getElem hkl]
        exact h128 _ (List.getElem_mem hkl)
      have e2 : I1 125 (f + k) = nI (ws.getD k 0) := by
        rw [h2.1 _ (by decide) (by decide), hL (f + k) (by omega), hwk k (by omega)]
      rw [e1, List.cons_append, pWd_s] at h3
      refine bk hX lkX12_ok (pc' := 4) [.iload_n 3, .iload_n 2] (by decide +kernel) (And.intro trivial ?_)
      refine ic_ge hX (26) 30 (by decide +kernel) (by decide) (fun c => absurd c (nI_ge (by omega) (by omega))) (fun c_4 => ?_)
      refine bk hX lkX12_ok (pc' := 16) [.aload_n 0, .aload_n 0, .getfield 83, .iload_n 1, .iload_n 3, .iadd, .iaload] (by decide +kernel) (And.intro (by rw [nI_add]; exact vin 13 (by omega)) (And.intro trivial ?_))
      rw [nI_add, cl (by omega), show I1 (101 + 24) (f + k) = _ from e2]
      refine z_callV hX kw_X12_251 (c_M_takes E K N Rf I1 L ht (mTx_at hx h2 (by decide) (by decide)) h1 hb hc128) rfl rfl rfl rfl rfl (by decide +kernel) (by decide) (by decide) (by decide) (by decide) (Nat.le_of_ble_eq_true rfl) ?_
      rintro _ _ (⟨c1, rfl, rfl⟩ | ⟨c1, rfl, rfl⟩)
      · rw [if_pos c1] at h3
        have hb1 := nx_in c1 hc128
        refine if_ne hX (5) 24 (by decide +kernel) (by decide) (fun c_19 => ?_) (fun c => absurd c (by decide))
        refine bk hX lkX12_ok (pc' := 27) [.iinc 3 1] (by decide +kernel) (And.intro trivial ?_)
        refine gt_ hX (-25) 2 (by decide +kernel) (by decide) ?_
        refine z_lvk (lv' := [(0, _), (1, _), (2, _), (3, _)]) [1, 2, 3, 0] rfl ?_
        rw [nI_add]
        exact ih (k + 1) (b + 1) _ (by omega) (by omega) (by rw [up2_self]) (frX_tr h2 (frX_f (by decide))) h3
      · rw [if_neg c1] at h3
        refine if_ne hX (5) 24 (by decide +kernel) (by decide) (fun c => absurd (rfl) c) (fun c_19 => ?_)
        refine bk hX lkX12_ok (pc' := 23) [.iconst 0] (by decide +kernel) (And.intro trivial ?_)
        exact z_iret hX (by decide +kernel) rfl (rfl) (by decide) (by decide) (⟨_, rfl, by rw [← h3]; rfl, by rw [← h3]; exact h1, h2⟩)
  refine bk hX lkX12_ok (pc' := 2) [.iconst 0, .istore_n 3] (by decide +kernel) (And.intro trivial ?_)
  refine z_lvk (lv' := [(0, _), (1, _), (2, _), (3, _)]) [1, 2, 3, 0] rfl ?_
  exact hl m 0 a I (by omega) hal ha (frX_rf _ _ _) rfl
theorem dg_in {c : Nat} (hc : c ≤ 200) : (nI 48 ≤ nxI c ∧ nxI c ≤ nI 57) ↔ dgB c = true := by
  rw [dgB_iff]
  unfold nxI
  split
  · rename_i h
    constructor
    · intro z; exact absurd z.1 (by decide)
    · intro z; omega
  · rw [nI_leI (by omega) (by omega), nI_leI (by omega) (by omega)]
theorem c_M_isDigit (E : zE) (K N : Nat → Nat) (Rf : Nat → Nat → Option Nat) (I : Nat → Nat → Int32) (L : Nat → Nat → Int64) {t : List Nat} (ht : txw t) (hx : mTx t I) {a : Nat} (ha : I 100 11 = nI a) (hal : a ≤ t.length) : zCt E mX12_isDigit 1 0 0 (sg K N Rf I L) [.ref 100] (fun r σ' => σ' = (sg K N Rf I L) ∧ (((dgB (nx t a) = true) ∧ r = some (.int 1)) ∨ (¬ ((dgB (nx t a) = true)) ∧ r = some (.int 0)))) := by
  refine z_intro (by decide) (Nat.le_of_ble_eq_true rfl) (fun X hX => ?_)
  refine bk hX lkX12_ok (pc' := 2) [.aload_n 0, .aload_n 0] (by decide +kernel) (And.intro trivial ?_)
  refine z_callV hX kw_X12_247 (c_M_next E K N Rf I L ht hx ha hal) rfl rfl rfl rfl rfl (by decide +kernel) (by decide) (by decide) (by decide) (by decide) (Nat.le_of_ble_eq_true rfl) ?_
  rintro _ _ ⟨rfl, rfl⟩
  refine bk hX lkX12_ok (pc' := 9) [.bipush 48, .bipush 57] (by decide +kernel) (And.intro trivial ?_)
  refine z_callV hX kw_X12_228 (c_M_in E _ _ _ _ _) rfl rfl rfl rfl rfl (by decide +kernel) (by decide) (by decide) (by decide) (by decide) (Nat.le_of_ble_eq_true rfl) ?_
  rintro _ _ ⟨rfl, hh⟩
  rw [dg_in (nx_le ht a)] at hh
  rcases hh with ⟨hq, rfl⟩ | ⟨hq, rfl⟩
  · exact z_iret hX (by decide +kernel) rfl (rfl) (by decide) (by decide) (by first | exact ⟨rfl, Or.inl ⟨hq, rfl⟩⟩ | exact ⟨rfl, Or.inr ⟨hq, rfl⟩⟩)
  · exact z_iret hX (by decide +kernel) rfl (rfl) (by decide) (by decide) (by first | exact ⟨rfl, Or.inl ⟨hq, rfl⟩⟩ | exact ⟨rfl, Or.inr ⟨hq, rfl⟩⟩)
set_option maxHeartbeats 1000000 in
theorem c_M_takesNumber (E : zE) (K N : Nat → Nat) (Rf : Nat → Nat → Option Nat) (I : Nat → Nat → Int32) (L : Nat → Nat → Int64) {t : List Nat} (ht : txw t) (hx : mTx t I) {a : Nat} (ha : I 100 11 = nI a) (hal : a ≤ t.length) : zCt E mX12_takesNumber 2 0 0 (sg K N Rf I L) [.ref 100] (fun r σ' => ∃ I', σ' = sg K N Rf I' L ∧ frX [] [11, 12] I I' ∧ I' 100 11 = nI (pNm t a).2 ∧ (((pNm t a).1 = none ∧ r = some (.int 0)) ∨ ∃ n, (pNm t a).1 = some n ∧ r = some (.int 1) ∧ I' 100 12 = nI n)) := by
  have hl100 := ht.1
  refine z_intro (by decide) (Nat.le_of_ble_eq_true rfl) (fun X hX => ?_)
  have hret : ∀ (k : Int32) (I1 : Nat → Nat → Int32) n, frX [] [11, 12] I I1 → I1 100 11 = nI (pNm t a).2 → (pNm t a).1 = some n → I1 100 12 = nI n → zS X (sg K N Rf I1 L) 0 0 63 [(0, .ref 100), (1, .int k)] [] := by
    intro k I1 n h1 h2 h3 h4
    refine bk hX lkX12_ok (pc' := 64) [.iconst 1] (by decide +kernel) (And.intro trivial ?_)
    exact z_iret hX (by decide +kernel) rfl (rfl) (by decide) (by decide) (⟨I1, rfl, h1, h2, Or.inr ⟨n, h3, rfl, h4⟩⟩)
  have h2nd : ∀ (I1 : Nat → Nat → Int32), dgB (nx t a) = true → frX [] [11, 12] I I1 → I1 100 11 = nI (a + 1) → I1 100 12 = nI (nx t a - 48) → zS X (sg K N Rf I1 L) 0 0 16 [(0, .ref 100), (1, .int (nI 1))] [] := by
    intro I1 hd h1 h2 h3
    have hd2 := dgB_iff.mp hd
    have hin := nx_in (t := t) (a := a) rfl (by omega)
    have hx1 := mTx_at hx h1 (by decide) (by decide)
    refine bk hX lkX12_ok (pc' := 18) [.iload_n 1, .iconst 2] (by decide +kernel) (And.intro trivial ?_)
    refine ic_ge hX (45) 63 (by decide +kernel) (by decide) (fun c => absurd c (by decide)) (fun c_18 => ?_)
    refine bk hX lkX12_ok (pc' := 22) [.aload_n 0] (by decide +kernel) (And.intro trivial ?_)
    refine z_callV hX kw_X12_254 (c_M_isDigit E K N Rf I1 L ht hx1 h2 (by omega)) rfl rfl rfl rfl rfl (by decide +kernel) (by decide) (by decide) (by decide) (by decide) (Nat.le_of_ble_eq_true rfl) ?_
    rintro _ _ ⟨rfl, hh⟩
    rcases hh with ⟨hq, rfl⟩ | ⟨hq, rfl⟩
    · refine if_eq hX (38) 63 (by decide +kernel) (by decide) (fun c => absurd c (by decide)) (fun c_25 => ?_)
      refine bk hX lkX12_ok (pc' := 29) [.aload_n 0] (by decide +kernel) (And.intro trivial ?_)
      have hq2 := dgB_iff.mp hq
      have hin2 := nx_in (t := t) (a := a + 1) rfl (by omega)
      refine bk hX lkX12_ok (pc' := 37) [.bipush 10, .aload_n 0, .getfield 47, .imul, .aload_n 0] (by decide +kernel) (And.intro trivial ?_)
      refine z_callV hX kw_X12_247 (c_M_next E K N Rf I1 L ht hx1 h2 (by omega)) rfl rfl rfl rfl rfl (by decide +kernel) (by decide) (by decide) (by decide) (by decide) (Nat.le_of_ble_eq_true rfl) ?_
      rintro _ _ ⟨rfl, rfl⟩
      refine bk hX lkX12_ok (pc' := 60) [.iadd, .bipush 48, .isub, .putfield 47, .aload_n 0, .dup, .getfield 44, .iconst 1, .iadd, .putfield 44, .iinc 1 1] (by decide +kernel) (And.intro trivial ?_)
      refine gt_ hX (-44) 16 (by decide +kernel) (by decide) ?_
      refine z_lvk (lv' := [(0, _), (1, _)]) [1, 0] rfl ?_
      rw [show nxI (nx t (a + 1)) = nI (nx t (a + 1)) by unfold nxI; rw [if_neg (by omega)], h3, show nI 10 * nI (nx t a - 48) = nI (10 * (nx t a - 48)) from pk_mul _ _, nI_add, show nI (10 * (nx t a - 48) + nx t (a + 1)) - nI 48 = nI (10 * (nx t a - 48) + nx t (a + 1) - 48) from pk_sub (by omega)]
      refine bk hX lkX12_ok (pc' := 18) [.iload_n 1, .iconst 2] (by decide +kernel) (And.intro trivial ?_)
      refine ic_ge hX (45) 63 (by decide +kernel) (by decide) (fun c_18 => ?_) (fun c => absurd (by decide) c)
      refine z_lvk (lv' := [(0, _), (1, _)]) [0, 1] rfl ?_
      refine hret _ _ (10 * (nx t a - 48) + (nx t (a + 1) - 48)) (frX_tr h1 (frX_tr (frX_f (by decide)) (frX_f (by decide)))) ?_ ?_ ?_
      · unfold pNm; rw [if_pos hd, if_pos hq]; simp [up2_v, h2, nI_add]
      · unfold pNm; rw [if_pos hd, if_pos hq]
      · rw [up2_v, if_neg (by omega), up2_self, show 10 * (nx t a - 48) + nx t (a + 1) - 48 = 10 * (nx t a - 48) + (nx t (a + 1) - 48) by omega]
    · refine if_eq hX (38) 63 (by decide +kernel) (by decide) (fun c_25 => ?_) (fun c => absurd (by decide) c)
      refine z_lvk (lv' := [(0, _), (1, _)]) [0, 1] rfl ?_
      refine hret _ I1 (nx t a - 48) h1 ?_ ?_ h3 <;> unfold pNm <;> rw [if_pos hd, if_neg hq]
      exact h2
  refine bk hX lkX12_ok (pc' := 1) [.aload_n 0] (by decide +kernel) (And.intro trivial ?_)
  refine z_callV hX kw_X12_254 (c_M_isDigit E K N Rf I L ht hx ha hal) rfl rfl rfl rfl rfl (by decide +kernel) (by decide) (by decide) (by decide) (by decide) (Nat.le_of_ble_eq_true rfl) ?_
  rintro _ _ ⟨rfl, hh⟩
  rcases hh with ⟨hd, rfl⟩ | ⟨hd, rfl⟩
  · refine if_ne hX (5) 9 (by decide +kernel) (by decide) (fun c_4 => ?_) (fun c => absurd c (by decide))
    refine bk hX lkX12_ok (pc' := 16) [.aload_n 0, .iconst 0, .putfield 47, .iconst 0, .istore_n 1] (by decide +kernel) (And.intro trivial ?_)
    refine z_lvk (lv' := [(0, _), (1, _)]) [1, 0] rfl ?_
    have hx1 : mTx t (up2 I 100 12 (nI 0)) := mTx_at (Ps := []) (Fs := [11, 12]) hx (frX_f (by decide)) (by decide) (by decide)
    have ha1 : up2 I 100 12 (nI 0) 100 11 = nI a := by rw [up2_v, if_neg (by omega)]; exact ha
    have hd2 := dgB_iff.mp hd
    refine bk hX lkX12_ok (pc' := 18) [.iload_n 1, .iconst 2] (by decide +kernel) (And.intro trivial ?_)
    refine ic_ge hX (45) 63 (by decide +kernel) (by decide) (fun c => absurd c (by decide)) (fun c_18 => ?_)
    refine bk hX lkX12_ok (pc' := 22) [.aload_n 0] (by decide +kernel) (And.intro trivial ?_)
    refine z_callV hX kw_X12_254 (c_M_isDigit E K N Rf _ L ht hx1 ha1 hal) rfl rfl rfl rfl rfl (by decide +kernel) (by decide) (by decide) (by decide) (by decide) (Nat.le_of_ble_eq_true rfl) ?_
    rintro _ _ ⟨rfl, hh⟩
    rcases hh with ⟨hq, rfl⟩ | ⟨hq, rfl⟩
    · refine if_eq hX (38) 63 (by decide +kernel) (by decide) (fun c => absurd c (by decide)) (fun c_25 => ?_)
      refine bk hX lkX12_ok (pc' := 37) [.aload_n 0, .bipush 10, .aload_n 0, .getfield 47, .imul, .aload_n 0] (by decide +kernel) (And.intro trivial ?_)
      refine z_callV hX kw_X12_247 (c_M_next E K N Rf _ L ht hx1 ha1 hal) rfl rfl rfl rfl rfl (by decide +kernel) (by decide) (by decide) (by decide) (by decide) (Nat.le_of_ble_eq_true rfl) ?_
      rintro _ _ ⟨rfl, rfl⟩
      refine bk hX lkX12_ok (pc' := 60) [.iadd, .bipush 48, .isub, .putfield 47, .aload_n 0, .dup, .getfield 44, .iconst 1, .iadd, .putfield 44, .iinc 1 1] (by decide +kernel) (And.intro trivial ?_)
      refine gt_ hX (-44) 16 (by decide +kernel) (by decide) ?_
      refine z_lvk (lv' := [(0, _), (1, _)]) [1, 0] rfl ?_
      rw [show nxI (nx t a) = nI (nx t a) by unfold nxI; rw [if_neg (by omega)], up2_self, show nI 10 * nI 0 + nI (nx t a) = nI (nx t a) by rw [show nI 10 * nI 0 = nI 0 by decide, nI_add, Nat.zero_add], show nI (nx t a) - nI 48 = nI (nx t a - 48) from pk_sub (by omega)]
      exact h2nd _ hd (frX_tr (frX_f (by decide)) (frX_tr (frX_f (by decide)) (frX_f (by decide)))) (by simp [up2_v, ha, nI_add]) (by simp [up2_v])
    · refine if_eq hX (38) 63 (by decide +kernel) (by decide) (fun c_25 => ?_) (fun c => absurd (by decide) c)
      refine z_lvk (lv' := [(0, _), (1, _)]) [0, 1] rfl ?_
      exact absurd hd hq
  · refine if_ne hX (5) 9 (by decide +kernel) (by decide) (fun c => absurd (by decide) c) (fun c_4 => ?_)
    refine bk hX lkX12_ok (pc' := 8) [.iconst 0] (by decide +kernel) (And.intro trivial ?_)
    exact z_iret hX (by decide +kernel) rfl (rfl) (by decide) (by decide) (⟨I, rfl, frX_rf _ _ _, by unfold pNm; rw [if_neg hd]; exact ha, Or.inl ⟨by unfold pNm; rw [if_neg hd], rfl⟩⟩)
