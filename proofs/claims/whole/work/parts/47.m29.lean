/-- a clause lies in the model's rows at i, its signs within lo and hi -/
def clR (lo hi i : Nat) (c : Cl) (I : Nat → Nat → Int32) : Prop := c.1 ≤ 2 ∧ c.2.1 ≤ 99 ∧ I 116 i = nI c.1 ∧ I 117 i = nI c.2.1 ∧ (c.1 < 2 → wkok c ∧ ∃ b, lo ≤ b ∧ b + c.2.2.length ≤ hi ∧ I 118 i = nI b ∧ I 119 i = nI (b + c.2.2.length) ∧ ∀ j, j < c.2.2.length → I 120 (b + j) = tk2 (c.2.2.getD j 0))
theorem clR_C {lo hi i : Nat} {c : Cl} {I I' : Nat → Nat → Int32} {i' b : Nat} (h : clR lo hi i c I) (hf : frC i' b I I') (hi1 : i ≠ i') (hb : hi ≤ b) : clR lo hi i c I' := by
  obtain ⟨a1, a2, a3, a4, a5⟩ := h
  obtain ⟨f1, f2, f3, f4⟩ := hf.2.2.1 i hi1
  refine ⟨a1, a2, by rw [f1]; exact a3, by rw [f2]; exact a4, fun z => ?_⟩
  obtain ⟨w, d, d1, d2, d3, d4, d5⟩ := a5 z
  exact ⟨w, d, d1, d2, by rw [f3]; exact d3, by rw [f4]; exact d4, fun j hj => by rw [hf.2.2.2 (d + j) (by omega)]; exact d5 j hj⟩
theorem clR_eq {lo hi i : Nat} {c : Cl} {I I' : Nat → Nat → Int32} (h : clR lo hi i c I) (h1 : I' 116 i = I 116 i) (h2 : I' 117 i = I 117 i) (h3 : I' 118 i = I 118 i) (h4 : I' 119 i = I 119 i) (h5 : ∀ k, k < hi → I' 120 k = I 120 k) : clR lo hi i c I' := by
  obtain ⟨a1, a2, a3, a4, a5⟩ := h
  refine ⟨a1, a2, by rw [h1]; exact a3, by rw [h2]; exact a4, fun z => ?_⟩
  obtain ⟨w, d, d1, d2, d3, d4, d5⟩ := a5 z
  exact ⟨w, d, d1, d2, by rw [h3]; exact d3, by rw [h4]; exact d4, fun j hj => by rw [h5 (d + j) (by omega)]; exact d5 j hj⟩
theorem clR_mo {lo hi hi' i : Nat} {c : Cl} {I : Nat → Nat → Int32} (h : clR lo hi i c I) (hh : hi ≤ hi') : clR lo hi' i c I := by
  obtain ⟨a1, a2, a3, a4, a5⟩ := h
  refine ⟨a1, a2, a3, a4, fun z => ?_⟩
  obtain ⟨w, d, d1, d2, d3⟩ := a5 z
  exact ⟨w, d, d1, by omega, d3⟩
/-- the works number f, with all its rows in its own stretch -/
def mWr (w : Wk) (f : Nat) (I : Nat → Nat → Int32) : Prop := f < 6 ∧ I 115 f = nI w.length ∧ 1 ≤ w.length ∧ w.length ≤ 10 ∧ ∀ c, c < w.length → clR (100 * f) (100 * f + 100) (10 * f + c) (wkd w c) I
theorem mWr_k {w : Wk} {f : Nat} {I : Nat → Nat → Int32} (h : mWr w f I) : mWk w f I := by
  obtain ⟨a1, a2, a3, a4, a5⟩ := h
  refine ⟨a1, a2, a4, fun c hc => ?_⟩
  obtain ⟨b1, b2, b3, b4, b5⟩ := a5 c hc
  refine ⟨b1, b2, b3, b4, fun z => ?_⟩
  obtain ⟨w, d, d1, d2, d3, d4, d5⟩ := b5 z
  exact ⟨w, d, d3, d4, by omega, d5⟩
/-- only the rows of the works number f and those behind -/
def frW (Fs : List Nat) (f : Nat) (I I' : Nat → Nat → Int32) : Prop := (∀ q, q ∉ [115, 116, 117, 118, 119, 120, 121] → q ≠ 100 → I' q = I q) ∧ (∀ k, k ∉ Fs → I' 100 k = I 100 k) ∧ (∀ k, k < 10 * f → I' 116 k = I 116 k ∧ I' 117 k = I 117 k ∧ I' 118 k = I 118 k ∧ I' 119 k = I 119 k) ∧ (∀ k, k < 100 * f → I' 120 k = I 120 k) ∧ ∀ k, k < f → I' 115 k = I 115 k
theorem frW_tr {Fs : List Nat} {f : Nat} {I I1 I2 : Nat → Nat → Int32} (h1 : frW Fs f I I1) (h2 : frW Fs f I1 I2) : frW Fs f I I2 := ⟨fun q a b => (h2.1 q a b).trans (h1.1 q a b), fun k a => (h2.2.1 k a).trans (h1.2.1 k a), fun k a => ⟨(h2.2.2.1 k a).1.trans (h1.2.2.1 k a).1, (h2.2.2.1 k a).2.1.trans (h1.2.2.1 k a).2.1, (h2.2.2.1 k a).2.2.1.trans (h1.2.2.1 k a).2.2.1, (h2.2.2.1 k a).2.2.2.trans (h1.2.2.1 k a).2.2.2⟩, fun k a => (h2.2.2.2.1 k a).trans (h1.2.2.2.1 k a), fun k a => (h2.2.2.2.2 k a).trans (h1.2.2.2.2 k a)⟩
theorem frW_f {Fs : List Nat} {f : Nat} {I : Nat → Nat → Int32} {k : Nat} {v : Int32} (h : k ∈ Fs) : frW Fs f I (up2 I 100 k v) := ⟨fun q a b => up2_ne _ _ _ b, fun j a => by rw [up2_at, if_neg (fun z => a (by rw [z]; exact h))], fun j _ => ⟨by rw [up2_ne _ _ _ (by decide)], by rw [up2_ne _ _ _ (by decide)], by rw [up2_ne _ _ _ (by decide)], by rw [up2_ne _ _ _ (by decide)]⟩, fun j _ => by rw [up2_ne _ _ _ (by decide)], fun j _ => by rw [up2_ne _ _ _ (by decide)]⟩
theorem frW_c {Fs : List Nat} {f : Nat} {I : Nat → Nat → Int32} {v : Int32} : frW Fs f I (up2 I 115 f v) := ⟨fun q a b => up2_ne _ _ _ (fun z => a (by rw [z]; decide)), fun j a => by rw [up2_ne _ _ _ (by decide)], fun j _ => ⟨by rw [up2_ne _ _ _ (by decide)], by rw [up2_ne _ _ _ (by decide)], by rw [up2_ne _ _ _ (by decide)], by rw [up2_ne _ _ _ (by decide)]⟩, fun j _ => by rw [up2_ne _ _ _ (by decide)], fun j hj => by rw [up2_v, if_neg (by omega)]⟩
theorem frW_C {f i b : Nat} {I I' : Nat → Nat → Int32} (h : frC i b I I') (hi : 10 * f ≤ i) (hb : 100 * f ≤ b) : frW [11, 12, 21, 22, 23] f I I' := ⟨fun q a b => h.1 q (fun z => a (List.mem_cons_of_mem _ z)) b, h.2.1, fun k hk => h.2.2.1 k (by omega), fun k hk => h.2.2.2 k (by omega), fun k _ => by rw [h.1 _ (by decide) (by decide)]⟩
theorem frW_mo {Fs Fs' : List Nat} {f : Nat} {I I' : Nat → Nat → Int32} (h : frW Fs f I I') (h2 : ∀ x ∈ Fs, x ∈ Fs') : frW Fs' f I I' := ⟨h.1, fun k a => h.2.1 k (fun z => a (h2 k z)), h.2.2⟩
theorem mWr_W {w : Wk} {Fs : List Nat} {f f' : Nat} {I I' : Nat → Nat → Int32} (h : mWr w f I) (hf : frW Fs f' I I') (hlt : f < f') : mWr w f I' := by
  obtain ⟨a1, a2, a3, a4, a5⟩ := h
  refine ⟨a1, by rw [hf.2.2.2.2 f hlt]; exact a2, a3, a4, fun c hc => ?_⟩
  obtain ⟨e1, e2, e3, e4⟩ := hf.2.2.1 (10 * f + c) (by omega)
  exact clR_eq (a5 c hc) e1 e2 e3 e4 (fun k hk => hf.2.2.2.1 k (by omega))
theorem mTx_W {t : List Nat} {Fs : List Nat} {f : Nat} {I I' : Nat → Nat → Int32} (hx : mTx t I) (h : frW Fs f I I') (h1 : 10 ∉ Fs) : mTx t I' := by
  unfold mTx
  rw [h.1 114 (by decide) (by decide), h.2.1 _ h1]
  exact hx
theorem pTx_s (Q : Nat) (t : List Nat) (k a : Nat) (acc : List Cl) : pTx Q t (k + 1) a acc = (match pCl Q t a with
    | (none, b) => (none, b)
    | (some c, b) => if b = t.length then (some (acc ++ [c]), b) else if k = 0 then (none, b) else if nx t b = 59 then pTx Q t k (b + 1) (acc ++ [c]) else (none, b)) := rfl
theorem wkd_app (w : Wk) (c : Cl) (j : Nat) (h : j < w.length + 1) : wkd (w ++ [c]) j = if j = w.length then c else wkd w j := by
  unfold wkd
  rw [List.getD_eq_getElem?_getD, List.getD_eq_getElem?_getD]
  split
  · rename_i e; subst e; simp
  · rw [List.getElem?_append_left (by omega)]
set_option maxHeartbeats 4000000 in
theorem c_M_goesText (E : zE) (K N : Nat → Nat) (Rf : Nat → Nat → Option Nat) (I : Nat → Nat → Int32) (L : Nat → Nat → Int64) {Q M : Nat} (hQ : Q = 100) (hM : M = 10) {t : List Nat} (ht : txw t) (hx : mTx t I) (hL : mLe I) {f : Nat} (hf : f < 6) : zCt E mX12_goesText 6 0 0 (sg K N Rf I L) [.ref 100, .int (nI f)] (fun r σ' => ∃ I', σ' = sg K N Rf I' L ∧ I' 100 11 = nI (pWk Q M t).2 ∧ (pWk Q M t).2 ≤ t.length ∧ frW [11, 12, 21, 22, 23] f I I' ∧ (((pWk Q M t).1 = none ∧ r = some (.int 0)) ∨ ∃ w, (pWk Q M t).1 = some w ∧ r = some (.int 1) ∧ mWr w f I')) := by
  have hl100 := ht.1
  have cf : (nI f).toNatClampNeg = f := cl (by omega)
  generalize hR : pWk Q M t = R
  refine z_intro (by decide) (Nat.le_of_ble_eq_true rfl) (fun X hX => ?_)
  have hl : ∀ k a s (acc : List Cl) (I1 : Nat → Nat → Int32), acc.length + (k + 1) = M → a ≤ t.length → s ≤ a → I1 100 11 = nI a → I1 100 21 = nI (100 * f + s) → (∀ j, j < acc.length → clR (100 * f) (100 * f + s) (10 * f + j) (wkd acc j) I1) → frW [11, 12, 21, 22, 23] f I I1 → pTx Q t (k + 1) a acc = R → zS X (sg K N Rf I1 L) 0 0 15 [(0, .ref 100), (1, .int (nI f)), (2, .int (nI acc.length))] [] := by
    intro k
    induction k with
    | zero =>
      intro a s acc I1 hk ha hs h1 h2 h3 h4 h5
      rw [pTx_s] at h5
      have x1 := mTx_W hx h4 (by decide)
      have l1 : mLe I1 := fun k hk => by rw [h4.1 _ (by decide) (by decide)]; exact hL k hk
      have cn : (nI (acc.length + 1)).toNatClampNeg = acc.length + 1 := cl (by omega)
      refine bk hX lkX12_ok (pc' := 22) [.aload_n 0, .bipush 10, .iload_n 1, .imul, .iload_n 2, .iadd] (by decide +kernel) (And.intro trivial ?_)
      rw [show nI 10 * nI f = nI (10 * f) from pk_mul _ _, nI_add]
      refine z_callV hX kw_X12_287 (c_M_takesClause E K N Rf I1 L (Q := Q) ht x1 h1 ha l1 (by omega) (c := 10 * f + acc.length) (b := 100 * f + s) (by omega) h2 (by omega)) rfl rfl rfl rfl rfl (by decide +kernel) (by decide) (by decide) (by decide) (by decide) (Nat.le_of_ble_eq_true rfl) ?_
      rintro _ _ ⟨I2, rfl, p1, p2, (⟨p3, rfl⟩ | ⟨q, p3, rfl, p4, p5, p6, p7⟩)⟩
      · have hC : pCl Q t a = (none, (pCl Q t a).2) := Prod.ext p3 rfl
        have hle := (pCl_le hC).2 ha
        rw [hC] at h5
        have h6 : R = (none, (pCl Q t a).2) := h5.symm
        refine if_ne hX (5) 30 (by decide +kernel) (by decide) (fun c => absurd (by decide) c) (fun c_25 => ?_)
        refine bk hX lkX12_ok (pc' := 29) [.iconst 0] (by decide +kernel) (And.intro trivial ?_)
        exact z_iret hX (by decide +kernel) rfl (rfl) (by decide) (by decide) (⟨I2, rfl, by rw [h6]; exact p1, by rw [h6]; exact hle, frW_tr h4 (frW_C p2 (by omega) (by omega)), Or.inl ⟨by rw [h6], rfl⟩⟩)
      · have hC : pCl Q t a = (some q, (pCl Q t a).2) := Prod.ext p3 rfl
        obtain ⟨k1, k2, k3, k4, k5, k6⟩ := pCl_ok hC
        rw [hC] at h5
        generalize (pCl Q t a).2 = b at h5 p1 k3 k4 k5 k6
        have h6 : (if b = t.length then (some (acc ++ [q]), b) else if 0 = 0 then (none, b) else if nx t b = 59 then pTx Q t 0 (b + 1) (acc ++ [q]) else (none, b)) = R := h5
        have h7 : frW [11, 12, 21, 22, 23] f I I2 := frW_tr h4 (frW_C p2 (by omega) (by omega))
        have hq : clR (100 * f) (100 * f + (s + q.2.2.length)) (10 * f + acc.length) q I2 := ⟨k1, k2, p4, p5, fun z => ⟨fun z2 => by obtain ⟨z3, z4, z5⟩ := k6 z2; exact ⟨z3, z4, by omega, by show tn q.2.2 ≤ 25; omega⟩, 100 * f + s, by omega, by omega, (p7 z).1, (p7 z).2.1, (p7 z).2.2⟩⟩
        have hall : ∀ j, j < (acc ++ [q]).length → clR (100 * f) (100 * f + (s + q.2.2.length)) (10 * f + j) (wkd (acc ++ [q]) j) I2 := by
          intro j hj
          rw [List.length_append, List.length_singleton] at hj
          rw [wkd_app acc q j hj]
          split
          · rename_i e; subst e; exact hq
          · exact clR_mo (clR_C (h3 j (by omega)) p2 (by omega) (Nat.le_refl _)) (by omega)
        have hcl : ∀ (v : Int32), ∀ j, j < (acc ++ [q]).length → clR (100 * f) (100 * f + (s + q.2.2.length)) (10 * f + j) (wkd (acc ++ [q]) j) (up2 I2 115 f v) := by
          intro v j hj
          refine clR_eq (hall j hj) ?_ ?_ ?_ ?_ (fun k _ => ?_) <;> rw [up2_ne _ _ _ (by decide)]
        have h8 : ∀ v : Int32, frW [11, 12, 21, 22, 23] f I (up2 I2 115 f v) := fun v => frW_tr h7 frW_c
        have e11 : ∀ v : Int32, up2 I2 115 f v 100 11 = nI b := fun v => by rw [up2_ne _ _ _ (by decide)]; exact p1
        have e10 : ∀ v : Int32, up2 I2 115 f v 100 10 = nI t.length := fun v => by rw [up2_ne _ _ _ (by decide)]; exact (mTx_W hx h7 (by decide)).1
        refine if_ne hX (5) 30 (by decide +kernel) (by decide) (fun c_25 => ?_) (fun c => absurd c (by decide))
        refine bk hX lkX12_ok (pc' := 40) [.iinc 2 1, .aload_n 0, .getfield 53, .iload_n 1, .iload_n 2, .iastore] (by decide +kernel) (And.intro (by exact vin 6 hf) (And.intro trivial ?_))
        rw [nI_add, cf]
        refine bk hX lkX12_ok (pc' := 48) [.aload_n 0, .getfield 44, .aload_n 0, .getfield 41] (by decide +kernel) (And.intro trivial ?_)
        rw [show up2 I2 (101 + 14) f _ 100 11 = _ from e11 _, show up2 I2 (101 + 14) f _ 100 10 = _ from e10 _]
        refine ic_ne hX (5) 53 (by decide +kernel) (by decide) (fun ce => ?_) (fun ce => ?_)
        · have eb : ¬ b = t.length := fun z => ce (by rw [z])
          rw [if_neg eb] at h6
          refine bk hX lkX12_ok (pc' := 56) [.iload_n 2, .bipush 10] (by decide +kernel) (And.intro trivial ?_)
          refine ic_eq hX (12) 68 (by decide +kernel) (by decide) (fun c_56 => ?_) (fun c => absurd (by rw [show acc.length + 1 = 10 by omega]) c)
          refine bk hX lkX12_ok (pc' := 69) [.iconst 0] (by decide +kernel) (And.intro trivial ?_)
          exact z_iret hX (by decide +kernel) rfl (rfl) (by decide) (by decide) (by rw [if_pos rfl] at h6; rw [← h6]; exact ⟨_, rfl, e11 _, k4, h8 _, Or.inl ⟨rfl, rfl⟩⟩)
        · refine bk hX lkX12_ok (pc' := 52) [.iconst 1] (by decide +kernel) (And.intro trivial ?_)
          exact z_iret hX (by decide +kernel) rfl (rfl) (by decide) (by decide) (by
  have eb : b = t.length := nI_inj (by omega) (by omega) ce
  rw [if_pos eb] at h6
  rw [← h6]
  refine ⟨_, rfl, e11 _, k4, h8 _, Or.inr ⟨_, rfl, rfl, hf, ?_, ?_, ?_, fun j hj => clR_mo (hcl _ j hj) (by omega)⟩⟩
  · rw [up2_self, List.length_append, List.length_singleton]
  · rw [List.length_append, List.length_singleton]; omega
  · rw [List.length_append, List.length_singleton]; omega)
    | succ k ih =>
      intro a s acc I1 hk ha hs h1 h2 h3 h4 h5
      rw [pTx_s] at h5
      have x1 := mTx_W hx h4 (by decide)
      have l1 : mLe I1 := fun k hk => by rw [h4.1 _ (by decide) (by decide)]; exact hL k hk
      have cn : (nI (acc.length + 1)).toNatClampNeg = acc.length + 1 := cl (by omega)
      refine bk hX lkX12_ok (pc' := 22) [.aload_n 0, .bipush 10, .iload_n 1, .imul, .iload_n 2, .iadd] (by decide +kernel) (And.intro trivial ?_)
      rw [show nI 10 * nI f = nI (10 * f) from pk_mul _ _, nI_add]
      refine z_callV hX kw_X12_287 (c_M_takesClause E K N Rf I1 L (Q := Q) ht x1 h1 ha l1 (by omega) (c := 10 * f + acc.length) (b := 100 * f + s) (by omega) h2 (by omega)) rfl rfl rfl rfl rfl (by decide +kernel) (by decide) (by decide) (by decide) (by decide) (Nat.le_of_ble_eq_true rfl) ?_
      rintro _ _ ⟨I2, rfl, p1, p2, (⟨p3, rfl⟩ | ⟨q, p3, rfl, p4, p5, p6, p7⟩)⟩
      · have hC : pCl Q t a = (none, (pCl Q t a).2) := Prod.ext p3 rfl
        have hle := (pCl_le hC).2 ha
        rw [hC] at h5
        have h6 : R = (none, (pCl Q t a).2) := h5.symm
        refine if_ne hX (5) 30 (by decide +kernel) (by decide) (fun c => absurd (by decide) c) (fun c_25 => ?_)
        refine bk hX lkX12_ok (pc' := 29) [.iconst 0] (by decide +kernel) (And.intro trivial ?_)
        exact z_iret hX (by decide +kernel) rfl (rfl) (by decide) (by decide) (⟨I2, rfl, by rw [h6]; exact p1, by rw [h6]; exact hle, frW_tr h4 (frW_C p2 (by omega) (by omega)), Or.inl ⟨by rw [h6], rfl⟩⟩)
      · have hC : pCl Q t a = (some q, (pCl Q t a).2) := Prod.ext p3 rfl
        obtain ⟨k1, k2, k3, k4, k5, k6⟩ := pCl_ok hC
        rw [hC] at h5
        generalize (pCl Q t a).2 = b at h5 p1 k3 k4 k5 k6
        have h6 : (if b = t.length then (some (acc ++ [q]), b) else if (k + 1) = 0 then (none, b) else if nx t b = 59 then pTx Q t (k + 1) (b + 1) (acc ++ [q]) else (none, b)) = R := h5
        have h7 : frW [11, 12, 21, 22, 23] f I I2 := frW_tr h4 (frW_C p2 (by omega) (by omega))
        have hq : clR (100 * f) (100 * f + (s + q.2.2.length)) (10 * f + acc.length) q I2 := ⟨k1, k2, p4, p5, fun z => ⟨fun z2 => by obtain ⟨z3, z4, z5⟩ := k6 z2; exact ⟨z3, z4, by omega, by show tn q.2.2 ≤ 25; omega⟩, 100 * f + s, by omega, by omega, (p7 z).1, (p7 z).2.1, (p7 z).2.2⟩⟩
        have hall : ∀ j, j < (acc ++ [q]).length → clR (100 * f) (100 * f + (s + q.2.2.length)) (10 * f + j) (wkd (acc ++ [q]) j) I2 := by
          intro j hj
          rw [List.length_append, List.length_singleton] at hj
          rw [wkd_app acc q j hj]
          split
          · rename_i e; subst e; exact hq
          · exact clR_mo (clR_C (h3 j (by omega)) p2 (by omega) (Nat.le_refl _)) (by omega)
        have hcl : ∀ (v : Int32), ∀ j, j < (acc ++ [q]).length → clR (100 * f) (100 * f + (s + q.2.2.length)) (10 * f + j) (wkd (acc ++ [q]) j) (up2 I2 115 f v) := by
          intro v j hj
          refine clR_eq (hall j hj) ?_ ?_ ?_ ?_ (fun k _ => ?_) <;> rw [up2_ne _ _ _ (by decide)]
        have h8 : ∀ v : Int32, frW [11, 12, 21, 22, 23] f I (up2 I2 115 f v) := fun v => frW_tr h7 frW_c
        have e11 : ∀ v : Int32, up2 I2 115 f v 100 11 = nI b := fun v => by rw [up2_ne _ _ _ (by decide)]; exact p1
        have e10 : ∀ v : Int32, up2 I2 115 f v 100 10 = nI t.length := fun v => by rw [up2_ne _ _ _ (by decide)]; exact (mTx_W hx h7 (by decide)).1
        refine if_ne hX (5) 30 (by decide +kernel) (by decide) (fun c_25 => ?_) (fun c => absurd c (by decide))
        refine bk hX lkX12_ok (pc' := 40) [.iinc 2 1, .aload_n 0, .getfield 53, .iload_n 1, .iload_n 2, .iastore] (by decide +kernel) (And.intro (by exact vin 6 hf) (And.intro trivial ?_))
        rw [nI_add, cf]
        refine bk hX lkX12_ok (pc' := 48) [.aload_n 0, .getfield 44, .aload_n 0, .getfield 41] (by decide +kernel) (And.intro trivial ?_)
        rw [show up2 I2 (101 + 14) f _ 100 11 = _ from e11 _, show up2 I2 (101 + 14) f _ 100 10 = _ from e10 _]
        refine ic_ne hX (5) 53 (by decide +kernel) (by decide) (fun ce => ?_) (fun ce => ?_)
        · have eb : ¬ b = t.length := fun z => ce (by rw [z])
          rw [if_neg eb] at h6
          refine bk hX lkX12_ok (pc' := 56) [.iload_n 2, .bipush 10] (by decide +kernel) (And.intro trivial ?_)
          refine ic_eq hX (12) 68 (by decide +kernel) (by decide) (fun c => absurd c (fun z => absurd (nI_inj (a := acc.length + 1) (b := 10) (by omega) (by decide) z) (by omega))) (fun c_56 => ?_)
          rw [if_neg (by omega)] at h6
          refine bk hX lkX12_ok (pc' := 62) [.aload_n 0, .bipush 59] (by decide +kernel) (And.intro trivial ?_)
          refine z_callV hX kw_X12_251 (c_M_takes E K N Rf _ L ht (mTx_W hx (h8 _) (by decide)) (e11 _) k4 (c := 59) (by decide)) rfl rfl rfl rfl rfl (by decide +kernel) (by decide) (by decide) (by decide) (by decide) (Nat.le_of_ble_eq_true rfl) ?_
          rintro _ _ (⟨c1, rfl, rfl⟩ | ⟨c1, rfl, rfl⟩)
          · rw [if_pos c1] at h6
            have hin := nx_in c1 (by decide)
            refine if_ne hX (-50) 15 (by decide +kernel) (by decide) (fun c_65 => ?_) (fun c => absurd c (by decide))
            refine z_lvk (lv' := [(0, _), (1, _), (2, _)]) [1, 2, 0] rfl ?_
            have hi := ih (b + 1) (s + q.2.2.length) (acc ++ [q]) (up2 (up2 I2 115 f (nI (acc.length + 1))) 100 11 (nI (b + 1))) (by rw [List.length_append, List.length_singleton]; omega) (by omega) (by omega) (by rw [up2_self]) (by rw [up2_v, if_neg (by omega), up2_ne _ _ _ (by decide), p6, Nat.add_assoc]) (fun j hj => by
              refine clR_eq (hcl (nI (acc.length + 1)) j hj) ?_ ?_ ?_ ?_ (fun k _ => ?_) <;> rw [up2_ne _ _ _ (by decide)]) (frW_tr (h8 _) (frW_f (by decide))) h6
            rw [List.length_append, List.length_singleton] at hi
            exact hi
          · rw [if_neg c1] at h6
            refine if_ne hX (-50) 15 (by decide +kernel) (by decide) (fun c => absurd (by decide) c) (fun c_65 => ?_)
            refine bk hX lkX12_ok (pc' := 69) [.iconst 0] (by decide +kernel) (And.intro trivial ?_)
            exact z_iret hX (by decide +kernel) rfl (rfl) (by decide) (by decide) (by rw [← h6]; exact ⟨_, rfl, e11 _, k4, h8 _, Or.inl ⟨rfl, rfl⟩⟩)
        · refine bk hX lkX12_ok (pc' := 52) [.iconst 1] (by decide +kernel) (And.intro trivial ?_)
          exact z_iret hX (by decide +kernel) rfl (rfl) (by decide) (by decide) (by
  have eb : b = t.length := nI_inj (by omega) (by omega) ce
  rw [if_pos eb] at h6
  rw [← h6]
  refine ⟨_, rfl, e11 _, k4, h8 _, Or.inr ⟨_, rfl, rfl, hf, ?_, ?_, ?_, fun j hj => clR_mo (hcl _ j hj) (by omega)⟩⟩
  · rw [up2_self, List.length_append, List.length_singleton]
  · rw [List.length_append, List.length_singleton]; omega
  · rw [List.length_append, List.length_singleton]; omega)
  subst hM
  refine bk hX lkX12_ok (pc' := 15) [.aload_n 0, .iconst 0, .putfield 44, .aload_n 0, .bipush 100, .iload_n 1, .imul, .putfield 74, .iconst 0, .istore_n 2] (by decide +kernel) (And.intro trivial ?_)
  refine z_lvk (lv' := [(0, _), (1, _), (2, _)]) [1, 2, 0] rfl ?_
  rw [show nI 100 * nI f = nI (100 * f) from pk_mul _ _]
  refine hl 9 0 0 [] _ rfl (by omega) (by omega) ?_ ?_ (fun j hj => absurd hj (Nat.not_lt_zero _)) ?_ hR
  · simp [up2_v]
  · simp [up2_v]
  · exact frW_tr (frW_f (by decide)) (frW_f (by decide))
theorem c_M_works (E : zE) (K N : Nat → Nat) (Rf : Nat → Nat → Option Nat) (I : Nat → Nat → Int32) (L : Nat → Nat → Int64) {Q M : Nat} (hQ : Q = 100) (hM : M = 10) {t : List Nat} (ht : txw t) (hx : mTx t I) (hL : mLe I) {m : Nat} (hm : I 100 8 = nI m) (hm6 : m ≤ 6) : zCt E mX12_works 7 0 0 (sg K N Rf I L) [.ref 100] (fun r σ' => ∃ I', σ' = sg K N Rf I' L ∧ ((m = 6 ∧ r = some (.int (-nI 4)) ∧ I' = I) ∨ (m < 6 ∧ I' 100 10 = nI 0 ∧ frW [11, 12, 21, 22, 23, 10, 9, 8] m I I' ∧ (((pWk Q M t).1 = none ∧ r = some (.int (-nI 10 - nI (pWk Q M t).2)) ∧ I' 100 9 = I 100 9 ∧ I' 100 8 = nI m) ∨ ∃ w, (pWk Q M t).1 = some w ∧ r = some (.int (nI m)) ∧ I' 100 9 = nI m ∧ I' 100 8 = nI (m + 1) ∧ mWr w m I')))) := by
  refine z_intro (by decide) (Nat.le_of_ble_eq_true rfl) (fun X hX => ?_)
  refine bk hX lkX12_ok (pc' := 6) [.aload_n 0, .getfield 35, .bipush 6] (by decide +kernel) (And.intro trivial ?_)
  rw [hm]
  refine ic_ne hX (6) 12 (by decide +kernel) (by decide) (fun c6 => ?_) (fun c6 => ?_)
  · have hlt : m < 6 := by have : ¬ m = 6 := fun z => c6 (by rw [z]); omega
    refine bk hX lkX12_ok (pc' := 17) [.aload_n 0, .aload_n 0, .getfield 35] (by decide +kernel) (And.intro trivial ?_)
    rw [hm]
    refine z_callV hX kw_X12_290 (c_M_goesText E K N Rf I L hQ hM ht hx hL hlt) rfl rfl rfl rfl rfl (by decide +kernel) (by decide) (by decide) (by decide) (by decide) (Nat.le_of_ble_eq_true rfl) ?_
    rintro _ _ ⟨I2, rfl, p1, p2, p3, (⟨p4, rfl⟩ | ⟨w, p4, rfl, p5⟩)⟩
    · have p3b : frW [11, 12, 21, 22, 23, 10, 9, 8] m I I2 := frW_mo p3 (by decide)
      refine bk hX lkX12_ok (pc' := 27) [.istore_n 1, .aload_n 0, .iconst 0, .putfield 41, .iload_n 1] (by decide +kernel) (And.intro trivial ?_)
      refine if_ne hX (11) 38 (by decide +kernel) (by decide) (fun c => absurd (rfl) c) (fun c_27 => ?_)
      refine bk hX lkX12_ok (pc' := 37) [.bipush (Int.negSucc 9), .aload_n 0, .getfield 44, .isub] (by decide +kernel) (And.intro trivial ?_)
      exact z_iret hX (by decide +kernel) rfl (rfl) (by decide) (by decide) (⟨_, rfl, Or.inr ⟨hlt, by rw [up2_self], frW_tr p3b (frW_f (by decide)), Or.inl ⟨p4, by rw [up2_v, if_neg (by omega), p1], by rw [up2_v, if_neg (by omega), p3.2.1 _ (by decide)], by rw [up2_v, if_neg (by omega), p3.2.1 _ (by decide)]; exact hm⟩⟩⟩)
    · have p3b : frW [11, 12, 21, 22, 23, 10, 9, 8] m I I2 := frW_mo p3 (by decide)
      have hm2 : I2 100 8 = nI m := by rw [p3.2.1 _ (by decide)]; exact hm
      refine bk hX lkX12_ok (pc' := 27) [.istore_n 1, .aload_n 0, .iconst 0, .putfield 41, .iload_n 1] (by decide +kernel) (And.intro trivial ?_)
      refine if_ne hX (11) 38 (by decide +kernel) (by decide) (fun c_27 => ?_) (fun c => absurd c (by decide))
      refine bk hX lkX12_ok (pc' := 60) [.aload_n 0, .aload_n 0, .getfield 35, .putfield 38, .aload_n 0, .dup, .getfield 35, .iconst 1, .iadd, .putfield 35, .aload_n 0, .getfield 38] (by decide +kernel) (And.intro trivial ?_)
      exact z_iret hX (by decide +kernel) rfl (rfl) (by decide) (by decide) (by
  refine ⟨_, rfl, Or.inr ⟨hlt, by simp [up2_v], frW_tr p3b (frW_tr (frW_tr (frW_f (by decide)) (frW_f (by decide))) (frW_f (by decide))), Or.inr ⟨w, p4, by simp [up2_v, hm2], by simp [up2_v, hm2], by simp [up2_v, hm2, nI_add], ?_⟩⟩⟩
  obtain ⟨a1, a2, a3, a4, a5⟩ := p5
  refine ⟨a1, by simp [up2_v, a2], a3, a4, fun c hc => clR_eq (a5 c hc) ?_ ?_ ?_ ?_ (fun k _ => ?_)⟩ <;> simp [up2_v])
  · refine bk hX lkX12_ok (pc' := 11) [.bipush (Int.negSucc 3)] (by decide +kernel) (And.intro trivial ?_)
    exact z_iret hX (by decide +kernel) rfl (rfl) (by decide) (by decide) (⟨I, rfl, Or.inl ⟨nI_inj (b := 6) (by omega) (by decide) c6, rfl, rfl⟩⟩)
