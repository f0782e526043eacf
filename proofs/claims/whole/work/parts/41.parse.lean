/-! ===== the texts of works: what a text says, and where it is at fault ===== -/
def nx (t : List Nat) (a : Nat) : Nat := t.getD a 200
def txw (t : List Nat) : Prop := t.length ≤ 100 ∧ ∀ x ∈ t, x < 128
theorem nx_end {t : List Nat} {a : Nat} (h : ¬ a < t.length) : nx t a = 200 := by
  unfold nx
  rw [List.getD_eq_getElem?_getD, List.getElem?_eq_none (by omega)]
  rfl
theorem nx_at {t : List Nat} {a : Nat} (h : a < t.length) (d : Nat) : nx t a = t.getD a d := by
  unfold nx
  rw [List.getD_eq_getElem?_getD, List.getD_eq_getElem?_getD, List.getElem?_eq_getElem h]
  rfl
theorem nx_lt {t : List Nat} (ht : txw t) {a : Nat} (h : a < t.length) : nx t a < 128 := by
  unfold nx
  rw [List.getD_eq_getElem?_getD, List.getElem?_eq_getElem h]
  exact ht.2 _ (List.getElem_mem h)
theorem nx_le {t : List Nat} (ht : txw t) (a : Nat) : nx t a ≤ 200 := by
  by_cases h : a < t.length
  · have := nx_lt ht h; omega
  · rw [nx_end h]; exact Nat.le_refl _
theorem nx_in {t : List Nat} {a c : Nat} (h : nx t a = c) (hc : c < 128) : a < t.length := by
  by_cases h2 : a < t.length
  · exact h2
  · rw [nx_end h2] at h; omega
def nxI (c : Nat) : Int32 := if c = 200 then -nI 1 else nI c
theorem nxI_eq {c k : Nat} (hc : c ≤ 200) (hk : k < 128) : nxI c = nI k ↔ c = k := by
  unfold nxI
  split
  · rename_i h
    constructor
    · intro z
      have := congrArg Int32.toInt z
      rw [nI_toInt (by omega), show (-nI 1).toInt = -1 by decide] at this
      omega
    · intro z; omega
  · rw [nI_eq (by omega) (by omega)]
abbrev Rs : Type := Option (List Nat) × Nat
def dgB (c : Nat) : Bool := decide (48 ≤ c) && decide (c ≤ 57)
theorem dgB_iff {c : Nat} : dgB c = true ↔ 48 ≤ c ∧ c ≤ 57 := by simp [dgB]
/-- a number of one or two digits -/
def pNm (t : List Nat) (a : Nat) : Option Nat × Nat := if dgB (nx t a) = true then (if dgB (nx t (a + 1)) = true then (some (10 * (nx t a - 48) + (nx t (a + 1) - 48)), a + 2) else (some (nx t a - 48), a + 1)) else (none, a)
def plc (c : Nat) : Nat := if c = 112 then 0 else if c = 99 then 1 else if c = 107 then 2 else if c = 118 then 3 else if c = 104 then 4 else if c = 100 then 5 else 9
def pTs (t : List Nat) (a : Nat) : Rs := if plc (nx t a) = 9 then (none, a) else if 60 ≤ nx t (a + 1) ∧ nx t (a + 1) ≤ 62 then (match pNm t (a + 2) with
    | (none, b) => (none, b)
    | (some n, b) => (some [10 + (1000 * plc (nx t a) + 100 * (nx t (a + 1) - 60) + n)], b)) else (none, a + 1)
def eL (t : List Nat) (F : Nat → Rs) : Nat → Bool → Bool → Nat → List Nat → Rs
  | 0, _, _, a, _ => (none, a)
  | k + 1, o, n, a, acc => match F a with
    | (none, b) => (none, b)
    | (some ts, b) => if nx t b = 38 then eL t F k o true (b + 1) (acc ++ ts ++ (if n = true then [1] else [])) else if nx t b = 124 then eL t F k true false (b + 1) (acc ++ ts ++ (if n = true then [1] else []) ++ (if o = true then [2] else [])) else (some (acc ++ ts ++ (if n = true then [1] else []) ++ (if o = true then [2] else [])), b)
def pFa (Q : Nat) (t : List Nat) : Nat → Nat → Rs
  | 0, a => if nx t a = 33 ∨ nx t a = 40 then (none, a) else pTs t a
  | d + 1, a => if nx t a = 33 then (match pFa Q t d (a + 1) with
      | (none, b) => (none, b)
      | (some ts, b) => (some (ts ++ [0]), b)) else if nx t a = 40 then (match eL t (pFa Q t d) Q false false (a + 1) [] with
      | (none, b) => (none, b)
      | (some ts, b) => if nx t b = 41 then (some ts, b + 1) else (none, b)) else pTs t a
def pEi (Q : Nat) (t : List Nat) (d a : Nat) : Rs := eL t (pFa Q t d) Q false false a []
def tn (ts : List Nat) : Nat := (ts.filter (fun t => decide (10 ≤ t))).length
theorem tn_app (a b : List Nat) : tn (a ++ b) = tn a + tn b := by unfold tn; rw [List.filter_append, List.length_append]
/-- what was read is well made -/
def pOk (t : List Nat) (a : Nat) (ts : List Nat) (b : Nat) : Prop := a + 4 * tn ts ≤ b + 1 ∧ a < b ∧ b ≤ t.length ∧ ts.length + a ≤ b ∧ ts.all tkok = true ∧ ∀ r n, shp (ts ++ r) n = shp r (n + 1)
theorem pNm_ok {t : List Nat} {a n b : Nat} (h : pNm t a = (some n, b)) : n ≤ 99 ∧ a < b ∧ b ≤ a + 2 ∧ b ≤ t.length := by
  unfold pNm at h
  split at h
  · rename_i h1
    rw [dgB_iff] at h1
    have l1 := nx_in (t := t) (a := a) rfl (by omega)
    split at h
    · rename_i h2
      rw [dgB_iff] at h2
      have l2 := nx_in (t := t) (a := a + 1) rfl (by omega)
      cases h
      exact ⟨by omega, by omega, by omega, by omega⟩
    · cases h
      exact ⟨by omega, by omega, by omega, by omega⟩
  · cases h
theorem pNm_no {t : List Nat} {a b : Nat} (h : pNm t a = (none, b)) : b = a := by
  unfold pNm at h
  split at h
  · split at h <;> cases h
  · cases h; rfl
theorem plc_in {t : List Nat} {a : Nat} (h : ¬ plc (nx t a) = 9) : a < t.length ∧ plc (nx t a) ≤ 5 := by
  by_cases h2 : a < t.length
  · refine ⟨h2, ?_⟩
    unfold plc at h ⊢
    repeat' split
    all_goals first | decide | (simp_all; done)
  · rw [nx_end h2] at h; exact absurd rfl h
theorem pTs_ok {t : List Nat} {a : Nat} {ts : List Nat} {b : Nat} (h : pTs t a = (some ts, b)) : pOk t a ts b := by
  unfold pTs at h
  split at h
  · cases h
  · rename_i hp
    obtain ⟨l1, l5⟩ := plc_in hp
    split at h
    · rename_i h2
      split at h
      · cases h
      · rename_i n b' hn
        obtain ⟨n1, n2, n3, n4⟩ := pNm_ok hn
        cases h
        have htk : tkok (10 + (1000 * plc (nx t a) + 100 * (nx t (a + 1) - 60) + n)) = true := by
          generalize plc (nx t a) = f at l5 ⊢
          generalize nx t (a + 1) = s at h2 ⊢
          unfold tkok
          rw [Bool.or_eq_true, Bool.and_eq_true, Bool.and_eq_true, decide_eq_true_eq, decide_eq_true_eq, decide_eq_true_eq, decide_eq_true_eq]
          right
          refine ⟨⟨by omega, by omega⟩, ?_⟩
          rw [Nat.add_sub_cancel_left]
          have : (1000 * f + 100 * (s - 60) + n) / 100 = 10 * f + (s - 60) := by omega
          rw [this]
          omega
        refine ⟨?_, by omega, n4, ?_, ?_, ?_⟩
        · show a + 4 * ([_].filter _).length ≤ b + 1
          rw [List.filter_cons_of_pos (by rw [decide_eq_true_eq]; omega)]
          simp
          omega
        · simp; omega
        · simp [htk]
        · intro r m
          show shp (_ :: r) m = _
          rw [shp_s, if_neg (by omega), if_neg (by omega)]
    · cases h
theorem pTs_le {t : List Nat} {a b : Nat} (h : pTs t a = (none, b)) : a ≤ b ∧ (a ≤ t.length → b ≤ t.length) := by
  unfold pTs at h
  split at h
  · cases h; exact ⟨Nat.le_refl _, id⟩
  · rename_i hp
    obtain ⟨l1, l5⟩ := plc_in hp
    split at h
    · rename_i h2
      have l2 := nx_in (t := t) (a := a + 1) rfl (by omega)
      split at h
      · rename_i b' hn
        cases h
        have := pNm_no hn
        omega
      · cases h
    · cases h
      omega
/-- what an E gathers while it is read -/
def eIn (t : List Nat) (a0 : Nat) (o n : Bool) (a : Nat) (acc : List Nat) : Prop := a0 + 4 * tn acc ≤ a ∧ a0 ≤ a ∧ acc.length + o.toNat + n.toNat + a0 ≤ a ∧ acc.all tkok = true ∧ ∀ r m, shp (acc ++ r) m = shp r (m + o.toNat + n.toNat)
theorem eIn_0 (t : List Nat) (a : Nat) : eIn t a false false a [] := ⟨Nat.le_refl _, Nat.le_refl _, by show 0 + 0 + 0 + a ≤ a; omega, rfl, fun r m => rfl⟩
theorem shp1 (r : List Nat) (m : Nat) : shp (1 :: r) (m + 2) = shp r (m + 1) := by rw [shp_s]; simp
theorem shp2 (r : List Nat) (m : Nat) : shp (2 :: r) (m + 2) = shp r (m + 1) := by rw [shp_s]; simp
theorem eL_ok {t : List Nat} {F : Nat → Rs} (hF : ∀ a ts b, F a = (some ts, b) → pOk t a ts b) {a0 : Nat} : ∀ k o n a acc ts b, eIn t a0 o n a acc → eL t F k o n a acc = (some ts, b) → pOk t a0 ts b
  | 0, _, _, _, _, _, _, _, h => by cases h
  | k + 1, o, n, a, acc, ts, b, hi, h => by
    obtain ⟨i1, i2, i3, i4, i5⟩ := hi
    unfold eL at h
    split at h
    · cases h
    · rename_i us c hc
      obtain ⟨f1, f2, f3, f4, f5, f6⟩ := hF _ _ _ hc
      have e1 : tn (acc ++ us ++ (if n = true then [1] else [])) = tn acc + tn us := by
        rw [tn_app, tn_app]
        cases n <;> rfl
      have l1 : (acc ++ us ++ (if n = true then [1] else [])).length = acc.length + us.length + n.toNat := by
        cases n <;> simp [Nat.add_assoc]
      have a1 : (acc ++ us ++ (if n = true then [1] else [])).all tkok = true := by
        rw [List.all_append, List.all_append, i4, f5]
        cases n <;> rfl
      have s1 : ∀ r m, shp (acc ++ us ++ (if n = true then [1] else []) ++ r) m = shp r (m + o.toNat + 1) := by
        intro r m
        rw [List.append_assoc, List.append_assoc, i5, f6]
        cases n with
        | false => rfl
        | true => exact shp1 r _
      have e2 : tn (acc ++ us ++ (if n = true then [1] else []) ++ (if o = true then [2] else [])) = tn acc + tn us := by
        rw [tn_app, e1]
        cases o <;> rfl
      have l2 : (acc ++ us ++ (if n = true then [1] else []) ++ (if o = true then [2] else [])).length = acc.length + us.length + n.toNat + o.toNat := by
        rw [List.length_append, l1]
        cases o <;> simp
      have a2 : (acc ++ us ++ (if n = true then [1] else []) ++ (if o = true then [2] else [])).all tkok = true := by
        rw [List.all_append, a1]
        cases o <;> rfl
      have s2 : ∀ r m, shp (acc ++ us ++ (if n = true then [1] else []) ++ (if o = true then [2] else []) ++ r) m = shp r (m + 1) := by
        intro r m
        rw [List.append_assoc (acc ++ us ++ (if n = true then [1] else [])), s1]
        cases o with
        | false => rfl
        | true => exact shp2 r _
      split at h
      · refine eL_ok hF k o true _ _ ts b ⟨by rw [e1]; omega, by omega, by rw [l1]; show _ + _ + _ + o.toNat + 1 + a0 ≤ _; omega, a1, fun r m => ?_⟩ h
        rw [s1]; rfl
      · split at h
        · refine eL_ok hF k true false _ _ ts b ⟨by rw [e2]; omega, by omega, by rw [l2]; show _ + _ + _ + _ + 1 + 0 + a0 ≤ _; omega, a2, fun r m => ?_⟩ h
          rw [s2]; rfl
        · cases h
          exact ⟨by rw [e2]; omega, by omega, f3, by rw [l2]; omega, a2, s2⟩
theorem eL_le {t : List Nat} {F : Nat → Rs} (hF : ∀ a ts b, F a = (some ts, b) → pOk t a ts b) (hN : ∀ a b, F a = (none, b) → a ≤ b ∧ (a ≤ t.length → b ≤ t.length)) : ∀ k o n a acc b, eL t F k o n a acc = (none, b) → a ≤ b ∧ (a ≤ t.length → b ≤ t.length)
  | 0, _, _, a, _, b, h => by cases h; exact ⟨Nat.le_refl _, id⟩
  | k + 1, o, n, a, acc, b, h => by
    unfold eL at h
    split at h
    · rename_i c hc
      cases h
      exact hN _ _ hc
    · rename_i us c hc
      obtain ⟨f1, f2, f3, f4, f5, f6⟩ := hF _ _ _ hc
      split at h
      · rename_i h2
        have l2 := nx_in h2 (by decide)
        have := eL_le hF hN k _ _ _ _ b h
        omega
      · split at h
        · rename_i h2
          have l2 := nx_in h2 (by decide)
          have := eL_le hF hN k _ _ _ _ b h
          omega
        · cases h
theorem pFa_ok {Q : Nat} {t : List Nat} : ∀ d, (∀ a ts b, pFa Q t d a = (some ts, b) → pOk t a ts b) ∧ (∀ a b, pFa Q t d a = (none, b) → a ≤ b ∧ (a ≤ t.length → b ≤ t.length))
  | 0 => by
    refine ⟨fun a ts b h => ?_, fun a b h => ?_⟩
    · unfold pFa at h
      split at h
      · cases h
      · exact pTs_ok h
    · unfold pFa at h
      split at h
      · cases h; exact ⟨Nat.le_refl _, id⟩
      · exact pTs_le h
  | d + 1 => by
    obtain ⟨ih1, ih2⟩ := pFa_ok (Q := Q) (t := t) d
    refine ⟨fun a ts b h => ?_, fun a b h => ?_⟩
    · unfold pFa at h
      split at h
      · rename_i h1
        split at h
        · cases h
        · rename_i us c hc
          cases h
          obtain ⟨f1, f2, f3, f4, f5, f6⟩ := ih1 _ _ _ hc
          refine ⟨?_, by omega, f3, ?_, ?_, ?_⟩
          · rw [tn_app]; show a + 4 * (tn us + 0) ≤ _; omega
          · rw [List.length_append, List.length_singleton]; omega
          · rw [List.all_append, f5]; rfl
          · intro r m
            rw [List.append_assoc, f6]
            show shp (0 :: r) _ = _
            rw [shp_s]
            simp
      · split at h
        · split at h
          · cases h
          · rename_i us c hc
            split at h
            · rename_i h3
              cases h
              have l2 := nx_in h3 (by decide)
              obtain ⟨f1, f2, f3, f4, f5, f6⟩ := eL_ok ih1 (a0 := a + 1) _ _ _ _ _ _ _ (eIn_0 t (a + 1)) hc
              exact ⟨by omega, by omega, by omega, by omega, f5, f6⟩
            · cases h
        · exact pTs_ok h
    · unfold pFa at h
      split at h
      · rename_i h1
        have l2 := nx_in h1 (by decide)
        split at h
        · rename_i c hc
          cases h
          have := ih2 _ _ hc
          omega
        · cases h
      · split at h
        · rename_i h1
          have l2 := nx_in h1 (by decide)
          split at h
          · rename_i c hc
            cases h
            have := eL_le ih1 ih2 _ _ _ _ _ _ hc
            omega
          · rename_i us c hc
            split at h
            · cases h
            · cases h
              obtain ⟨f1, f2, f3, f4, f5, f6⟩ := eL_ok ih1 (a0 := a + 1) _ _ _ _ _ _ _ (eIn_0 t (a + 1)) hc
              omega
        · exact pTs_le h
theorem pEi_ok {Q : Nat} {t : List Nat} {d a : Nat} {ts : List Nat} {b : Nat} (h : pEi Q t d a = (some ts, b)) : pOk t a ts b := eL_ok (pFa_ok d).1 _ _ _ _ _ _ _ (eIn_0 t a) h
theorem pEi_le {Q : Nat} {t : List Nat} {d a b : Nat} (h : pEi Q t d a = (none, b)) : a ≤ b ∧ (a ≤ t.length → b ≤ t.length) := eL_le (pFa_ok d).1 (pFa_ok d).2 _ _ _ _ _ _ h
/-- a word, letter by letter -/
def pWd (t : List Nat) : List Nat → Nat → Bool × Nat
  | [], a => (true, a)
  | c :: r, a => if nx t a = c then pWd t r (a + 1) else (false, a)
theorem pWd_le {t : List Nat} : ∀ (ws : List Nat) (a : Nat), (∀ x ∈ ws, x < 128) → a ≤ (pWd t ws a).2 ∧ (pWd t ws a).2 ≤ a + ws.length ∧ (a ≤ t.length → (pWd t ws a).2 ≤ t.length) ∧ ((pWd t ws a).1 = true → (pWd t ws a).2 = a + ws.length)
  | [], a, _ => ⟨Nat.le_refl _, Nat.le_refl _, id, fun _ => rfl⟩
  | c :: r, a, h => by
    unfold pWd
    split
    · rename_i h1
      have l2 := nx_in h1 (h c List.mem_cons_self)
      have ih := pWd_le (t := t) r (a + 1) (fun x hx => h x (List.mem_cons_of_mem _ hx))
      rw [List.length_cons]
      refine ⟨by omega, by omega, fun _ => ih.2.2.1 (by omega), fun z => by rw [ih.2.2.2 z]; omega⟩
    · rw [List.length_cons]
      exact ⟨Nat.le_refl _, by omega, id, fun z => by cases z⟩
def hWd (c : Nat) : Nat := if c = 103 then 0 else if c = 115 then 1 else 2
def hLs (w : Nat) : List Nat := if w = 0 then [103, 108, 97, 100, 32] else if w = 1 then [115, 111, 117, 114, 32] else [114, 111, 117, 110, 100, 32]
abbrev Cl : Type := Nat × Nat × List Nat
def pCl (Q : Nat) (t : List Nat) (a : Nat) : Option Cl × Nat := match pWd t (hLs (hWd (nx t a))) a with
  | (false, b) => (none, b)
  | (true, b) => match pNm t b with
    | (none, c) => (none, c)
    | (some n, c) => if hWd (nx t a) = 2 then (some (2, n, []), c) else if nx t c = 32 then (match pEi Q t 4 (c + 1) with
      | (none, d) => (none, d)
      | (some ts, d) => (some (hWd (nx t a), n, ts), d)) else (none, c)
def pTx (Q : Nat) (t : List Nat) : Nat → Nat → List Cl → Option Wk × Nat
  | 0, a, _ => (none, a)
  | k + 1, a, acc => match pCl Q t a with
    | (none, b) => (none, b)
    | (some c, b) => if b = t.length then (some (acc ++ [c]), b) else if k = 0 then (none, b) else if nx t b = 59 then pTx Q t k (b + 1) (acc ++ [c]) else (none, b)
/-- the works that a text is, or where it is at fault -/
def pWk (Q M : Nat) (t : List Nat) : Option Wk × Nat := pTx Q t M 0 []
theorem hLs_ok (w : Nat) : (∀ x ∈ hLs w, x < 128) ∧ 5 ≤ (hLs w).length := by
  unfold hLs
  split
  · decide
  · split <;> decide
/-- a clause that was read -/
def cOk (t : List Nat) (a : Nat) (c : Cl) (b : Nat) : Prop := c.1 ≤ 2 ∧ c.2.1 ≤ 99 ∧ a + 6 ≤ b ∧ b ≤ t.length ∧ c.2.2.length + a + 6 ≤ b ∧ (c.1 < 2 → c.2.2.all tkok = true ∧ shp c.2.2 0 = some 1 ∧ 4 * tn c.2.2 + a + 6 ≤ b)
theorem pCl_ok {Q : Nat} {t : List Nat} {a : Nat} {c : Cl} {b : Nat} (h : pCl Q t a = (some c, b)) : cOk t a c b := by
  have hw2 : hWd (nx t a) ≤ 2 := by
    unfold hWd
    split
    · decide
    · split <;> decide
  unfold pCl at h
  split at h
  · cases h
  · rename_i b1 h1
    have hl := hLs_ok (hWd (nx t a))
    have hw := pWd_le (t := t) (hLs (hWd (nx t a))) a hl.1
    rw [h1] at hw
    have hb1 := hw.2.2.2 rfl
    split at h
    · cases h
    · rename_i n c1 hn
      obtain ⟨n1, n2, n3, n4⟩ := pNm_ok hn
      split at h
      · cases h
        refine ⟨Nat.le_refl _, n1, ?_, n4, ?_, fun z => absurd z (Nat.lt_irrefl _)⟩
        · omega
        · show 0 + a + 6 ≤ b
          omega
      · rename_i h2
        split at h
        · split at h
          · cases h
          · rename_i ts d hd
            cases h
            obtain ⟨f1, f2, f3, f4, f5, f6⟩ := pEi_ok hd
            refine ⟨hw2, n1, by omega, f3, by show ts.length + a + 6 ≤ b; omega, fun _ => ⟨f5, ?_, by show 4 * tn ts + a + 6 ≤ b; omega⟩⟩
            have := f6 [] 0
            rw [List.append_nil] at this
            exact this
        · cases h
theorem pCl_le {Q : Nat} {t : List Nat} {a b : Nat} (h : pCl Q t a = (none, b)) : a ≤ b ∧ (a ≤ t.length → b ≤ t.length) := by
  unfold pCl at h
  have hl := hLs_ok (hWd (nx t a))
  have hw := pWd_le (t := t) (hLs (hWd (nx t a))) a hl.1
  split at h
  · rename_i b1 h1
    rw [h1] at hw
    cases h
    exact ⟨hw.1, hw.2.2.1⟩
  · rename_i b1 h1
    rw [h1] at hw
    have hw1 := hw.1
    have hw3 := hw.2.2.1
    have hb1 := hw.2.2.2 rfl
    split at h
    · rename_i c1 hn
      cases h
      have := pNm_no hn
      subst this
      exact ⟨hw1, hw3⟩
    · rename_i n c1 hn
      obtain ⟨n1, n2, n3, n4⟩ := pNm_ok hn
      split at h
      · cases h
      · split at h
        · rename_i h3
          have l2 := nx_in h3 (by decide)
          split at h
          · rename_i d hd
            cases h
            have := pEi_le hd
            omega
          · cases h
        · cases h
          omega
