/-! tapes: sorts, lengths, items -/
abbrev Tp : Type := (Nat → Int32) × (Nat → Nat) × (Nat → Nat → Int64)
def tpw (T : Tp) : Prop := ∀ t, t < 6 → ((T.1 t = -nI 1 ∧ T.2.1 t = 0) ∨ ∃ s, s < 5 ∧ T.1 t = nI s) ∧ T.2.1 t ≤ 60
def mTp (T : Tp) (I : Nat → Nat → Int32) (L : Nat → Nat → Int64) : Prop := ∀ t, t < 6 → I 167 t = T.1 t ∧ I 168 t = nI (T.2.1 t) ∧ ∀ i, i < T.2.1 t → L 169 (60 * t + i) = T.2.2 t i
def setT (T : Tp) (t : Nat) (s : Int32) (n : Nat) : Tp := ((fun x => if x = t then s else T.1 x), upN T.2.1 t n, fun x i => if x = t then 0 else T.2.2 x i)
def frL (L L' : Nat → Nat → Int64) : Prop := ∀ q, q ≠ 169 → q ≠ 170 → L' q = L q
theorem frL_rf (L : Nat → Nat → Int64) : frL L L := fun _ _ _ => rfl
theorem frL_tr {L L1 L2 : Nat → Nat → Int64} (h1 : frL L L1) (h2 : frL L1 L2) : frL L L2 := fun q a b => (h2 q a b).trans (h1 q a b)
theorem frL_at {L : Nat → Nat → Int64} {p k : Nat} {v : Int64} (h : p = 169 ∨ p = 170) : frL L (up2 L p k v) := fun q a b => up2_ne _ _ _ (fun z => by rcases h with h | h <;> rw [h] at z <;> contradiction)
theorem tp_lt {x : Int32} (h : (x = -nI 1 ∧ True) ∨ ∃ s, s < 5 ∧ x = nI s) : (x < 0 ↔ x = -nI 1) ∧ (0 ≤ x ↔ ¬ x = -nI 1) := by
  rcases h with ⟨rfl, -⟩ | ⟨s, hs, rfl⟩
  · decide
  · have h5 : s = 0 ∨ s = 1 ∨ s = 2 ∨ s = 3 ∨ s = 4 := by omega
    rcases h5 with rfl | rfl | rfl | rfl | rfl <;> decide
theorem tpw_lt {T : Tp} (hT : tpw T) {t : Nat} (ht : t < 6) : (T.1 t < 0 ↔ T.1 t = -nI 1) ∧ (0 ≤ T.1 t ↔ ¬ T.1 t = -nI 1) := tp_lt ((hT t ht).1.elim (fun h => Or.inl ⟨h.1, trivial⟩) Or.inr)
theorem srt_in {s : Int32} : (-nI 1 ≤ s ∧ s ≤ nI 4) ↔ (s = -nI 1 ∨ isIn s 5 = true) := by
  rw [isIn_iff (by decide)]
  constructor
  · rintro ⟨h1, h2⟩
    by_cases h : nI 0 ≤ s
    · exact Or.inr (by obtain ⟨j, hj, e⟩ := (i_le (by decide)).mp ⟨h, h2⟩; exact ⟨j, by omega, e⟩)
    · left
      apply Int32.toInt_inj.mp
      rw [Int32.le_iff_toInt_le] at h h1
      have e1 : (-nI 1).toInt = -1 := by decide
      have e0 : (nI 0).toInt = 0 := by decide
      omega
  · rintro (rfl | ⟨j, hj, rfl⟩)
    · decide
    · have h5 : j = 0 ∨ j = 1 ∨ j = 2 ∨ j = 3 ∨ j = 4 := by omega
      rcases h5 with rfl | rfl | rfl | rfl | rfl <;> decide
theorem tap_in {x : Int32} : (∃ j, j ≤ 5 ∧ x = nI j) ↔ isIn x 6 = true := by
  rw [isIn_iff (by decide)]
  exact ⟨fun ⟨j, h, e⟩ => ⟨j, by omega, e⟩, fun ⟨j, h, e⟩ => ⟨j, by omega, e⟩⟩
theorem sg_m1 {s : Int32} (h : s = -nI 1 ∨ isIn s 5 = true) : (s < 0 ↔ s = -nI 1) ∧ (0 ≤ s ↔ ¬ s = -nI 1) := tp_lt (h.elim (fun h => Or.inl ⟨h, trivial⟩) (fun h => Or.inr ((isIn_iff (by decide)).mp h)))
def tapS (T : Tp) (t s n : Int32) : Int32 × Tp := if isIn t 6 = true then (if s = -nI 1 then (1, setT T (jx t) s 0) else if isIn s 5 = true then (if nI 60 < n then (-nI 2, T) else if n < 0 then (-nI 14, T) else (1, setT T (jx t) s (jx n))) else (-nI 2, T)) else (-nI 1, T)
theorem tpw_set {T : Tp} (hT : tpw T) {t n : Nat} {s : Int32} (hs : (s = -nI 1 ∧ n = 0) ∨ ∃ j, j < 5 ∧ s = nI j) (hn : n ≤ 60) : tpw (setT T t s n) := by
  intro x hx
  show (((if x = t then s else T.1 x) = -nI 1 ∧ upN T.2.1 t n x = 0) ∨ ∃ j, j < 5 ∧ (if x = t then s else T.1 x) = nI j) ∧ upN T.2.1 t n x ≤ 60
  by_cases e : x = t
  · subst e
    rw [if_pos rfl, upN_at]
    exact ⟨hs, hn⟩
  · rw [if_neg e, upN_ne _ _ e]
    exact hT x hx
theorem n_in60 {n : Int32} (h1 : ¬ nI 60 < n) (h2 : ¬ n < 0) : ∃ k, k ≤ 60 ∧ n = nI k := (i_le (by decide)).mp ⟨i_nlt.mp (show ¬ n < nI 0 from h2), i_nlt.mp h1⟩
set_option maxHeartbeats 2000000 in
theorem c_M_tape (E : zE) (K N : Nat → Nat) (Rf : Nat → Nat → Option Nat) (I : Nat → Nat → Int32) (L : Nat → Nat → Int64) {T : Tp} (hT60 : ∀ t, t < 6 → T.2.1 t ≤ 60) (hT : mTp T I L) (t s n : Int32) : zCt E mX12_tape 2 0 0 (sg K N Rf I L) [.ref 100, .int t, .int s, .int n] (fun r σ' => ∃ I' L', σ' = sg K N Rf I' L' ∧ r = some (.int (tapS T t s n).1) ∧ mTp (tapS T t s n).2 I' L' ∧ frX [167, 168] [] I I' ∧ frL L L') := by
  refine z_intro (by decide) (Nat.le_of_ble_eq_true rfl) (fun X hX => ?_)
  have hl : ∀ (a k : Nat), a < 6 → k ≤ 60 → t = nI a → tapS T t s n = (1, setT T a s k) → ∀ m i (L1 : Nat → Nat → Int64), i + m = 60 → (∀ j, j < i → L1 169 (60 * a + j) = 0) → (∀ q j, ¬ (q = 169 ∧ 60 * a ≤ j ∧ j < 60 * a + 60) → L1 q j = L q j) → zS X (sg K N Rf (up2 (up2 I 167 a s) 168 a (nI k)) L1) 0 0 69 [(0, .ref 100), (1, .int t), (2, .int s), (3, .int n), (4, .int (nI i))] [] := by
    intro a k ha hk hta hS m
    subst hta
    induction m with
    | zero =>
      intro i L1 hi h1 h2
      obtain rfl : i = 60 := by omega
      refine bk hX lkX12_ok (pc' := 73) [.iload 4, .bipush 60] (by decide +kernel) (And.intro trivial ?_)
      refine ic_ge hX (22) 95 (by decide +kernel) (by decide) (fun c_73 => ?_) (fun c => absurd (by decide) c)
      refine bk hX lkX12_ok (pc' := 96) [.iconst 1] (by decide +kernel) (And.intro trivial ?_)
      exact z_iret hX (by decide +kernel) rfl (rfl) (by decide) (by decide) (by
  rw [hS]
  refine ⟨_, _, rfl, rfl, fun x hx => ?_, frX_tr (frX_at (by decide) (by decide)) (frX_at (by decide) (by decide)), fun q q1 q2 => funext fun j => h2 q j (fun z => q1 z.1)⟩
  obtain ⟨t1, t2, t3⟩ := hT x hx
  show _ = (if x = a then s else T.1 x) ∧ _ = nI (upN T.2.1 a k x) ∧ ∀ i, i < upN T.2.1 a k x → L1 169 (60 * x + i) = if x = a then 0 else T.2.2 x i
  by_cases e : x = a
  · subst e
    rw [upN_at]
    exact ⟨by simp [up2_v], by simp [up2_v], fun i hi => by rw [if_pos rfl]; exact h1 i (by omega)⟩
  · rw [upN_ne _ _ e]
    refine ⟨by simp [up2_v, e, t1], by simp [up2_v, e, t2], fun i hi => ?_⟩
    have h60 : T.2.1 x ≤ 60 := hT60 x hx
    rw [if_neg e, h2 _ _ (by omega)]
    exact t3 i hi)
    | succ m ih =>
      intro i L1 hi h1 h2
      have ci : (nI (60 * a + i)).toNatClampNeg = 60 * a + i := cl (by omega)
      refine bk hX lkX12_ok (pc' := 73) [.iload 4, .bipush 60] (by decide +kernel) (And.intro trivial ?_)
      refine ic_ge hX (22) 95 (by decide +kernel) (by decide) (fun c => absurd c (nI_ge (a := i) (b := 60) (by omega) (by decide))) (fun c_73 => ?_)
      refine bk hX lkX12_ok (pc' := 92) [.aload_n 0, .getfield 217, .bipush 60, .iload_n 1, .imul, .iload 4, .iadd, .lconst 0, .lastore, .iinc 4 1] (by decide +kernel) (And.intro (by rw [show nI 60 * nI a = nI (60 * a) from pk_mul _ _, nI_add]; exact vin 360 (by omega)) (And.intro trivial ?_))
      refine gt_ hX (-23) 69 (by decide +kernel) (by decide) ?_
      refine z_lvk (lv' := [(0, _), (1, _), (2, _), (3, _), (4, _)]) [1, 2, 3, 4, 0] rfl ?_
      rw [show nI 60 * nI a = nI (60 * a) from pk_mul _ _, nI_add, nI_add, ci]
      exact ih (i + 1) _ (by omega) (fun j hj => by
        rw [up2_v]
        split
        · rfl
        · exact h1 j (by omega)) (fun q j hq => by rw [up2_v, if_neg (by omega)]; exact h2 q j hq)
  refine bk hX lkX12_ok (pc' := 2) [.aload_n 0, .iload_n 1] (by decide +kernel) (And.intro trivial ?_)
  refine z_callV hX kw_X12_388 (c_M_isTape E _ rfl _) rfl rfl rfl rfl rfl (by decide +kernel) (by decide) (by decide) (by decide) (by decide) (Nat.le_of_ble_eq_true rfl) ?_
  rintro _ _ ⟨rfl, hh⟩
  rw [tap_in] at hh
  rcases hh with ⟨ht, rfl⟩ | ⟨ht, rfl⟩
  · refine if_ne hX (5) 10 (by decide +kernel) (by decide) (fun c_5 => ?_) (fun c => absurd c (by decide))
    refine bk hX lkX12_ok (pc' := 14) [.aload_n 0, .iload_n 2, .iconst (Int.negSucc 0), .iconst 4] (by decide +kernel) (And.intro trivial ?_)
    refine z_callV hX kw_X12_228 (c_M_in E _ _ _ _ _) rfl rfl rfl rfl rfl (by decide +kernel) (by decide) (by decide) (by decide) (by decide) (Nat.le_of_ble_eq_true rfl) ?_
    rintro _ _ ⟨rfl, hh⟩
    rw [show (-nI 1 ≤ s ∧ s ≤ nI 4) ↔ _ from srt_in] at hh
    rcases hh with ⟨hs, rfl⟩ | ⟨hs, rfl⟩
    · refine if_eq hX (13) 30 (by decide +kernel) (by decide) (fun c => absurd c (by decide)) (fun c_17 => ?_)
      refine bk hX lkX12_ok (pc' := 21) [.iload_n 2] (by decide +kernel) (And.intro trivial ?_)
      refine if_lt hX (12) 33 (by decide +kernel) (by decide) (fun c1 => ?_) (fun c1 => ?_)
      · refine bk hX lkX12_ok (pc' := 34) [.iload_n 2] (by decide +kernel) (And.intro trivial ?_)
        refine if_lt hX (10) 44 (by decide +kernel) (by decide) (fun c3 => ?_) (fun c3 => ?_)
        · obtain ⟨a, ha, rfl⟩ := (isIn_iff (by decide)).mp ht
          have ca : (nI a).toNatClampNeg = a := cl (by omega)
          refine bk hX lkX12_ok (pc' := 57) [.aload_n 0, .getfield 211, .iload_n 1, .iload_n 2, .iastore, .aload_n 0, .getfield 214, .iload_n 1, .iload_n 2] (by decide +kernel) (And.intro (by exact vin 6 ha) (And.intro trivial ?_))
          refine if_ge hX (7) 64 (by decide +kernel) (by decide) (fun c5 => ?_) (fun c5 => ?_)
          · refine bk hX lkX12_ok (pc' := 69) [.iload_n 3, .iastore, .iconst 0, .istore 4] (by decide +kernel) (And.intro (by exact vin 6 ha) (And.intro trivial ?_))
            refine z_lvk (lv' := [(0, _), (1, _), (2, _), (3, _), (4, _)]) [1, 2, 3, 4, 0] rfl ?_
            rw [ca]
            first
              | (have h1 : s = -nI 1 := (sg_m1 hs).1.mp c3
                 exact hl a 0 ha (by omega) rfl (by unfold tapS; rw [if_pos ht, if_pos h1, jx_nI (by omega)]) 60 0 L (by omega) (fun j hj => absurd hj (Nat.not_lt_zero _)) (fun _ _ _ => rfl))
              | (have h1 : ¬ s = -nI 1 := fun z => c3 ((sg_m1 hs).1.mpr z)
                 have h2 : isIn s 5 = true := hs.resolve_left h1
                 have h3 : ¬ nI 60 < n := i_nlt.mpr c2
                 have h4 : ¬ n < 0 := i_nlt.mpr c4
                 obtain ⟨k, hk, rfl⟩ := n_in60 h3 h4
                 exact hl a k ha hk rfl (by unfold tapS; rw [if_pos ht, if_neg h1, if_pos h2, if_neg h3, if_neg h4, jx_nI (by omega), jx_nI (by omega)]) 60 0 L (by omega) (fun j hj => absurd hj (Nat.not_lt_zero _)) (fun _ _ _ => rfl))
              | exact absurd c3 c5
              | exact absurd c1 c3
              | exact absurd (i_nle.mp c5) c3
              | exact absurd c5 (i_nle.mpr c3)
          · refine bk hX lkX12_ok (pc' := 61) [.iconst 0] (by decide +kernel) (And.intro trivial ?_)
            refine gt_ hX (4) 65 (by decide +kernel) (by decide) ?_
            refine bk hX lkX12_ok (pc' := 69) [.iastore, .iconst 0, .istore 4] (by decide +kernel) (And.intro (by exact vin 6 ha) (And.intro trivial ?_))
            refine z_lvk (lv' := [(0, _), (1, _), (2, _), (3, _), (4, _)]) [1, 2, 3, 4, 0] rfl ?_
            rw [ca]
            first
              | (have h1 : s = -nI 1 := (sg_m1 hs).1.mp c3
                 exact hl a 0 ha (by omega) rfl (by unfold tapS; rw [if_pos ht, if_pos h1, jx_nI (by omega)]) 60 0 L (by omega) (fun j hj => absurd hj (Nat.not_lt_zero _)) (fun _ _ _ => rfl))
              | (have h1 : ¬ s = -nI 1 := fun z => c3 ((sg_m1 hs).1.mpr z)
                 have h2 : isIn s 5 = true := hs.resolve_left h1
                 have h3 : ¬ nI 60 < n := i_nlt.mpr c2
                 have h4 : ¬ n < 0 := i_nlt.mpr c4
                 obtain ⟨k, hk, rfl⟩ := n_in60 h3 h4
                 exact hl a k ha hk rfl (by unfold tapS; rw [if_pos ht, if_neg h1, if_pos h2, if_neg h3, if_neg h4, jx_nI (by omega), jx_nI (by omega)]) 60 0 L (by omega) (fun j hj => absurd hj (Nat.not_lt_zero _)) (fun _ _ _ => rfl))
              | exact absurd c3 c5
              | exact absurd c1 c3
              | exact absurd (i_nle.mp c5) c3
              | exact absurd c5 (i_nle.mpr c3)
        · refine bk hX lkX12_ok (pc' := 38) [.iload_n 3] (by decide +kernel) (And.intro trivial ?_)
          refine if_ge hX (6) 44 (by decide +kernel) (by decide) (fun c4 => ?_) (fun c4 => ?_)
          · obtain ⟨a, ha, rfl⟩ := (isIn_iff (by decide)).mp ht
            have ca : (nI a).toNatClampNeg = a := cl (by omega)
            refine bk hX lkX12_ok (pc' := 57) [.aload_n 0, .getfield 211, .iload_n 1, .iload_n 2, .iastore, .aload_n 0, .getfield 214, .iload_n 1, .iload_n 2] (by decide +kernel) (And.intro (by exact vin 6 ha) (And.intro trivial ?_))
            refine if_ge hX (7) 64 (by decide +kernel) (by decide) (fun c5 => ?_) (fun c5 => ?_)
            · refine bk hX lkX12_ok (pc' := 69) [.iload_n 3, .iastore, .iconst 0, .istore 4] (by decide +kernel) (And.intro (by exact vin 6 ha) (And.intro trivial ?_))
              refine z_lvk (lv' := [(0, _), (1, _), (2, _), (3, _), (4, _)]) [1, 2, 3, 4, 0] rfl ?_
              rw [ca]
              first
                | (have h1 : s = -nI 1 := (sg_m1 hs).1.mp c3
                   exact hl a 0 ha (by omega) rfl (by unfold tapS; rw [if_pos ht, if_pos h1, jx_nI (by omega)]) 60 0 L (by omega) (fun j hj => absurd hj (Nat.not_lt_zero _)) (fun _ _ _ => rfl))
                | (have h1 : ¬ s = -nI 1 := fun z => c3 ((sg_m1 hs).1.mpr z)
                   have h2 : isIn s 5 = true := hs.resolve_left h1
                   have h3 : ¬ nI 60 < n := i_nlt.mpr c2
                   have h4 : ¬ n < 0 := i_nlt.mpr c4
                   obtain ⟨k, hk, rfl⟩ := n_in60 h3 h4
                   exact hl a k ha hk rfl (by unfold tapS; rw [if_pos ht, if_neg h1, if_pos h2, if_neg h3, if_neg h4, jx_nI (by omega), jx_nI (by omega)]) 60 0 L (by omega) (fun j hj => absurd hj (Nat.not_lt_zero _)) (fun _ _ _ => rfl))
                | exact absurd c3 c5
                | exact absurd c1 c3
                | exact absurd (i_nle.mp c5) c3
                | exact absurd c5 (i_nle.mpr c3)
            · refine bk hX lkX12_ok (pc' := 61) [.iconst 0] (by decide +kernel) (And.intro trivial ?_)
              refine gt_ hX (4) 65 (by decide +kernel) (by decide) ?_
              refine bk hX lkX12_ok (pc' := 69) [.iastore, .iconst 0, .istore 4] (by decide +kernel) (And.intro (by exact vin 6 ha) (And.intro trivial ?_))
              refine z_lvk (lv' := [(0, _), (1, _), (2, _), (3, _), (4, _)]) [1, 2, 3, 4, 0] rfl ?_
              rw [ca]
              first
                | (have h1 : s = -nI 1 := (sg_m1 hs).1.mp c3
                   exact hl a 0 ha (by omega) rfl (by unfold tapS; rw [if_pos ht, if_pos h1, jx_nI (by omega)]) 60 0 L (by omega) (fun j hj => absurd hj (Nat.not_lt_zero _)) (fun _ _ _ => rfl))
                | (have h1 : ¬ s = -nI 1 := fun z => c3 ((sg_m1 hs).1.mpr z)
                   have h2 : isIn s 5 = true := hs.resolve_left h1
                   have h3 : ¬ nI 60 < n := i_nlt.mpr c2
                   have h4 : ¬ n < 0 := i_nlt.mpr c4
                   obtain ⟨k, hk, rfl⟩ := n_in60 h3 h4
                   exact hl a k ha hk rfl (by unfold tapS; rw [if_pos ht, if_neg h1, if_pos h2, if_neg h3, if_neg h4, jx_nI (by omega), jx_nI (by omega)]) 60 0 L (by omega) (fun j hj => absurd hj (Nat.not_lt_zero _)) (fun _ _ _ => rfl))
                | exact absurd c3 c5
                | exact absurd c1 c3
                | exact absurd (i_nle.mp c5) c3
                | exact absurd c5 (i_nle.mpr c3)
          · refine bk hX lkX12_ok (pc' := 43) [.bipush (Int.negSucc 13)] (by decide +kernel) (And.intro trivial ?_)
            exact z_iret hX (by decide +kernel) rfl (rfl) (by decide) (by decide) (by first
  | exact absurd c1 c3
  | (have h1 : ¬ s = -nI 1 := fun z => c1 ((sg_m1 hs).1.mpr z)
     have h2 : isIn s 5 = true := hs.resolve_left h1
     have h3 : ¬ nI 60 < n := i_nlt.mpr c2
     have h4 : n < 0 := i_nle.mp c4
     exact ⟨I, L, rfl, by unfold tapS; rw [if_pos ht, if_neg h1, if_pos h2, if_neg h3, if_pos h4], by unfold tapS; rw [if_pos ht, if_neg h1, if_pos h2, if_neg h3, if_pos h4]; exact hT, frX_rf _ _ _, frL_rf _⟩))
      · refine bk hX lkX12_ok (pc' := 27) [.iload_n 3, .bipush 60] (by decide +kernel) (And.intro trivial ?_)
        refine ic_le hX (6) 33 (by decide +kernel) (by decide) (fun c2 => ?_) (fun c2 => ?_)
        · refine bk hX lkX12_ok (pc' := 34) [.iload_n 2] (by decide +kernel) (And.intro trivial ?_)
          refine if_lt hX (10) 44 (by decide +kernel) (by decide) (fun c3 => ?_) (fun c3 => ?_)
          · obtain ⟨a, ha, rfl⟩ := (isIn_iff (by decide)).mp ht
            have ca : (nI a).toNatClampNeg = a := cl (by omega)
            refine bk hX lkX12_ok (pc' := 57) [.aload_n 0, .getfield 211, .iload_n 1, .iload_n 2, .iastore, .aload_n 0, .getfield 214, .iload_n 1, .iload_n 2] (by decide +kernel) (And.intro (by exact vin 6 ha) (And.intro trivial ?_))
            refine if_ge hX (7) 64 (by decide +kernel) (by decide) (fun c5 => ?_) (fun c5 => ?_)
            · refine bk hX lkX12_ok (pc' := 69) [.iload_n 3, .iastore, .iconst 0, .istore 4] (by decide +kernel) (And.intro (by exact vin 6 ha) (And.intro trivial ?_))
              refine z_lvk (lv' := [(0, _), (1, _), (2, _), (3, _), (4, _)]) [1, 2, 3, 4, 0] rfl ?_
              rw [ca]
              first
                | (have h1 : s = -nI 1 := (sg_m1 hs).1.mp c3
                   exact hl a 0 ha (by omega) rfl (by unfold tapS; rw [if_pos ht, if_pos h1, jx_nI (by omega)]) 60 0 L (by omega) (fun j hj => absurd hj (Nat.not_lt_zero _)) (fun _ _ _ => rfl))
                | (have h1 : ¬ s = -nI 1 := fun z => c3 ((sg_m1 hs).1.mpr z)
                   have h2 : isIn s 5 = true := hs.resolve_left h1
                   have h3 : ¬ nI 60 < n := i_nlt.mpr c2
                   have h4 : ¬ n < 0 := i_nlt.mpr c4
                   obtain ⟨k, hk, rfl⟩ := n_in60 h3 h4
                   exact hl a k ha hk rfl (by unfold tapS; rw [if_pos ht, if_neg h1, if_pos h2, if_neg h3, if_neg h4, jx_nI (by omega), jx_nI (by omega)]) 60 0 L (by omega) (fun j hj => absurd hj (Nat.not_lt_zero _)) (fun _ _ _ => rfl))
                | exact absurd c3 c5
                | exact absurd c1 c3
                | exact absurd (i_nle.mp c5) c3
                | exact absurd c5 (i_nle.mpr c3)
            · refine bk hX lkX12_ok (pc' := 61) [.iconst 0] (by decide +kernel) (And.intro trivial ?_)
              refine gt_ hX (4) 65 (by decide +kernel) (by decide) ?_
              refine bk hX lkX12_ok (pc' := 69) [.iastore, .iconst 0, .istore 4] (by decide +kernel) (And.intro (by exact vin 6 ha) (And.intro trivial ?_))
              refine z_lvk (lv' := [(0, _), (1, _), (2, _), (3, _), (4, _)]) [1, 2, 3, 4, 0] rfl ?_
              rw [ca]
              first
                | (have h1 : s = -nI 1 := (sg_m1 hs).1.mp c3
                   exact hl a 0 ha (by omega) rfl (by unfold tapS; rw [if_pos ht, if_pos h1, jx_nI (by omega)]) 60 0 L (by omega) (fun j hj => absurd hj (Nat.not_lt_zero _)) (fun _ _ _ => rfl))
                | (have h1 : ¬ s = -nI 1 := fun z => c3 ((sg_m1 hs).1.mpr z)
                   have h2 : isIn s 5 = true := hs.resolve_left h1
                   have h3 : ¬ nI 60 < n := i_nlt.mpr c2
                   have h4 : ¬ n < 0 := i_nlt.mpr c4
                   obtain ⟨k, hk, rfl⟩ := n_in60 h3 h4
                   exact hl a k ha hk rfl (by unfold tapS; rw [if_pos ht, if_neg h1, if_pos h2, if_neg h3, if_neg h4, jx_nI (by omega), jx_nI (by omega)]) 60 0 L (by omega) (fun j hj => absurd hj (Nat.not_lt_zero _)) (fun _ _ _ => rfl))
                | exact absurd c3 c5
                | exact absurd c1 c3
                | exact absurd (i_nle.mp c5) c3
                | exact absurd c5 (i_nle.mpr c3)
          · refine bk hX lkX12_ok (pc' := 38) [.iload_n 3] (by decide +kernel) (And.intro trivial ?_)
            refine if_ge hX (6) 44 (by decide +kernel) (by decide) (fun c4 => ?_) (fun c4 => ?_)
            · obtain ⟨a, ha, rfl⟩ := (isIn_iff (by decide)).mp ht
              have ca : (nI a).toNatClampNeg = a := cl (by omega)
              refine bk hX lkX12_ok (pc' := 57) [.aload_n 0, .getfield 211, .iload_n 1, .iload_n 2, .iastore, .aload_n 0, .getfield 214, .iload_n 1, .iload_n 2] (by decide +kernel) (And.intro (by exact vin 6 ha) (And.intro trivial ?_))
              refine if_ge hX (7) 64 (by decide +kernel) (by decide) (fun c5 => ?_) (fun c5 => ?_)
              · refine bk hX lkX12_ok (pc' := 69) [.iload_n 3, .iastore, .iconst 0, .istore 4] (by decide +kernel) (And.intro (by exact vin 6 ha) (And.intro trivial ?_))
                refine z_lvk (lv' := [(0, _), (1, _), (2, _), (3, _), (4, _)]) [1, 2, 3, 4, 0] rfl ?_
                rw [ca]
                first
                  | (have h1 : s = -nI 1 := (sg_m1 hs).1.mp c3
                     exact hl a 0 ha (by omega) rfl (by unfold tapS; rw [if_pos ht, if_pos h1, jx_nI (by omega)]) 60 0 L (by omega) (fun j hj => absurd hj (Nat.not_lt_zero _)) (fun _ _ _ => rfl))
                  | (have h1 : ¬ s = -nI 1 := fun z => c3 ((sg_m1 hs).1.mpr z)
                     have h2 : isIn s 5 = true := hs.resolve_left h1
                     have h3 : ¬ nI 60 < n := i_nlt.mpr c2
                     have h4 : ¬ n < 0 := i_nlt.mpr c4
                     obtain ⟨k, hk, rfl⟩ := n_in60 h3 h4
                     exact hl a k ha hk rfl (by unfold tapS; rw [if_pos ht, if_neg h1, if_pos h2, if_neg h3, if_neg h4, jx_nI (by omega), jx_nI (by omega)]) 60 0 L (by omega) (fun j hj => absurd hj (Nat.not_lt_zero _)) (fun _ _ _ => rfl))
                  | exact absurd c3 c5
                  | exact absurd c1 c3
                  | exact absurd (i_nle.mp c5) c3
                  | exact absurd c5 (i_nle.mpr c3)
              · refine bk hX lkX12_ok (pc' := 61) [.iconst 0] (by decide +kernel) (And.intro trivial ?_)
                refine gt_ hX (4) 65 (by decide +kernel) (by decide) ?_
                refine bk hX lkX12_ok (pc' := 69) [.iastore, .iconst 0, .istore 4] (by decide +kernel) (And.intro (by exact vin 6 ha) (And.intro trivial ?_))
                refine z_lvk (lv' := [(0, _), (1, _), (2, _), (3, _), (4, _)]) [1, 2, 3, 4, 0] rfl ?_
                rw [ca]
                first
                  | (have h1 : s = -nI 1 := (sg_m1 hs).1.mp c3
                     exact hl a 0 ha (by omega) rfl (by unfold tapS; rw [if_pos ht, if_pos h1, jx_nI (by omega)]) 60 0 L (by omega) (fun j hj => absurd hj (Nat.not_lt_zero _)) (fun _ _ _ => rfl))
                  | (have h1 : ¬ s = -nI 1 := fun z => c3 ((sg_m1 hs).1.mpr z)
                     have h2 : isIn s 5 = true := hs.resolve_left h1
                     have h3 : ¬ nI 60 < n := i_nlt.mpr c2
                     have h4 : ¬ n < 0 := i_nlt.mpr c4
                     obtain ⟨k, hk, rfl⟩ := n_in60 h3 h4
                     exact hl a k ha hk rfl (by unfold tapS; rw [if_pos ht, if_neg h1, if_pos h2, if_neg h3, if_neg h4, jx_nI (by omega), jx_nI (by omega)]) 60 0 L (by omega) (fun j hj => absurd hj (Nat.not_lt_zero _)) (fun _ _ _ => rfl))
                  | exact absurd c3 c5
                  | exact absurd c1 c3
                  | exact absurd (i_nle.mp c5) c3
                  | exact absurd c5 (i_nle.mpr c3)
            · refine bk hX lkX12_ok (pc' := 43) [.bipush (Int.negSucc 13)] (by decide +kernel) (And.intro trivial ?_)
              exact z_iret hX (by decide +kernel) rfl (rfl) (by decide) (by decide) (by first
  | exact absurd c1 c3
  | (have h1 : ¬ s = -nI 1 := fun z => c1 ((sg_m1 hs).1.mpr z)
     have h2 : isIn s 5 = true := hs.resolve_left h1
     have h3 : ¬ nI 60 < n := i_nlt.mpr c2
     have h4 : n < 0 := i_nle.mp c4
     exact ⟨I, L, rfl, by unfold tapS; rw [if_pos ht, if_neg h1, if_pos h2, if_neg h3, if_pos h4], by unfold tapS; rw [if_pos ht, if_neg h1, if_pos h2, if_neg h3, if_pos h4]; exact hT, frX_rf _ _ _, frL_rf _⟩))
        · refine bk hX lkX12_ok (pc' := 32) [.bipush (Int.negSucc 1)] (by decide +kernel) (And.intro trivial ?_)
          exact z_iret hX (by decide +kernel) rfl (rfl) (by decide) (by decide) (by first
  | (have h1 : ¬ s = -nI 1 := fun z => hs (Or.inl z)
     have h2 : ¬ isIn s 5 = true := fun z => hs (Or.inr z)
     exact ⟨I, L, rfl, by unfold tapS; rw [if_pos ht, if_neg h1, if_neg h2], by unfold tapS; rw [if_pos ht, if_neg h1, if_neg h2]; exact hT, frX_rf _ _ _, frL_rf _⟩)
  | (have h1 : ¬ s = -nI 1 := fun z => c1 ((sg_m1 hs).1.mpr z)
     have h2 : isIn s 5 = true := hs.resolve_left h1
     have h3 : nI 60 < n := i_nle.mp c2
     exact ⟨I, L, rfl, by unfold tapS; rw [if_pos ht, if_neg h1, if_pos h2, if_pos h3], by unfold tapS; rw [if_pos ht, if_neg h1, if_pos h2, if_pos h3]; exact hT, frX_rf _ _ _, frL_rf _⟩))
    · refine if_eq hX (13) 30 (by decide +kernel) (by decide) (fun c_17 => ?_) (fun c => absurd (by decide) c)
      refine bk hX lkX12_ok (pc' := 32) [.bipush (Int.negSucc 1)] (by decide +kernel) (And.intro trivial ?_)
      exact z_iret hX (by decide +kernel) rfl (rfl) (by decide) (by decide) (by first
  | (have h1 : ¬ s = -nI 1 := fun z => hs (Or.inl z)
     have h2 : ¬ isIn s 5 = true := fun z => hs (Or.inr z)
     exact ⟨I, L, rfl, by unfold tapS; rw [if_pos ht, if_neg h1, if_neg h2], by unfold tapS; rw [if_pos ht, if_neg h1, if_neg h2]; exact hT, frX_rf _ _ _, frL_rf _⟩)
  | (have h1 : ¬ s = -nI 1 := fun z => c1 ((sg_m1 hs).1.mpr z)
     have h2 : isIn s 5 = true := hs.resolve_left h1
     have h3 : nI 60 < n := i_nle.mp c2
     exact ⟨I, L, rfl, by unfold tapS; rw [if_pos ht, if_neg h1, if_pos h2, if_pos h3], by unfold tapS; rw [if_pos ht, if_neg h1, if_pos h2, if_pos h3]; exact hT, frX_rf _ _ _, frL_rf _⟩))
  · refine if_ne hX (5) 10 (by decide +kernel) (by decide) (fun c => absurd (by decide) c) (fun c_5 => ?_)
    refine bk hX lkX12_ok (pc' := 9) [.iconst (Int.negSucc 0)] (by decide +kernel) (And.intro trivial ?_)
    exact z_iret hX (by decide +kernel) rfl (rfl) (by decide) (by decide) (⟨I, L, rfl, by unfold tapS; rw [if_neg ht], by unfold tapS; rw [if_neg ht]; exact hT, frX_rf _ _ _, frL_rf _⟩)
