/-! ===== tapes of the class ===== -/
def xTp (T : Tp) (I : Nat → Nat → Int32) (L : Nat → Nat → Int64) : Prop := ∀ t, t < 6 → I 211 t = T.1 t ∧ I 212 t = nI (T.2.1 t) ∧ ∀ i, i < T.2.1 t → L 213 (60 * t + i) = T.2.2 t i
def frK (L L' : Nat → Nat → Int64) : Prop := ∀ q, q ≠ 213 → L' q = L q
theorem frK_rf (L : Nat → Nat → Int64) : frK L L := fun _ _ => rfl
theorem c_X_fitted (E : zE) (σ : Sg) {s : Nat} (hs : s < 5) (z : Int64) : zCt E mX11_fitted 0 0 0 σ [.int (nI s), .long z] (fun r σ' => σ' = σ ∧ r = some (.long (narS (nI s) z))) := by
  have h5 : s = 0 ∨ s = 1 ∨ s = 2 ∨ s = 3 ∨ s = 4 := by omega
  refine z_intro (by decide) (Nat.le_of_ble_eq_true rfl) (fun X hX => ?_)
  refine bk hX lkX11_ok (pc' := 1) [.iload_n 0] (by decide +kernel) (And.intro trivial ?_)
  rcases h5 with rfl | rfl | rfl | rfl | rfl
  · refine z_tsw hX 32 (dflt := 47) (lo := 0) (hi := 3) (offs := #[31, 36, 41, 45]) (len := 31) (off := 31) (by decide +kernel) (by decide) (by decide) ?_
    refine bk hX lkX11_ok (pc' := 36) [.lload_n 1, .l2i, .i2b, .i2l] (by decide +kernel) (And.intro trivial ?_)
    exact z_lret hX (by decide +kernel) rfl (by decide) (by decide) (⟨rfl, by rw [narS, if_pos rfl]⟩)
  · refine z_tsw hX 37 (dflt := 47) (lo := 0) (hi := 3) (offs := #[31, 36, 41, 45]) (len := 31) (off := 36) (by decide +kernel) (by decide) (by decide) ?_
    refine bk hX lkX11_ok (pc' := 41) [.lload_n 1, .l2i, .i2s, .i2l] (by decide +kernel) (And.intro trivial ?_)
    exact z_lret hX (by decide +kernel) rfl (by decide) (by decide) (⟨rfl, by rw [narS, if_neg (by decide), if_pos rfl]⟩)
  · refine z_tsw hX 42 (dflt := 47) (lo := 0) (hi := 3) (offs := #[31, 36, 41, 45]) (len := 31) (off := 41) (by decide +kernel) (by decide) (by decide) ?_
    refine bk hX lkX11_ok (pc' := 45) [.lload_n 1, .l2i, .i2l] (by decide +kernel) (And.intro trivial ?_)
    exact z_lret hX (by decide +kernel) rfl (by decide) (by decide) (⟨rfl, by rw [narS, if_neg (by decide), if_neg (by decide), if_pos rfl]⟩)
  · refine z_tsw hX 46 (dflt := 47) (lo := 0) (hi := 3) (offs := #[31, 36, 41, 45]) (len := 31) (off := 45) (by decide +kernel) (by decide) (by decide) ?_
    refine bk hX lkX11_ok (pc' := 47) [.lload_n 1] (by decide +kernel) (And.intro trivial ?_)
    exact z_lret hX (by decide +kernel) rfl (by decide) (by decide) (⟨rfl, by rw [narS, if_neg (by decide), if_neg (by decide), if_neg (by decide), if_neg (by decide)]⟩)
  · refine z_tsw hX 48 (dflt := 47) (lo := 0) (hi := 3) (offs := #[31, 36, 41, 45]) (len := 31) (off := 47) (by decide +kernel) (by decide) (by decide) ?_
    refine bk hX lkX11_ok (pc' := 51) [.lload_n 1, .lconst 0, .lcmp] (by decide +kernel) (And.intro trivial ?_)
    refine if_eq hX (7) 58 (by decide +kernel) (by decide) (fun c5 => ?_) (fun c5 => ?_)
    · refine bk hX lkX11_ok (pc' := 59) [.lconst 0] (by decide +kernel) (And.intro trivial ?_)
      exact z_lret hX (by decide +kernel) rfl (by decide) (by decide) (by
  refine ⟨rfl, ?_⟩
  rw [narS, if_neg (by decide), if_neg (by decide), if_neg (by decide), if_pos rfl]
  first
    | (rw [if_pos (show z = 0 from lg_cmp0.mp c5)]; rfl)
    | (rw [if_neg (fun y : z = 0 => c5 (lg_cmp0.mpr y))]; rfl))
    · refine bk hX lkX11_ok (pc' := 55) [.lconst 1] (by decide +kernel) (And.intro trivial ?_)
      refine gt_ hX (4) 59 (by decide +kernel) (by decide) ?_
      exact z_lret hX (by decide +kernel) rfl (by decide) (by decide) (by
  refine ⟨rfl, ?_⟩
  rw [narS, if_neg (by decide), if_neg (by decide), if_neg (by decide), if_pos rfl]
  first
    | (rw [if_pos (show z = 0 from lg_cmp0.mp c5)]; rfl)
    | (rw [if_neg (fun y : z = 0 => c5 (lg_cmp0.mpr y))]; rfl))
set_option maxHeartbeats 1000000 in
theorem c_X_item (E : zE) (K N : Nat → Nat) (Rf : Nat → Nat → Option Nat) (I : Nat → Nat → Int32) (L : Nat → Nat → Int64) {T : Tp} (hw : tpw T) (hT : xTp T I L) (t i : Int32) (z : Int64) : zCt E mX11_item 1 0 0 (sg K N Rf I L) [.ref 200, .int t, .int i, .long z] (fun r σ' => ∃ L', σ' = sg K N Rf I L' ∧ r = some (.int (itmS T t i z).1) ∧ xTp (itmS T t i z).2 I L' ∧ frK L L') := by
  refine z_intro (by decide) (Nat.le_of_ble_eq_true rfl) (fun X hX => ?_)
  refine bk hX lkX11_ok (pc' := 1) [.iload_n 1] (by decide +kernel) (And.intro trivial ?_)
  refine z_callS hX kw_X11_239 (c_X_isTape E _ _) rfl rfl (by decide +kernel) (by decide) (by decide) (by decide) (by decide) (Nat.le_of_ble_eq_true rfl) ?_
  rintro _ _ ⟨rfl, hh⟩
  rcases hh with ⟨ht, rfl⟩ | ⟨ht, rfl⟩
  · refine if_ne hX (5) 9 (by decide +kernel) (by decide) (fun c_4 => ?_) (fun c => absurd c (by decide))
    obtain ⟨a, ha, rfl⟩ := isIn_ex ht (by decide)
    have ca : (nI a).toNatClampNeg = a := cl (by omega)
    have ja : jx (nI a) = a := ca
    obtain ⟨t1, t2, t3⟩ := hT a ha
    have h60 := (hw a ha).2
    refine bk hX lkX11_ok (pc' := 16) [.aload_n 0, .getfield 42, .iload_n 1, .iaload, .iconst (Int.negSucc 0)] (by decide +kernel) (And.intro (by exact vin 6 ha) (And.intro trivial ?_))
    rw [ca, show I (201 + 10) a = _ from t1]
    refine ic_ne hX (6) 22 (by decide +kernel) (by decide) (fun c1 => ?_) (fun c1 => ?_)
    · refine bk hX lkX11_ok (pc' := 25) [.aload_n 0, .iload_n 1, .iload_n 2] (by decide +kernel) (And.intro trivial ?_)
      refine z_callV hX kw_X11_242 (c_X_isPlace E K N Rf I L ha _ (by omega) t2) rfl rfl rfl rfl rfl (by decide +kernel) (by decide) (by decide) (by decide) (by decide) (Nat.le_of_ble_eq_true rfl) ?_
      rintro _ _ ⟨rfl, hh⟩
      rcases hh with ⟨hi, rfl⟩ | ⟨hi, rfl⟩
      · refine if_ne hX (6) 34 (by decide +kernel) (by decide) (fun c_28 => ?_) (fun c => absurd c (by decide))
        obtain ⟨k, hk, rfl⟩ := isIn_ex hi (by omega)
        have ck : (nI (60 * a + k)).toNatClampNeg = 60 * a + k := cl (by omega)
        obtain ⟨s5, hs5, es5⟩ : ∃ s, s < 5 ∧ T.1 a = nI s := (hw a ha).1.elim (fun h => absurd h.1 c1) id
        refine bk hX lkX11_ok (pc' := 51) [.aload_n 0, .getfield 48, .bipush 60, .iload_n 1, .imul, .iload_n 2, .iadd, .aload_n 0, .getfield 42, .iload_n 1, .iaload, .lload_n 3] (by decide +kernel) (And.intro (by exact vin 6 ha) (And.intro trivial ?_))
        rw [ca, show I (201 + 10) a = _ from t1, es5, show nI 60 * nI a = nI (60 * a) from pk_mul _ _, nI_add]
        refine z_callS hX kw_X11_277 (c_X_fitted E _ hs5 _) rfl rfl (by decide +kernel) (by decide) (by decide) (by decide) (by decide) (Nat.le_of_ble_eq_true rfl) ?_
        rintro _ _ ⟨rfl, rfl⟩
        refine bk hX lkX11_ok (pc' := 56) [.lastore, .iconst 1] (by decide +kernel) (And.intro (by exact vin 360 (by omega)) (And.intro trivial ?_))
        exact z_iret hX (by decide +kernel) rfl (rfl) (by decide) (by decide) (by
  have hS : itmS T (nI a) (nI k) z = (1, itmT T a k (narS (T.1 a) z)) := by unfold itmS; rw [if_pos ht, ja, if_neg c1, if_pos hi, jx_nI (by omega)]
  rw [hS, ck]
  refine ⟨_, rfl, rfl, fun x hx => ?_, fun q hq => up2_ne _ _ _ hq⟩
  obtain ⟨q1, q2, q3⟩ := hT x hx
  refine ⟨q1, q2, fun j hj => ?_⟩
  have hj' : j < T.2.1 x := hj
  have hx60 := (hw x hx).2
  rw [es5]
  show up2 L 213 (60 * a + k) (narS (nI s5) z) 213 (60 * x + j) = if x = a ∧ j = k then narS (nI s5) z else T.2.2 x j
  rw [up2_at]
  by_cases e : x = a ∧ j = k
  · rw [if_pos e, if_pos (by omega)]
  · rw [if_neg e, if_neg (by omega)]
    exact q3 j hj' )
      · refine if_ne hX (6) 34 (by decide +kernel) (by decide) (fun c => absurd (by decide) c) (fun c_28 => ?_)
        refine bk hX lkX11_ok (pc' := 33) [.bipush (Int.negSucc 12)] (by decide +kernel) (And.intro trivial ?_)
        exact z_iret hX (by decide +kernel) rfl (rfl) (by decide) (by decide) (⟨L, rfl, by unfold itmS; rw [if_pos ht, ja, if_neg c1, if_neg hi], by unfold itmS; rw [if_pos ht, ja, if_neg c1, if_neg hi]; exact hT, frK_rf _⟩)
    · refine bk hX lkX11_ok (pc' := 21) [.bipush (Int.negSucc 10)] (by decide +kernel) (And.intro trivial ?_)
      exact z_iret hX (by decide +kernel) rfl (rfl) (by decide) (by decide) (⟨L, rfl, by unfold itmS; rw [if_pos ht, ja, if_pos c1], by unfold itmS; rw [if_pos ht, ja, if_pos c1]; exact hT, frK_rf _⟩)
  · refine if_ne hX (5) 9 (by decide +kernel) (by decide) (fun c => absurd (by decide) c) (fun c_4 => ?_)
    refine bk hX lkX11_ok (pc' := 8) [.iconst (Int.negSucc 0)] (by decide +kernel) (And.intro trivial ?_)
    exact z_iret hX (by decide +kernel) rfl (rfl) (by decide) (by decide) (⟨L, rfl, by unfold itmS; rw [if_neg ht], by unfold itmS; rw [if_neg ht]; exact hT, frK_rf _⟩)
theorem c_X_read (E : zE) (K N : Nat → Nat) (Rf : Nat → Nat → Option Nat) (I : Nat → Nat → Int32) (L : Nat → Nat → Int64) {T : Tp} (hw : tpw T) (hT : xTp T I L) (t i : Int32) : zCt E mX11_read 1 0 0 (sg K N Rf I L) [.ref 200, .int t, .int i] (fun r σ' => σ' = (sg K N Rf I L) ∧ r = some (.long (redS T t i))) := by
  refine z_intro (by decide) (Nat.le_of_ble_eq_true rfl) (fun X hX => ?_)
  refine bk hX lkX11_ok (pc' := 1) [.iload_n 1] (by decide +kernel) (And.intro trivial ?_)
  refine z_callS hX kw_X11_239 (c_X_isTape E _ _) rfl rfl (by decide +kernel) (by decide) (by decide) (by decide) (by decide) (Nat.le_of_ble_eq_true rfl) ?_
  rintro _ _ ⟨rfl, hh⟩
  rcases hh with ⟨ht, rfl⟩ | ⟨ht, rfl⟩
  · refine if_eq hX (12) 16 (by decide +kernel) (by decide) (fun c => absurd c (by decide)) (fun c_4 => ?_)
    obtain ⟨a, ha, rfl⟩ := isIn_ex ht (by decide)
    have ca : (nI a).toNatClampNeg = a := cl (by omega)
    have ja : jx (nI a) = a := ca
    obtain ⟨t1, t2, t3⟩ := hT a ha
    have h60 := (hw a ha).2
    refine bk hX lkX11_ok (pc' := 10) [.aload_n 0, .iload_n 1, .iload_n 2] (by decide +kernel) (And.intro trivial ?_)
    refine z_callV hX kw_X11_242 (c_X_isPlace E K N Rf I L ha _ (by omega) t2) rfl rfl rfl rfl rfl (by decide +kernel) (by decide) (by decide) (by decide) (by decide) (Nat.le_of_ble_eq_true rfl) ?_
    rintro _ _ ⟨rfl, hh⟩
    rcases hh with ⟨hi, rfl⟩ | ⟨hi, rfl⟩
    · refine if_ne hX (7) 20 (by decide +kernel) (by decide) (fun c_13 => ?_) (fun c => absurd c (by decide))
      obtain ⟨k, hk, rfl⟩ := isIn_ex hi (by omega)
      have ck : (nI (60 * a + k)).toNatClampNeg = 60 * a + k := cl (by omega)
      refine bk hX lkX11_ok (pc' := 31) [.aload_n 0, .getfield 48, .bipush 60, .iload_n 1, .imul, .iload_n 2, .iadd, .laload] (by decide +kernel) (And.intro (by rw [show nI 60 * nI a = nI (60 * a) from pk_mul _ _, nI_add]; exact vin 360 (by omega)) (And.intro trivial ?_))
      exact z_lret hX (by decide +kernel) rfl (by decide) (by decide) (by
  refine ⟨rfl, ?_⟩
  unfold redS
  rw [if_pos ⟨ht, by rw [ja]; exact hi⟩, ja, jx_nI (by omega), show nI 60 * nI a = nI (60 * a) from pk_mul _ _, nI_add, ck, show L (201 + 12) (60 * a + k) = _ from t3 k hk])
    · refine if_ne hX (7) 20 (by decide +kernel) (by decide) (fun c => absurd (by decide) c) (fun c_13 => ?_)
      refine bk hX lkX11_ok (pc' := 19) [.ldc2_w 218] (by decide +kernel) (And.intro trivial ?_)
      exact z_lret hX (by decide +kernel) rfl (by decide) (by decide) (by first
  | (refine ⟨rfl, ?_⟩
     unfold redS
     rw [if_neg (fun z => ht z.1)]
     rfl)
  | (refine ⟨rfl, ?_⟩
     unfold redS
     rw [if_neg (fun z => hi (by have := z.2; rw [ja] at this; exact this))]
     rfl))
  · refine if_eq hX (12) 16 (by decide +kernel) (by decide) (fun c_4 => ?_) (fun c => absurd (by decide) c)
    refine bk hX lkX11_ok (pc' := 19) [.ldc2_w 218] (by decide +kernel) (And.intro trivial ?_)
    exact z_lret hX (by decide +kernel) rfl (by decide) (by decide) (by first
  | (refine ⟨rfl, ?_⟩
     unfold redS
     rw [if_neg (fun z => ht z.1)]
     rfl)
  | (refine ⟨rfl, ?_⟩
     unfold redS
     rw [if_neg (fun z => hi (by have := z.2; rw [ja] at this; exact this))]
     rfl))
set_option maxHeartbeats 1000000 in
theorem c_X_tape (E : zE) (K N : Nat → Nat) (Rf : Nat → Nat → Option Nat) (I : Nat → Nat → Int32) (L : Nat → Nat → Int64) {T : Tp} (hw : tpw T) (hT : xTp T I L) (t s n : Int32) : zCt E mX11_tape 1 0 0 (sg K N Rf I L) [.ref 200, .int t, .int s, .int n] (fun r σ' => ∃ I' L', σ' = sg K N Rf I' L' ∧ r = some (.int (tapS T t s n).1) ∧ xTp (tapS T t s n).2 I' L' ∧ (∀ q, q ≠ 211 → q ≠ 212 → I' q = I q) ∧ frK L L') := by
  refine z_intro (by decide) (Nat.le_of_ble_eq_true rfl) (fun X hX => ?_)
  have hl : ∀ (a k : Nat), a < 6 → k ≤ 60 → t = nI a → n = nI k → tapS T t s n = (1, setT T a s k) → ∀ m i (L1 : Nat → Nat → Int64), i + m = k → (∀ j, j < i → L1 213 (60 * a + j) = 0) → (∀ q j, ¬ (q = 213 ∧ 60 * a ≤ j ∧ j < 60 * a + 60) → L1 q j = L q j) → zS X (sg K N Rf (up2 (up2 I 211 a s) 212 a (nI k)) L1) 0 0 72 [(0, .ref 200), (1, .int t), (2, .int s), (3, .int n), (4, .int (nI i))] [] := by
    intro a k ha hk hta hn hS m
    subst hta
    subst hn
    induction m with
    | zero =>
      intro i L1 hi h1 h2
      obtain rfl : i = k := by omega
      refine bk hX lkX11_ok (pc' := 75) [.iload 4, .iload_n 3] (by decide +kernel) (And.intro trivial ?_)
      refine ic_ge hX (22) 97 (by decide +kernel) (by decide) (fun c_75 => ?_) (fun c => absurd (nI_le (Nat.le_refl _) (by omega)) c)
      refine bk hX lkX11_ok (pc' := 98) [.iconst 1] (by decide +kernel) (And.intro trivial ?_)
      exact z_iret hX (by decide +kernel) rfl (rfl) (by decide) (by decide) (by
  rw [hS]
  refine ⟨_, _, rfl, rfl, fun x hx => ?_, fun q q1 q2 => by rw [up2_ne _ _ _ q2, up2_ne _ _ _ q1], fun q q1 => funext fun j => h2 q j (fun z => q1 z.1)⟩
  obtain ⟨t1, t2, t3⟩ := hT x hx
  show _ = (if x = a then s else T.1 x) ∧ _ = nI (upN T.2.1 a i x) ∧ ∀ z, z < upN T.2.1 a i x → L1 213 (60 * x + z) = if x = a then 0 else T.2.2 x z
  by_cases e : x = a
  · subst e
    rw [upN_at]
    exact ⟨by rw [up2_ne _ _ _ (by decide), up2_self, if_pos rfl], by rw [up2_self], fun z hz => by rw [if_pos rfl]; exact h1 z (by omega)⟩
  · rw [upN_ne _ _ e]
    refine ⟨by rw [up2_ne _ _ _ (by decide), up2_at, if_neg e, if_neg e]; exact t1, by rw [up2_at, if_neg e, up2_ne _ _ _ (by decide)]; exact t2, fun z hz => ?_⟩
    have h60 : T.2.1 x ≤ 60 := (hw x hx).2
    rw [if_neg e, h2 _ _ (by omega)]
    exact t3 z hz)
    | succ m ih =>
      intro i L1 hi h1 h2
      have ci : (nI (60 * a + i)).toNatClampNeg = 60 * a + i := cl (by omega)
      refine bk hX lkX11_ok (pc' := 75) [.iload 4, .iload_n 3] (by decide +kernel) (And.intro trivial ?_)
      refine ic_ge hX (22) 97 (by decide +kernel) (by decide) (fun c => absurd c (nI_ge (by omega) (by omega))) (fun c_75 => ?_)
      refine bk hX lkX11_ok (pc' := 94) [.aload_n 0, .getfield 48, .bipush 60, .iload_n 1, .imul, .iload 4, .iadd, .lconst 0, .lastore, .iinc 4 1] (by decide +kernel) (And.intro (by rw [show nI 60 * nI a = nI (60 * a) from pk_mul _ _, nI_add]; exact vin 360 (by omega)) (And.intro trivial ?_))
      refine gt_ hX (-22) 72 (by decide +kernel) (by decide) ?_
      refine z_lvk (lv' := [(0, _), (1, _), (2, _), (3, _), (4, _)]) [1, 2, 3, 4, 0] rfl ?_
      rw [show nI 60 * nI a = nI (60 * a) from pk_mul _ _, nI_add, nI_add, ci]
      refine ih (i + 1) _ (by omega) (fun j hj => ?_) (fun q j hq => ?_)
      · rw [up2_at]
        split
        · rfl
        · exact h1 j (by omega)
      · by_cases hq2 : q = 213
        · subst hq2
          rw [up2_at, if_neg (fun z => hq ⟨rfl, by omega, by omega⟩)]
          exact h2 _ _ hq
        · rw [up2_ne _ _ _ hq2]; exact h2 _ _ hq
  refine bk hX lkX11_ok (pc' := 1) [.iload_n 1] (by decide +kernel) (And.intro trivial ?_)
  refine z_callS hX kw_X11_239 (c_X_isTape E _ _) rfl rfl (by decide +kernel) (by decide) (by decide) (by decide) (by decide) (Nat.le_of_ble_eq_true rfl) ?_
  rintro _ _ ⟨rfl, hh⟩
  rcases hh with ⟨ht, rfl⟩ | ⟨ht, rfl⟩
  · refine if_ne hX (5) 9 (by decide +kernel) (by decide) (fun c_4 => ?_) (fun c => absurd c (by decide))
    obtain ⟨a, ha, rfl⟩ := isIn_ex ht (by decide)
    have ca : (nI a).toNatClampNeg = a := cl (by omega)
    have ja : jx (nI a) = a := ca
    obtain ⟨t1, t2, t3⟩ := hT a ha
    have h60 := (hw a ha).2
    refine bk hX lkX11_ok (pc' := 11) [.iload_n 2, .iconst (Int.negSucc 0)] (by decide +kernel) (And.intro trivial ?_)
    refine ic_ne hX (19) 30 (by decide +kernel) (by decide) (fun c11 => ?_) (fun c11 => ?_)
    · refine bk hX lkX11_ok (pc' := 31) [.iload_n 2] (by decide +kernel) (And.intro trivial ?_)
      refine if_lt hX (14) 45 (by decide +kernel) (by decide) (fun c31 => ?_) (fun c31 => ?_)
      · refine bk hX lkX11_ok (pc' := 47) [.bipush (Int.negSucc 1)] (by decide +kernel) (And.intro trivial ?_)
        exact z_iret hX (by decide +kernel) rfl (rfl) (by decide) (by decide) (by
  have e : tapS T (nI a) s n = (-nI 2, T) := by
    unfold tapS
    rw [if_pos ht, if_neg c11]
    first
      | (rw [if_neg (isIn_f1 c31)]; done)
      | (rw [if_neg (isIn_gt 4 c36)]; done)
      | (rw [if_pos (isIn_le 4 c31 c36), if_pos (i_nle.mp c42)]; done)
  rw [e]
  exact ⟨I, L, rfl, rfl, hT, fun _ _ _ => rfl, frK_rf _⟩)
      · refine bk hX lkX11_ok (pc' := 36) [.iload_n 2, .iconst 4] (by decide +kernel) (And.intro trivial ?_)
        refine ic_gt hX (9) 45 (by decide +kernel) (by decide) (fun c36 => ?_) (fun c36 => ?_)
        · refine bk hX lkX11_ok (pc' := 47) [.bipush (Int.negSucc 1)] (by decide +kernel) (And.intro trivial ?_)
          exact z_iret hX (by decide +kernel) rfl (rfl) (by decide) (by decide) (by
  have e : tapS T (nI a) s n = (-nI 2, T) := by
    unfold tapS
    rw [if_pos ht, if_neg c11]
    first
      | (rw [if_neg (isIn_f1 c31)]; done)
      | (rw [if_neg (isIn_gt 4 c36)]; done)
      | (rw [if_pos (isIn_le 4 c31 c36), if_pos (i_nle.mp c42)]; done)
  rw [e]
  exact ⟨I, L, rfl, rfl, hT, fun _ _ _ => rfl, frK_rf _⟩)
        · refine bk hX lkX11_ok (pc' := 42) [.iload_n 3, .bipush 60] (by decide +kernel) (And.intro trivial ?_)
          refine ic_le hX (6) 48 (by decide +kernel) (by decide) (fun c42 => ?_) (fun c42 => ?_)
          · have hs5 : isIn s 5 = true := isIn_le 4 c31 c36
            refine bk hX lkX11_ok (pc' := 49) [.iload_n 3] (by decide +kernel) (And.intro trivial ?_)
            refine if_ge hX (6) 55 (by decide +kernel) (by decide) (fun c49 => ?_) (fun c49 => ?_)
            · obtain ⟨k, hk, rfl⟩ := n_in60 (i_nlt.mpr c42) (i_nlt.mpr c49)
              have eS : tapS T (nI a) s (nI k) = (1, setT T a s k) := by
                unfold tapS
                rw [if_pos ht, if_neg c11, if_pos hs5, if_neg (i_nlt.mpr c42), if_neg (i_nlt.mpr c49), ja, jx_nI (by omega)]
              refine bk hX lkX11_ok (pc' := 72) [.aload_n 0, .getfield 42, .iload_n 1, .iload_n 2, .iastore, .aload_n 0, .getfield 45, .iload_n 1, .iload_n 3, .iastore, .iconst 0, .istore 4] (by decide +kernel) (And.intro (by exact vin 6 ha) (And.intro (by exact vin 6 ha) (And.intro trivial ?_)))
              refine z_lvk (lv' := [(0, _), (1, _), (2, _), (3, _), (4, _)]) [1, 2, 3, 4, 0] rfl ?_
              simp only [ca]
              exact hl a k ha hk rfl rfl eS k 0 L (by omega) (fun j hj => absurd hj (Nat.not_lt_zero _)) (fun _ _ _ => rfl)
            · refine bk hX lkX11_ok (pc' := 54) [.bipush (Int.negSucc 13)] (by decide +kernel) (And.intro trivial ?_)
              exact z_iret hX (by decide +kernel) rfl (rfl) (by decide) (by decide) (by
  have e : tapS T (nI a) s n = (-nI 14, T) := by
    unfold tapS
    rw [if_pos ht, if_neg c11, if_pos hs5, if_neg (i_nlt.mpr c42), if_pos (i_nle.mp c49)]
  rw [e]
  exact ⟨I, L, rfl, rfl, hT, fun _ _ _ => rfl, frK_rf _⟩)
          · refine bk hX lkX11_ok (pc' := 47) [.bipush (Int.negSucc 1)] (by decide +kernel) (And.intro trivial ?_)
            exact z_iret hX (by decide +kernel) rfl (rfl) (by decide) (by decide) (by
  have e : tapS T (nI a) s n = (-nI 2, T) := by
    unfold tapS
    rw [if_pos ht, if_neg c11]
    first
      | (rw [if_neg (isIn_f1 c31)]; done)
      | (rw [if_neg (isIn_gt 4 c36)]; done)
      | (rw [if_pos (isIn_le 4 c31 c36), if_pos (i_nle.mp c42)]; done)
  rw [e]
  exact ⟨I, L, rfl, rfl, hT, fun _ _ _ => rfl, frK_rf _⟩)
    · refine bk hX lkX11_ok (pc' := 29) [.aload_n 0, .getfield 42, .iload_n 1, .iconst (Int.negSucc 0), .iastore, .aload_n 0, .getfield 45, .iload_n 1, .iconst 0, .iastore, .iconst 1] (by decide +kernel) (And.intro (by exact vin 6 ha) (And.intro (by exact vin 6 ha) (And.intro trivial ?_)))
      exact z_iret hX (by decide +kernel) rfl (rfl) (by decide) (by decide) (by
  rw [show tapS T (nI a) s n = (1, setT T a s 0) by unfold tapS; rw [if_pos ht, if_pos c11, ja]]
  simp only [ca]
  refine ⟨up2 (up2 I 211 a (-nI 1)) 212 a (nI 0), L, rfl, rfl, fun x hx => ?_, fun q q1 q2 => by rw [up2_ne _ _ _ q2, up2_ne _ _ _ q1], frK_rf _⟩
  obtain ⟨t1, t2, t3⟩ := hT x hx
  show _ = (if x = a then s else T.1 x) ∧ _ = nI (upN T.2.1 a 0 x) ∧ ∀ z, z < upN T.2.1 a 0 x → L 213 (60 * x + z) = if x = a then 0 else T.2.2 x z
  by_cases e : x = a
  · subst e
    rw [upN_at]
    exact ⟨by rw [up2_ne _ _ _ (by decide), up2_self, if_pos rfl, c11], by rw [up2_self], fun z hz => absurd hz (Nat.not_lt_zero _)⟩
  · rw [upN_ne _ _ e]
    refine ⟨by rw [up2_ne _ _ _ (by decide), up2_at, if_neg e, if_neg e]; exact t1, by rw [up2_at, if_neg e, up2_ne _ _ _ (by decide)]; exact t2, fun z hz => ?_⟩
    rw [if_neg e]
    exact t3 z hz)
  · refine if_ne hX (5) 9 (by decide +kernel) (by decide) (fun c => absurd (by decide) c) (fun c_4 => ?_)
    refine bk hX lkX11_ok (pc' := 8) [.iconst (Int.negSucc 0)] (by decide +kernel) (And.intro trivial ?_)
    exact z_iret hX (by decide +kernel) rfl (rfl) (by decide) (by decide) (⟨I, L, rfl, by unfold tapS; rw [if_neg ht], by unfold tapS; rw [if_neg ht]; exact hT, fun _ _ _ => rfl, frK_rf _⟩)
set_option maxHeartbeats 2000000 in
theorem c_X_shift (E : zE) (K N : Nat → Nat) (Rf : Nat → Nat → Option Nat) (I : Nat → Nat → Int32) (L : Nat → Nat → Int64) {T : Tp} (hw : tpw T) (hT : xTp T I L) (t i o j n : Int32) : zCt E mX11_shift 1 0 0 (sg K N Rf I L) [.ref 200, .int t, .int i, .int o, .int j, .int n] (fun r σ' => ∃ L', σ' = sg K N Rf I L' ∧ r = some (.int (shfS T t i o j n).1) ∧ xTp (shfS T t i o j n).2 I L' ∧ frK L L') := by
  refine z_intro (by decide) (Nat.le_of_ble_eq_true rfl) (fun X hX => ?_)
  refine bk hX lkX11_ok (pc' := 1) [.iload_n 1] (by decide +kernel) (And.intro trivial ?_)
  refine z_callS hX kw_X11_239 (c_X_isTape E _ _) rfl rfl (by decide +kernel) (by decide) (by decide) (by decide) (by decide) (Nat.le_of_ble_eq_true rfl) ?_
  rintro _ _ ⟨rfl, hh⟩
  rcases hh with ⟨ht, rfl⟩ | ⟨ht, rfl⟩
  · refine if_eq hX (10) 14 (by decide +kernel) (by decide) (fun c => absurd c (by decide)) (fun c_4 => ?_)
    refine bk hX lkX11_ok (pc' := 8) [.iload_n 3] (by decide +kernel) (And.intro trivial ?_)
    refine z_callS hX kw_X11_239 (c_X_isTape E _ _) rfl rfl (by decide +kernel) (by decide) (by decide) (by decide) (by decide) (Nat.le_of_ble_eq_true rfl) ?_
    rintro _ _ ⟨rfl, hh⟩
    rcases hh with ⟨ho, rfl⟩ | ⟨ho, rfl⟩
    · refine if_ne hX (5) 16 (by decide +kernel) (by decide) (fun c_11 => ?_) (fun c => absurd c (by decide))
      obtain ⟨a, ha, rfl⟩ := isIn_ex ht (by decide)
      obtain ⟨b, hb, rfl⟩ := isIn_ex ho (by decide)
      have ca : (nI a).toNatClampNeg = a := cl (by omega)
      have cb : (nI b).toNatClampNeg = b := cl (by omega)
      obtain ⟨t1, t2, t3⟩ := hT a ha
      obtain ⟨o1, o2, o3⟩ := hT b hb
      have hS : shfS T (nI a) i (nI b) j n = if T.1 a = -nI 1 ∨ T.1 b = -nI 1 then (-nI 11, T) else if T.1 a = T.1 b then (if shBad T a b i j n then (-nI 13, T) else (n, shfT T a (jx i) b (jx j) (jx n))) else (-nI 12, T) := by
        unfold shfS; rw [if_pos ⟨ht, ho⟩, jx_nI (by omega), jx_nI (by omega)]
      refine bk hX lkX11_ok (pc' := 23) [.aload_n 0, .getfield 42, .iload_n 1, .iaload, .iconst (Int.negSucc 0)] (by decide +kernel) (And.intro (by exact vin 6 ha) (And.intro trivial ?_))
      rw [ca, show I (201 + 10) a = _ from t1]
      refine ic_eq hX (13) 36 (by decide +kernel) (by decide) (fun c1 => ?_) (fun c1 => ?_)
      · refine bk hX lkX11_ok (pc' := 38) [.bipush (Int.negSucc 10)] (by decide +kernel) (And.intro trivial ?_)
        exact z_iret hX (by decide +kernel) rfl (rfl) (by decide) (by decide) (by rw [hS]; first | (rw [if_pos (Or.inl c1)]; exact ⟨L, rfl, rfl, hT, frK_rf _⟩) | (rw [if_pos (Or.inr c2)]; exact ⟨L, rfl, rfl, hT, frK_rf _⟩))
      · refine bk hX lkX11_ok (pc' := 33) [.aload_n 0, .getfield 42, .iload_n 3, .iaload, .iconst (Int.negSucc 0)] (by decide +kernel) (And.intro (by exact vin 6 hb) (And.intro trivial ?_))
        rw [cb, show I (201 + 10) b = _ from o1]
        refine ic_ne hX (6) 39 (by decide +kernel) (by decide) (fun c2 => ?_) (fun c2 => ?_)
        · have hn : ¬ (T.1 a = -nI 1 ∨ T.1 b = -nI 1) := fun z => z.elim c1 c2
          rw [if_neg hn] at hS
          refine bk hX lkX11_ok (pc' := 51) [.aload_n 0, .getfield 42, .iload_n 1, .iaload, .aload_n 0, .getfield 42, .iload_n 3, .iaload] (by decide +kernel) (And.intro (by exact vin 6 ha) (And.intro (by exact vin 6 hb) (And.intro trivial ?_)))
          rw [ca, cb, show I (201 + 10) a = _ from t1, show I (201 + 10) b = _ from o1]
          refine ic_eq hX (6) 57 (by decide +kernel) (by decide) (fun c3 => ?_) (fun c3 => ?_)
          · rw [if_pos c3] at hS
            refine bk hX lkX11_ok (pc' := 59) [.iload 5] (by decide +kernel) (And.intro trivial ?_)
            refine if_lt hX (39) 98 (by decide +kernel) (by decide) (fun d1 => ?_) (fun d1 => ?_)
            · refine bk hX lkX11_ok (pc' := 100) [.bipush (Int.negSucc 12)] (by decide +kernel) (And.intro trivial ?_)
              exact z_iret hX (by decide +kernel) rfl (rfl) (by decide) (by decide) (by
  have hb : shBad T a b i j n := by first | exact Or.inl d1 | exact Or.inr (Or.inl d2) | exact Or.inr (Or.inr (Or.inl d3)) | exact Or.inr (Or.inr (Or.inr (Or.inl d4))) | exact Or.inr (Or.inr (Or.inr (Or.inr (i_nle.mp d5))))
  rw [hS, if_pos hb]; exact ⟨L, rfl, rfl, hT, frK_rf _⟩)
            · refine bk hX lkX11_ok (pc' := 63) [.iload_n 2] (by decide +kernel) (And.intro trivial ?_)
              refine if_lt hX (35) 98 (by decide +kernel) (by decide) (fun d2 => ?_) (fun d2 => ?_)
              · refine bk hX lkX11_ok (pc' := 100) [.bipush (Int.negSucc 12)] (by decide +kernel) (And.intro trivial ?_)
                exact z_iret hX (by decide +kernel) rfl (rfl) (by decide) (by decide) (by
  have hb : shBad T a b i j n := by first | exact Or.inl d1 | exact Or.inr (Or.inl d2) | exact Or.inr (Or.inr (Or.inl d3)) | exact Or.inr (Or.inr (Or.inr (Or.inl d4))) | exact Or.inr (Or.inr (Or.inr (Or.inr (i_nle.mp d5))))
  rw [hS, if_pos hb]; exact ⟨L, rfl, rfl, hT, frK_rf _⟩)
              · refine bk hX lkX11_ok (pc' := 68) [.iload 4] (by decide +kernel) (And.intro trivial ?_)
                refine if_lt hX (30) 98 (by decide +kernel) (by decide) (fun d3 => ?_) (fun d3 => ?_)
                · refine bk hX lkX11_ok (pc' := 100) [.bipush (Int.negSucc 12)] (by decide +kernel) (And.intro trivial ?_)
                  exact z_iret hX (by decide +kernel) rfl (rfl) (by decide) (by decide) (by
  have hb : shBad T a b i j n := by first | exact Or.inl d1 | exact Or.inr (Or.inl d2) | exact Or.inr (Or.inr (Or.inl d3)) | exact Or.inr (Or.inr (Or.inr (Or.inl d4))) | exact Or.inr (Or.inr (Or.inr (Or.inr (i_nle.mp d5))))
  rw [hS, if_pos hb]; exact ⟨L, rfl, rfl, hT, frK_rf _⟩)
                · refine bk hX lkX11_ok (pc' := 78) [.iload_n 2, .aload_n 0, .getfield 45, .iload_n 1, .iaload] (by decide +kernel) (And.intro (by exact vin 6 ha) (And.intro trivial ?_))
                  rw [ca, show I (201 + 11) a = _ from t2]
                  refine bk hX lkX11_ok (pc' := 81) [.iload 5, .isub] (by decide +kernel) (And.intro trivial ?_)
                  refine ic_gt hX (17) 98 (by decide +kernel) (by decide) (fun d4 => ?_) (fun d4 => ?_)
                  · refine bk hX lkX11_ok (pc' := 100) [.bipush (Int.negSucc 12)] (by decide +kernel) (And.intro trivial ?_)
                    exact z_iret hX (by decide +kernel) rfl (rfl) (by decide) (by decide) (by
  have hb : shBad T a b i j n := by first | exact Or.inl d1 | exact Or.inr (Or.inl d2) | exact Or.inr (Or.inr (Or.inl d3)) | exact Or.inr (Or.inr (Or.inr (Or.inl d4))) | exact Or.inr (Or.inr (Or.inr (Or.inr (i_nle.mp d5))))
  rw [hS, if_pos hb]; exact ⟨L, rfl, rfl, hT, frK_rf _⟩)
                  · refine bk hX lkX11_ok (pc' := 92) [.iload 4, .aload_n 0, .getfield 45, .iload_n 3, .iaload] (by decide +kernel) (And.intro (by exact vin 6 hb) (And.intro trivial ?_))
                    rw [cb, show I (201 + 11) b = _ from o2]
                    refine bk hX lkX11_ok (pc' := 95) [.iload 5, .isub] (by decide +kernel) (And.intro trivial ?_)
                    refine ic_le hX (6) 101 (by decide +kernel) (by decide) (fun d5 => ?_) (fun d5 => ?_)
                    · have hbd : ¬ shBad T a b i j n := fun z => by
                        rcases z with z | z | z | z | z
                        · exact d1 z
                        · exact d2 z
                        · exact d3 z
                        · exact d4 z
                        · exact i_nlt.mpr d5 z
                      rw [if_neg hbd] at hS
                      have ha60 := (hw a ha).2
                      have hb60 := (hw b hb).2
                      obtain ⟨k, x, y, rfl, rfl, rfl, hx, hy⟩ := sh_ok hw ha hb hbd
                      rw [jx_nI (by omega), jx_nI (by omega), jx_nI (by omega)] at hS
                      have c60a : (nI (60 * a + x)).toNatClampNeg = 60 * a + x := cl (by omega)
                      have c60b : (nI (60 * b + y)).toNatClampNeg = 60 * b + y := cl (by omega)
                      have ck : (nI k).toNatClampNeg = k := cl (by omega)
                      refine bk hX lkX11_ok (pc' := 124) [.aload_n 0, .getfield 48, .bipush 60, .iload_n 1, .imul, .iload_n 2, .iadd, .aload_n 0, .getfield 48, .bipush 60, .iload_n 3, .imul, .iload 4, .iadd, .iload 5] (by decide +kernel) (And.intro trivial ?_)
                      rw [show nI 60 * nI a = nI (60 * a) from pk_mul _ _, show nI 60 * nI b = nI (60 * b) from pk_mul _ _, nI_add, nI_add]
                      refine z_copyL hX kc_X11_281 rfl rfl (nI_nn (by omega)) (nI_nn (by omega)) (nI_nn (by omega)) (by rw [c60a, ck]; show 60 * a + x + k ≤ 360; omega) (by rw [c60b, ck]; show 60 * b + y + k ≤ 360; omega) (by decide) (by decide +kernel) (by decide +kernel) ?_
                      refine bk hX lkX11_ok (pc' := 129) [.iload 5] (by decide +kernel) (And.intro trivial ?_)
                      exact z_iret hX (by decide +kernel) rfl (rfl) (by decide) (by decide) (by
  rw [hS]
  simp only [c60a, c60b, ck]
  refine ⟨fun p => if p = 213 then va_cpy (L 213) (L 213) (60 * a + x) (60 * b + y) k else L p, rfl, trivial, fun c hc => ?_, fun q hq => if_neg hq⟩
  obtain ⟨q1, q2, q3⟩ := hT c hc
  refine ⟨q1, q2, fun u hu => ?_⟩
  have hu' : u < T.2.1 c := hu
  have hc60 := (hw c hc).2
  show (if 213 = 213 then va_cpy (L 213) (L 213) (60 * a + x) (60 * b + y) k else L 213) (60 * c + u) = if c = b ∧ y ≤ u ∧ u < y + k then T.2.2 a (x + (u - y)) else T.2.2 c u
  rw [if_pos rfl]
  unfold va_cpy
  by_cases e : c = b ∧ y ≤ u ∧ u < y + k
  · rw [if_pos e]
    obtain ⟨rfl, e2, e3⟩ := e
    rw [if_pos ⟨by omega, by omega⟩, show 60 * a + x + (60 * c + u - (60 * c + y)) = 60 * a + (x + (u - y)) by omega]
    exact t3 _ (by omega)
  · rw [if_neg e, if_neg (by omega)]
    exact q3 u hu' )
                    · refine bk hX lkX11_ok (pc' := 100) [.bipush (Int.negSucc 12)] (by decide +kernel) (And.intro trivial ?_)
                      exact z_iret hX (by decide +kernel) rfl (rfl) (by decide) (by decide) (by
  have hb : shBad T a b i j n := by first | exact Or.inl d1 | exact Or.inr (Or.inl d2) | exact Or.inr (Or.inr (Or.inl d3)) | exact Or.inr (Or.inr (Or.inr (Or.inl d4))) | exact Or.inr (Or.inr (Or.inr (Or.inr (i_nle.mp d5))))
  rw [hS, if_pos hb]; exact ⟨L, rfl, rfl, hT, frK_rf _⟩)
          · refine bk hX lkX11_ok (pc' := 56) [.bipush (Int.negSucc 11)] (by decide +kernel) (And.intro trivial ?_)
            exact z_iret hX (by decide +kernel) rfl (rfl) (by decide) (by decide) (by rw [hS, if_neg c3]; exact ⟨L, rfl, rfl, hT, frK_rf _⟩)
        · refine bk hX lkX11_ok (pc' := 38) [.bipush (Int.negSucc 10)] (by decide +kernel) (And.intro trivial ?_)
          exact z_iret hX (by decide +kernel) rfl (rfl) (by decide) (by decide) (by rw [hS]; first | (rw [if_pos (Or.inl c1)]; exact ⟨L, rfl, rfl, hT, frK_rf _⟩) | (rw [if_pos (Or.inr c2)]; exact ⟨L, rfl, rfl, hT, frK_rf _⟩))
    · refine if_ne hX (5) 16 (by decide +kernel) (by decide) (fun c => absurd (by decide) c) (fun c_11 => ?_)
      refine bk hX lkX11_ok (pc' := 15) [.iconst (Int.negSucc 0)] (by decide +kernel) (And.intro trivial ?_)
      exact z_iret hX (by decide +kernel) rfl (rfl) (by decide) (by decide) (by first | exact ⟨L, rfl, by unfold shfS; rw [if_neg (fun z => ht z.1)], by unfold shfS; rw [if_neg (fun z => ht z.1)]; exact hT, frK_rf _⟩ | exact ⟨L, rfl, by unfold shfS; rw [if_neg (fun z => ho z.2)], by unfold shfS; rw [if_neg (fun z => ho z.2)]; exact hT, frK_rf _⟩)
  · refine if_eq hX (10) 14 (by decide +kernel) (by decide) (fun c_4 => ?_) (fun c => absurd (by decide) c)
    refine bk hX lkX11_ok (pc' := 15) [.iconst (Int.negSucc 0)] (by decide +kernel) (And.intro trivial ?_)
    exact z_iret hX (by decide +kernel) rfl (rfl) (by decide) (by decide) (by first | exact ⟨L, rfl, by unfold shfS; rw [if_neg (fun z => ht z.1)], by unfold shfS; rw [if_neg (fun z => ht z.1)]; exact hT, frK_rf _⟩ | exact ⟨L, rfl, by unfold shfS; rw [if_neg (fun z => ho z.2)], by unfold shfS; rw [if_neg (fun z => ho z.2)]; exact hT, frK_rf _⟩)
set_option maxHeartbeats 1000000 in
theorem c_X_judge (E : zE) (K N : Nat → Nat) (Rf : Nat → Nat → Option Nat) (I : Nat → Nat → Int32) (L : Nat → Nat → Int64) {g : Gv} (hg : gwf g) (hG : xG 300 g K Rf I) {T : Tp} (hw : tpw T) (hT : xTp T I L) (t i : Int32) : zCt E mX11_judge 1 0 0 (sg K N Rf I L) [.ref 200, .int t, .int i] (fun r σ' => σ' = (sg K N Rf I L) ∧ r = some (.int (judS T g t i))) := by
  have h6 := hg.1
  refine z_intro (by decide) (Nat.le_of_ble_eq_true rfl) (fun X hX => ?_)
  have hl : ∀ a, a < 6 → t = nI a → ∀ m c, c + m = gn g → (c = 0 ∨ ∃ x, x < 1000 ∧ i = nI x) → jdL T g a i m c = judS T g t i → zS X (sg K N Rf I L) 0 0 34 [(0, .ref 200), (1, .int t), (2, .int i), (3, .int (nI c))] [] := by
    intro a ha hta m
    subst hta
    obtain ⟨t1, t2, t3⟩ := hT a ha
    have h60 := (hw a ha).2
    have ca : (nI a).toNatClampNeg = a := cl (by omega)
    induction m with
    | zero =>
      intro c hc hx hf
      obtain rfl : c = gn g := by omega
      refine bk hX lkX11_ok (pc' := 42) [.iload_n 3, .aload_n 0, .getfield 12, .getfield 65] (by decide +kernel) (And.intro trivial ?_)
      rw [hG.1]
      refine ic_ge hX (54) 96 (by decide +kernel) (by decide) (fun c_42 => ?_) (fun c => absurd (nI_le (by omega) (by omega)) c)
      refine bk hX lkX11_ok (pc' := 98) [.bipush (Int.negSucc 4)] (by decide +kernel) (And.intro trivial ?_)
      exact z_iret hX (by decide +kernel) rfl (rfl) (by decide) (by decide) (by rw [← hf]; exact ⟨rfl, rfl⟩)
    | succ m ih =>
      intro c hc hx hf
      have cc : (nI c).toNatClampNeg = c := cl (by omega)
      have hf' : (if isIn i (T.2.1 a - c) = true then (if T.2.2 a (jx i + c) = lN (gh g c) then jdL T g a i m (c + 1) else nI c) else nI (100 + c)) = judS T g (nI a) i := hf
      have hgl := (hg.2.1 c (by omega)).2.2.2.1
      have ehc : I 302 c = nI (gh g c) := (hG.2.2.2 c (by omega)).2.2.1
      have hiff : isIn (i + nI c) (T.2.1 a) = true ↔ isIn i (T.2.1 a - c) = true := by
        rcases hx with rfl | ⟨x, hx, rfl⟩
        · rw [show i + nI 0 = i from Int32.add_zero i]; exact Iff.rfl
        · rw [nI_add, isIn_iff (by omega), isIn_iff (by omega)]
          constructor
          · rintro ⟨j, hj, e⟩
            have := nI_inj (by omega) (by omega) e
            exact ⟨x, by omega, rfl⟩
          · rintro ⟨j, hj, e⟩
            have := nI_inj (by omega) (by omega) e
            exact ⟨x + c, by omega, rfl⟩
      refine bk hX lkX11_ok (pc' := 42) [.iload_n 3, .aload_n 0, .getfield 12, .getfield 65] (by decide +kernel) (And.intro trivial ?_)
      rw [hG.1]
      refine ic_ge hX (54) 96 (by decide +kernel) (by decide) (fun c => absurd c (nI_ge (by omega) (by omega))) (fun c_42 => ?_)
      refine bk hX lkX11_ok (pc' := 50) [.aload_n 0, .iload_n 1, .iload_n 2, .iload_n 3, .iadd] (by decide +kernel) (And.intro trivial ?_)
      refine z_callV hX kw_X11_242 (c_X_isPlace E K N Rf I L ha _ (by omega) t2) rfl rfl rfl rfl rfl (by decide +kernel) (by decide) (by decide) (by decide) (by decide) (Nat.le_of_ble_eq_true rfl) ?_
      rintro _ _ ⟨rfl, hh⟩
      rcases hh with ⟨hi, rfl⟩ | ⟨hi, rfl⟩
      · refine if_ne hX (8) 61 (by decide +kernel) (by decide) (fun c_53 => ?_) (fun c => absurd c (by decide))
        have h1 := hiff.mp hi
        obtain ⟨k, hk, rfl⟩ := isIn_ex h1 (by omega)
        have ck : (nI (60 * a + k + c)).toNatClampNeg = 60 * a + k + c := cl (by omega)
        rw [if_pos h1, jx_nI (by omega)] at hf'
        refine bk hX lkX11_ok (pc' := 85) [.aload_n 0, .getfield 48, .bipush 60, .iload_n 1, .imul, .iload_n 2, .iadd, .iload_n 3, .iadd, .laload, .aload_n 0, .getfield 12, .getfield 110, .iload_n 3, .iaload, .i2l, .lcmp] (by decide +kernel) (And.intro (by rw [show nI 60 * nI a = nI (60 * a) from pk_mul _ _, nI_add, nI_add]; exact vin 360 (by omega)) (And.intro (by exact vin 6 (by omega)) (And.intro trivial ?_)))
        rw [show nI 60 * nI a = nI (60 * a) from pk_mul _ _, nI_add, nI_add, ck, cc, show I (300 + 1 + 1) c = _ from ehc, nI_l (by omega), show 60 * a + k + c = 60 * a + (k + c) by omega, show L (201 + 12) (60 * a + (k + c)) = _ from t3 (k + c) (by omega)]
        refine if_eq hX (5) 90 (by decide +kernel) (by decide) (fun c4 => ?_) (fun c4 => ?_)
        · refine bk hX lkX11_ok (pc' := 93) [.iinc 3 1] (by decide +kernel) (And.intro trivial ?_)
          refine gt_ hX (-59) 34 (by decide +kernel) (by decide) ?_
          refine z_lvk (lv' := [(0, _), (1, _), (2, _), (3, _)]) [1, 2, 3, 0] rfl ?_
          rw [if_pos (lg_cmp0.mp c4)] at hf'
          rw [nI_add]
          exact ih (c + 1) (by omega) (Or.inr ⟨k, by omega, rfl⟩) hf'
        · refine bk hX lkX11_ok (pc' := 89) [.iload_n 3] (by decide +kernel) (And.intro trivial ?_)
          exact z_iret hX (by decide +kernel) rfl (rfl) (by decide) (by decide) (by rw [if_neg (fun z => c4 (lg_cmp0.mpr z))] at hf'; rw [← hf']; exact ⟨rfl, rfl⟩)
      · refine if_ne hX (8) 61 (by decide +kernel) (by decide) (fun c => absurd (by decide) c) (fun c_53 => ?_)
        refine bk hX lkX11_ok (pc' := 60) [.bipush 100, .iload_n 3, .iadd] (by decide +kernel) (And.intro trivial ?_)
        exact z_iret hX (by decide +kernel) rfl (rfl) (by decide) (by decide) (by rw [if_neg (fun z => hi (hiff.mpr z))] at hf'; rw [← hf', nI_add]; exact ⟨rfl, rfl⟩)
  refine bk hX lkX11_ok (pc' := 1) [.iload_n 1] (by decide +kernel) (And.intro trivial ?_)
  refine z_callS hX kw_X11_239 (c_X_isTape E _ _) rfl rfl (by decide +kernel) (by decide) (by decide) (by decide) (by decide) (Nat.le_of_ble_eq_true rfl) ?_
  rintro _ _ ⟨rfl, hh⟩
  rcases hh with ⟨ht, rfl⟩ | ⟨ht, rfl⟩
  · refine if_ne hX (5) 9 (by decide +kernel) (by decide) (fun c_4 => ?_) (fun c => absurd c (by decide))
    obtain ⟨a, ha, rfl⟩ := isIn_ex ht (by decide)
    have ca : (nI a).toNatClampNeg = a := cl (by omega)
    have ja : jx (nI a) = a := ca
    obtain ⟨t1, t2, t3⟩ := hT a ha
    have h60 := (hw a ha).2
    refine bk hX lkX11_ok (pc' := 16) [.aload_n 0, .getfield 42, .iload_n 1, .iaload, .iconst (Int.negSucc 0)] (by decide +kernel) (And.intro (by exact vin 6 ha) (And.intro trivial ?_))
    rw [ca, show I (201 + 10) a = _ from t1]
    refine ic_eq hX (16) 32 (by decide +kernel) (by decide) (fun c1 => ?_) (fun c1 => ?_)
    · refine bk hX lkX11_ok (pc' := 34) [.iconst 0, .istore_n 3] (by decide +kernel) (And.intro trivial ?_)
      refine z_lvk (lv' := [(0, _), (1, _), (2, _), (3, _)]) [1, 2, 3, 0] rfl ?_
      have hs : T.1 a = -nI 1 ∨ T.1 a = nI 1 := by first | exact Or.inl c1 | exact Or.inr c2
      exact hl a ha rfl (gn g) 0 (by omega) (Or.inl rfl) (by unfold judS; rw [if_pos ht, ja, if_pos hs])
    · refine bk hX lkX11_ok (pc' := 26) [.aload_n 0, .getfield 42, .iload_n 1, .iaload, .iconst 1] (by decide +kernel) (And.intro (by exact vin 6 ha) (And.intro trivial ?_))
      rw [ca, show I (201 + 10) a = _ from t1]
      refine ic_eq hX (6) 32 (by decide +kernel) (by decide) (fun c2 => ?_) (fun c2 => ?_)
      · refine bk hX lkX11_ok (pc' := 34) [.iconst 0, .istore_n 3] (by decide +kernel) (And.intro trivial ?_)
        refine z_lvk (lv' := [(0, _), (1, _), (2, _), (3, _)]) [1, 2, 3, 0] rfl ?_
        have hs : T.1 a = -nI 1 ∨ T.1 a = nI 1 := by first | exact Or.inl c1 | exact Or.inr c2
        exact hl a ha rfl (gn g) 0 (by omega) (Or.inl rfl) (by unfold judS; rw [if_pos ht, ja, if_pos hs])
      · refine bk hX lkX11_ok (pc' := 31) [.bipush (Int.negSucc 11)] (by decide +kernel) (And.intro trivial ?_)
        exact z_iret hX (by decide +kernel) rfl (rfl) (by decide) (by decide) (⟨rfl, by unfold judS; rw [if_pos ht, ja, if_neg (fun z => z.elim c1 c2)]⟩)
  · refine if_ne hX (5) 9 (by decide +kernel) (by decide) (fun c => absurd (by decide) c) (fun c_4 => ?_)
    refine bk hX lkX11_ok (pc' := 8) [.iconst (Int.negSucc 0)] (by decide +kernel) (And.intro trivial ?_)
    exact z_iret hX (by decide +kernel) rfl (rfl) (by decide) (by decide) (⟨rfl, by unfold judS; rw [if_neg ht]⟩)
