theorem hWd_of (c : Nat) : c = 103 ∨ c = 115 ∨ (¬ c = 103 ∧ ¬ c = 115) := by omega
set_option maxHeartbeats 1000000 in
theorem c_M_takesHead (E : zE) (K N : Nat → Nat) (Rf : Nat → Nat → Option Nat) (I : Nat → Nat → Int32) (L : Nat → Nat → Int64) {t : List Nat} (ht : txw t) (hx : mTx t I) {a : Nat} (ha : I 100 11 = nI a) (hal : a ≤ t.length) (hL : mLe I) {c : Nat} (hc : c < 60) : zCt E mX12_takesHead 3 0 0 (sg K N Rf I L) [.ref 100, .int (nI c)] (fun r σ' => ∃ I', σ' = sg K N Rf I' L ∧ r = some (.int (b2i (pWd t (hLs (hWd (nx t a))) a).1)) ∧ I' 100 11 = nI (pWd t (hLs (hWd (nx t a))) a).2 ∧ I' 116 c = nI (hWd (nx t a)) ∧ frX [116] [11] I I' ∧ ∀ k, k ≠ c → I' 116 k = I 116 k) := by
  have cc : (nI c).toNatClampNeg = c := cl (by omega)
  have hU : ∀ v, frX [116] [11] I (up2 I 116 c v) := fun v => frX_at (by decide) (by decide)
  have hT : ∀ v, mTx t (up2 I 116 c v) := fun v => mTx_at hx (hU v) (by decide) (by decide)
  have hLe : ∀ v, mLe (up2 I 116 c v) := fun v k hk => by rw [up2_ne _ _ _ (by decide)]; exact hL k hk
  have hA : ∀ v, up2 I 116 c v 100 11 = nI a := fun v => by rw [up2_ne _ _ _ (by decide)]; exact ha
  refine z_intro (by decide) (Nat.le_of_ble_eq_true rfl) (fun X hX => ?_)
  refine bk hX lkX12_ok (pc' := 1) [.aload_n 0] (by decide +kernel) (And.intro trivial ?_)
  refine z_callV hX kw_X12_247 (c_M_next E K N Rf I L ht hx ha hal) rfl rfl rfl rfl rfl (by decide +kernel) (by decide) (by decide) (by decide) (by decide) (Nat.le_of_ble_eq_true rfl) ?_
  rintro _ _ ⟨rfl, rfl⟩
  rcases hWd_of (nx t a) with e | e | ⟨e1, e2⟩
  · rw [e]
    refine z_lsw hX 32 (dflt := 56) (ps := #[(103, 28), (115, 42)]) (len := 28) (off := 28) (by decide +kernel) (by decide) (by decide) (by decide) ?_
    refine bk hX lkX12_ok (pc' := 39) [.aload_n 0, .getfield 56, .iload_n 1, .iconst 0, .iastore] (by decide +kernel) (And.intro (by exact vin 60 hc) (And.intro trivial ?_))
    rw [cc]
    refine bk hX lkX12_ok (pc' := 42) [.aload_n 0, .iconst 0, .iconst 4] (by decide +kernel) (And.intro trivial ?_)
    refine z_callV hX kw_X12_278 (c_M_takesWord E K N Rf _ L ht (hT _) (hA _) hal (hLe _) (f := 0) (m := 4) (ws := [103, 108, 97, 100]) (by decide) (by decide) rfl (by decide) (by decide)) rfl rfl rfl rfl rfl (by decide +kernel) (by decide) (by decide) (by decide) (by decide) (Nat.le_of_ble_eq_true rfl) ?_
    rintro _ _ ⟨I2, rfl, rfl, p1, p2⟩
    exact z_iret hX (by decide +kernel) rfl (by cases (pWd t ([103, 108, 97, 100] ++ [32]) a).1 <;> rfl) (by decide) (by decide) (by
  first
    | (have hw : hWd (nx t a) = 0 := by rw [e]; rfl
       rw [hw]
       exact ⟨I2, rfl, rfl, p1, by rw [p2.1 _ (by decide) (by decide), up2_self], frX_tr (hU _) (frX_mo p2 (fun _ z => by cases z) (fun _ z => z)), fun k hk => by rw [p2.1 _ (by decide) (by decide), up2_v, if_neg (by omega)]⟩)
    | (have hw : hWd (nx t a) = 1 := by rw [e]; rfl
       rw [hw]
       exact ⟨I2, rfl, rfl, p1, by rw [p2.1 _ (by decide) (by decide), up2_self], frX_tr (hU _) (frX_mo p2 (fun _ z => by cases z) (fun _ z => z)), fun k hk => by rw [p2.1 _ (by decide) (by decide), up2_v, if_neg (by omega)]⟩)
    | (have hw : hWd (nx t a) = 2 := by unfold hWd; rw [if_neg e1, if_neg e2]
       rw [hw]
       exact ⟨I2, rfl, rfl, p1, by rw [p2.1 _ (by decide) (by decide), up2_self], frX_tr (hU _) (frX_mo p2 (fun _ z => by cases z) (fun _ z => z)), fun k hk => by rw [p2.1 _ (by decide) (by decide), up2_v, if_neg (by omega)]⟩))
  · rw [e]
    refine z_lsw hX 46 (dflt := 56) (ps := #[(103, 28), (115, 42)]) (len := 28) (off := 42) (by decide +kernel) (by decide) (by decide) (by decide) ?_
    refine bk hX lkX12_ok (pc' := 53) [.aload_n 0, .getfield 56, .iload_n 1, .iconst 1, .iastore] (by decide +kernel) (And.intro (by exact vin 60 hc) (And.intro trivial ?_))
    rw [cc]
    refine bk hX lkX12_ok (pc' := 56) [.aload_n 0, .iconst 4, .iconst 4] (by decide +kernel) (And.intro trivial ?_)
    refine z_callV hX kw_X12_278 (c_M_takesWord E K N Rf _ L ht (hT _) (hA _) hal (hLe _) (f := 4) (m := 4) (ws := [115, 111, 117, 114]) (by decide) (by decide) rfl (by decide) (by decide)) rfl rfl rfl rfl rfl (by decide +kernel) (by decide) (by decide) (by decide) (by decide) (Nat.le_of_ble_eq_true rfl) ?_
    rintro _ _ ⟨I2, rfl, rfl, p1, p2⟩
    exact z_iret hX (by decide +kernel) rfl (by cases (pWd t ([115, 111, 117, 114] ++ [32]) a).1 <;> rfl) (by decide) (by decide) (by
  first
    | (have hw : hWd (nx t a) = 0 := by rw [e]; rfl
       rw [hw]
       exact ⟨I2, rfl, rfl, p1, by rw [p2.1 _ (by decide) (by decide), up2_self], frX_tr (hU _) (frX_mo p2 (fun _ z => by cases z) (fun _ z => z)), fun k hk => by rw [p2.1 _ (by decide) (by decide), up2_v, if_neg (by omega)]⟩)
    | (have hw : hWd (nx t a) = 1 := by rw [e]; rfl
       rw [hw]
       exact ⟨I2, rfl, rfl, p1, by rw [p2.1 _ (by decide) (by decide), up2_self], frX_tr (hU _) (frX_mo p2 (fun _ z => by cases z) (fun _ z => z)), fun k hk => by rw [p2.1 _ (by decide) (by decide), up2_v, if_neg (by omega)]⟩)
    | (have hw : hWd (nx t a) = 2 := by unfold hWd; rw [if_neg e1, if_neg e2]
       rw [hw]
       exact ⟨I2, rfl, rfl, p1, by rw [p2.1 _ (by decide) (by decide), up2_self], frX_tr (hU _) (frX_mo p2 (fun _ z => by cases z) (fun _ z => z)), fun k hk => by rw [p2.1 _ (by decide) (by decide), up2_v, if_neg (by omega)]⟩))
  · refine z_lsw hX 60 (dflt := 56) (ps := #[(103, 28), (115, 42)]) (len := 28) (off := 56) (by decide +kernel) (by decide) ((lv_osw (k := nI 103) (fun z => e1 ((nxI_eq (nx_le ht a) (by decide)).mp z)) (by decide)).trans ((lv_osw (k := nI 115) (fun z => e2 ((nxI_eq (nx_le ht a) (by decide)).mp z)) (by decide)).trans rfl)) (by decide) ?_
    refine bk hX lkX12_ok (pc' := 67) [.aload_n 0, .getfield 56, .iload_n 1, .iconst 2, .iastore] (by decide +kernel) (And.intro (by exact vin 60 hc) (And.intro trivial ?_))
    rw [cc]
    refine bk hX lkX12_ok (pc' := 71) [.aload_n 0, .bipush 8, .iconst 5] (by decide +kernel) (And.intro trivial ?_)
    refine z_callV hX kw_X12_278 (c_M_takesWord E K N Rf _ L ht (hT _) (hA _) hal (hLe _) (f := 8) (m := 5) (ws := [114, 111, 117, 110, 100]) (by decide) (by decide) rfl (by decide) (by decide)) rfl rfl rfl rfl rfl (by decide +kernel) (by decide) (by decide) (by decide) (by decide) (Nat.le_of_ble_eq_true rfl) ?_
    rintro _ _ ⟨I2, rfl, rfl, p1, p2⟩
    exact z_iret hX (by decide +kernel) rfl (by cases (pWd t ([114, 111, 117, 110, 100] ++ [32]) a).1 <;> rfl) (by decide) (by decide) (by
  first
    | (have hw : hWd (nx t a) = 0 := by rw [e]; rfl
       rw [hw]
       exact ⟨I2, rfl, rfl, p1, by rw [p2.1 _ (by decide) (by decide), up2_self], frX_tr (hU _) (frX_mo p2 (fun _ z => by cases z) (fun _ z => z)), fun k hk => by rw [p2.1 _ (by decide) (by decide), up2_v, if_neg (by omega)]⟩)
    | (have hw : hWd (nx t a) = 1 := by rw [e]; rfl
       rw [hw]
       exact ⟨I2, rfl, rfl, p1, by rw [p2.1 _ (by decide) (by decide), up2_self], frX_tr (hU _) (frX_mo p2 (fun _ z => by cases z) (fun _ z => z)), fun k hk => by rw [p2.1 _ (by decide) (by decide), up2_v, if_neg (by omega)]⟩)
    | (have hw : hWd (nx t a) = 2 := by unfold hWd; rw [if_neg e1, if_neg e2]
       rw [hw]
       exact ⟨I2, rfl, rfl, p1, by rw [p2.1 _ (by decide) (by decide), up2_self], frX_tr (hU _) (frX_mo p2 (fun _ z => by cases z) (fun _ z => z)), fun k hk => by rw [p2.1 _ (by decide) (by decide), up2_v, if_neg (by omega)]⟩))
def frC (c b : Nat) (I I' : Nat → Nat → Int32) : Prop := (∀ q, q ∉ [116, 117, 118, 119, 120, 121] → q ≠ 100 → I' q = I q) ∧ (∀ k, k ∉ [11, 12, 21, 22, 23] → I' 100 k = I 100 k) ∧ (∀ k, k ≠ c → I' 116 k = I 116 k ∧ I' 117 k = I 117 k ∧ I' 118 k = I 118 k ∧ I' 119 k = I 119 k) ∧ ∀ k, k < b → I' 120 k = I 120 k
theorem frC_tr {c b : Nat} {I I1 I2 : Nat → Nat → Int32} (h1 : frC c b I I1) (h2 : frC c b I1 I2) : frC c b I I2 := ⟨fun q a b => (h2.1 q a b).trans (h1.1 q a b), fun k a => (h2.2.1 k a).trans (h1.2.1 k a), fun k a => ⟨(h2.2.2.1 k a).1.trans (h1.2.2.1 k a).1, (h2.2.2.1 k a).2.1.trans (h1.2.2.1 k a).2.1, (h2.2.2.1 k a).2.2.1.trans (h1.2.2.1 k a).2.2.1, (h2.2.2.1 k a).2.2.2.trans (h1.2.2.1 k a).2.2.2⟩, fun k a => (h2.2.2.2 k a).trans (h1.2.2.2 k a)⟩
theorem frC_E {c b : Nat} {I I' : Nat → Nat → Int32} (h : frE c b I I') : frC c b I I' := ⟨fun q a b => h.1 q (fun z => a (by revert z; simp; omega)) b, h.2.1, fun k a => ⟨by rw [h.1 _ (by decide) (by decide)], by rw [h.1 _ (by decide) (by decide)], h.2.2.1 k a⟩, h.2.2.2⟩
theorem frC_0 {c b : Nat} {I I' : Nat → Nat → Int32} (h : frX [] [11, 12] I I') : frC c b I I' := ⟨fun q a b => h.1 q (by simp) b, fun k a => h.2 k (fun z => a (by revert z; simp; omega)), fun k a => ⟨by rw [h.1 _ (by decide) (by decide)], by rw [h.1 _ (by decide) (by decide)], by rw [h.1 _ (by decide) (by decide)], by rw [h.1 _ (by decide) (by decide)]⟩, fun k a => by rw [h.1 _ (by decide) (by decide)]⟩
theorem frC_W {c b : Nat} {I I' : Nat → Nat → Int32} (h : frX [116] [11] I I') (h2 : ∀ k, k ≠ c → I' 116 k = I 116 k) : frC c b I I' := ⟨fun q a b => h.1 q (fun z => a (by revert z; simp; omega)) b, fun k a => h.2 k (fun z => a (by revert z; simp; omega)), fun k a => ⟨h2 k a, by rw [h.1 _ (by decide) (by decide)], by rw [h.1 _ (by decide) (by decide)], by rw [h.1 _ (by decide) (by decide)]⟩, fun k a => by rw [h.1 _ (by decide) (by decide)]⟩
theorem frC_N {c b : Nat} {I : Nat → Nat → Int32} {v : Int32} : frC c b I (up2 I 117 c v) := ⟨fun q a b => up2_ne _ _ _ (fun z => a (by rw [z]; decide)), fun j a => by rw [up2_ne _ _ _ (by decide)], fun j hj => ⟨by rw [up2_ne _ _ _ (by decide)], by rw [up2_v, if_neg (by omega)], by rw [up2_ne _ _ _ (by decide)], by rw [up2_ne _ _ _ (by decide)]⟩, fun j _ => by rw [up2_ne _ _ _ (by decide)]⟩
theorem mTx_C {t : List Nat} {c b : Nat} {I I' : Nat → Nat → Int32} (hx : mTx t I) (h : frC c b I I') : mTx t I' := by
  unfold mTx
  rw [h.1 114 (by decide) (by decide), h.2.1 _ (by decide)]
  exact hx
theorem pCl_eq (Q : Nat) (t : List Nat) (a : Nat) : pCl Q t a = (match pWd t (hLs (hWd (nx t a))) a with
  | (false, b) => (none, b)
  | (true, b) => match pNm t b with
    | (none, c) => (none, c)
    | (some n, c) => if hWd (nx t a) = 2 then (some (2, n, []), c) else if nx t c = 32 then (match pEi Q t 4 (c + 1) with
      | (none, d) => (none, d)
      | (some ts, d) => (some (hWd (nx t a), n, ts), d)) else (none, c)) := rfl
set_option maxHeartbeats 4000000 in
theorem c_M_takesClause (E : zE) (K N : Nat → Nat) (Rf : Nat → Nat → Option Nat) (I : Nat → Nat → Int32) (L : Nat → Nat → Int64) {Q : Nat} {t : List Nat} (ht : txw t) (hx : mTx t I) {a : Nat} (ha : I 100 11 = nI a) (hal : a ≤ t.length) (hL : mLe I) (hQ : t.length < a + 1 + Q) {c b : Nat} (hc : c < 60) (hsg : I 100 21 = nI b) (hb : b + t.length ≤ a + 600) : zCt E mX12_takesClause 5 0 0 (sg K N Rf I L) [.ref 100, .int (nI c)] (fun r σ' => ∃ I', σ' = sg K N Rf I' L ∧ I' 100 11 = nI (pCl Q t a).2 ∧ frC c b I I' ∧ (((pCl Q t a).1 = none ∧ r = some (.int 0)) ∨ ∃ q : Cl, (pCl Q t a).1 = some q ∧ r = some (.int 1) ∧ I' 116 c = nI q.1 ∧ I' 117 c = nI q.2.1 ∧ I' 100 21 = nI (b + q.2.2.length) ∧ (q.1 < 2 → I' 118 c = nI b ∧ I' 119 c = nI (b + q.2.2.length) ∧ ∀ j, j < q.2.2.length → I' 120 (b + j) = tk2 (q.2.2.getD j 0)))) := by
  have hl100 := ht.1
  have cc : (nI c).toNatClampNeg = c := cl (by omega)
  have hw2 : hWd (nx t a) ≤ 2 := by
    unfold hWd
    split
    · decide
    · split <;> decide
  have hls := hLs_ok (hWd (nx t a))
  have hwl := pWd_le (t := t) (hLs (hWd (nx t a))) a hls.1
  have hE := pCl_eq Q t a
  refine z_intro (by decide) (Nat.le_of_ble_eq_true rfl) (fun X hX => ?_)
  refine bk hX lkX12_ok (pc' := 2) [.aload_n 0, .iload_n 1] (by decide +kernel) (And.intro trivial ?_)
  refine z_callV hX kw_X12_281 (c_M_takesHead E K N Rf I L ht hx ha hal hL hc) rfl rfl rfl rfl rfl (by decide +kernel) (by decide) (by decide) (by decide) (by decide) (Nat.le_of_ble_eq_true rfl) ?_
  rintro _ _ ⟨I1, rfl, rfl, p1, p2, p3, p4⟩
  have g1 : frC c b I I1 := frC_W p3 p4
  rcases hW : pWd t (hLs (hWd (nx t a))) a with ⟨_ | _, a1⟩ <;> rw [hW] at p1 hwl hE
  · have hE2 : pCl Q t a = (none, a1) := hE
    refine if_eq hX (10) 15 (by decide +kernel) (by decide) (fun c_5 => ?_) (fun c => absurd (rfl) c)
    refine bk hX lkX12_ok (pc' := 16) [.iconst 0] (by decide +kernel) (And.intro trivial ?_)
    exact z_iret hX (by decide +kernel) rfl (rfl) (by decide) (by decide) (⟨I1, rfl, by rw [hE2]; exact p1, g1, Or.inl ⟨by rw [hE2], rfl⟩⟩)
  · have hE2 : pCl Q t a = (match pNm t a1 with
        | (none, c) => (none, c)
        | (some n, c) => if hWd (nx t a) = 2 then (some (2, n, []), c) else if nx t c = 32 then (match pEi Q t 4 (c + 1) with
          | (none, d) => (none, d)
          | (some ts, d) => (some (hWd (nx t a), n, ts), d)) else (none, c)) := hE
    have ea1 : a1 = a + (hLs (hWd (nx t a))).length := hwl.2.2.2 rfl
    have la1 : a1 ≤ t.length := hwl.2.2.1 hal
    refine if_eq hX (10) 15 (by decide +kernel) (by decide) (fun c => absurd c (show ¬ b2i true = 0 by decide)) (fun c_5 => ?_)
    refine bk hX lkX12_ok (pc' := 9) [.aload_n 0] (by decide +kernel) (And.intro trivial ?_)
    refine z_callV hX kw_X12_266 (c_M_takesNumber E K N Rf I1 L ht (mTx_C hx g1) p1 la1) rfl rfl rfl rfl rfl (by decide +kernel) (by decide) (by decide) (by decide) (by decide) (Nat.le_of_ble_eq_true rfl) ?_
    rintro _ _ ⟨I2, rfl, r1, r2, (⟨r3, rfl⟩ | ⟨n, r3, rfl, r4⟩)⟩
    · have hN : pNm t a1 = (none, (pNm t a1).2) := Prod.ext r3 rfl
      rw [hN] at hE2
      have hE3 : pCl Q t a = (none, (pNm t a1).2) := hE2
      refine if_ne hX (5) 17 (by decide +kernel) (by decide) (fun c => absurd (by decide) c) (fun c_12 => ?_)
      refine bk hX lkX12_ok (pc' := 16) [.iconst 0] (by decide +kernel) (And.intro trivial ?_)
      exact z_iret hX (by decide +kernel) rfl (rfl) (by decide) (by decide) (⟨I2, rfl, by rw [hE3]; exact r2, frC_tr g1 (frC_0 r1), Or.inl ⟨by rw [hE3], rfl⟩⟩)
    · have hN : pNm t a1 = (some n, (pNm t a1).2) := Prod.ext r3 rfl
      obtain ⟨n1, n2, n3, n4⟩ := pNm_ok hN
      rw [hN] at hE2
      generalize (pNm t a1).2 = a2 at hE2 n2 n3 n4 r2
      have hE3 : pCl Q t a = (if hWd (nx t a) = 2 then (some (2, n, []), a2) else if nx t a2 = 32 then (match pEi Q t 4 (a2 + 1) with
            | (none, d) => (none, d)
            | (some ts, d) => (some (hWd (nx t a), n, ts), d)) else (none, a2)) := hE2
      have g2 : frC c b I I2 := frC_tr g1 (frC_0 r1)
      have w2 : I2 116 c = nI (hWd (nx t a)) := by rw [r1.1 _ (by decide) (by decide)]; exact p2
      have s2 : I2 100 21 = nI b := by rw [r1.2 _ (by decide), p3.2 _ (by decide)]; exact hsg
      refine if_ne hX (5) 17 (by decide +kernel) (by decide) (fun c_12 => ?_) (fun c => absurd c (by decide))
      refine bk hX lkX12_ok (pc' := 27) [.aload_n 0, .getfield 59, .iload_n 1, .aload_n 0, .getfield 47, .iastore] (by decide +kernel) (And.intro (by exact vin 60 hc) (And.intro trivial ?_))
      rw [cc, show I2 100 12 = nI n from r4]
      have g3 : frC c b I (up2 I2 117 c (nI n)) := frC_tr g2 frC_N
      have x3 := mTx_C hx g3
      have a3 : up2 I2 117 c (nI n) 100 11 = nI a2 := by rw [up2_ne _ _ _ (by decide)]; exact r2
      refine bk hX lkX12_ok (pc' := 33) [.aload_n 0, .getfield 56, .iload_n 1, .iaload] (by decide +kernel) (And.intro (by exact vin 60 hc) (And.intro trivial ?_))
      rw [cc, show up2 I2 (101 + 16) c (nI n) (101 + 15) c = nI (hWd (nx t a)) by rw [up2_ne _ _ _ (by decide)]; exact w2]
      refine bk hX lkX12_ok (pc' := 34) [.iconst 2] (by decide +kernel) (And.intro trivial ?_)
      refine ic_eq hX (20) 54 (by decide +kernel) (by decide) (fun cw => ?_) (fun cw => ?_)
      · refine bk hX lkX12_ok (pc' := 55) [.iconst 1] (by decide +kernel) (And.intro trivial ?_)
        refine gt_ hX (4) 59 (by decide +kernel) (by decide) ?_
        exact z_iret hX (by decide +kernel) rfl (rfl) (by decide) (by decide) (by
  have hw : hWd (nx t a) = 2 := nI_inj (b := 2) (by omega) (by decide) cw
  rw [if_pos hw] at hE3
  refine ⟨_, rfl, by rw [hE3]; exact a3, g3, Or.inr ⟨(2, n, []), by rw [hE3], rfl, by rw [up2_ne _ _ _ (by decide), w2, hw], by rw [up2_self], by rw [up2_ne _ _ _ (by decide)]; exact s2, fun z => absurd z (Nat.lt_irrefl 2)⟩⟩)
      · have hwn : ¬ hWd (nx t a) = 2 := fun z => cw (by rw [z])
        rw [if_neg hwn] at hE3
        refine bk hX lkX12_ok (pc' := 40) [.aload_n 0, .bipush 32] (by decide +kernel) (And.intro trivial ?_)
        refine z_callV hX kw_X12_251 (c_M_takes E K N Rf _ L ht x3 a3 n4 (c := 32) (by decide)) rfl rfl rfl rfl rfl (by decide +kernel) (by decide) (by decide) (by decide) (by decide) (Nat.le_of_ble_eq_true rfl) ?_
        rintro _ _ (⟨c1, rfl, rfl⟩ | ⟨c1, rfl, rfl⟩)
        · rw [if_pos c1] at hE3
          have hin := nx_in c1 (by decide)
          have g4 : frC c b I (up2 (up2 I2 117 c (nI n)) 100 11 (nI (a2 + 1))) := frC_tr g3 (frC_0 (frX_f (by decide)))
          have x4 := mTx_C hx g4
          have s4 : up2 (up2 I2 117 c (nI n)) 100 11 (nI (a2 + 1)) 100 21 = nI b := by rw [up2_v, if_neg (by omega), up2_ne _ _ _ (by decide)]; exact s2
          refine if_eq hX (15) 58 (by decide +kernel) (by decide) (fun c => absurd c (by decide)) (fun c_43 => ?_)
          refine bk hX lkX12_ok (pc' := 48) [.aload_n 0, .iload_n 1] (by decide +kernel) (And.intro trivial ?_)
          refine z_callV hX kw_X12_284 (c_M_takesE E K N Rf _ L (Q := Q) ht x4 (up2_self _ _ _ _) (by omega) (by omega) hc s4 (by omega)) rfl rfl rfl rfl rfl (by decide +kernel) (by decide) (by decide) (by decide) (by decide) (Nat.le_of_ble_eq_true rfl) ?_
          rintro _ _ ⟨I5, rfl, t1, t2, (⟨t3, rfl⟩ | ⟨ts, t3, rfl, t4, t5, t6⟩)⟩
          · have hM : pEi Q t 4 (a2 + 1) = (none, (pEi Q t 4 (a2 + 1)).2) := Prod.ext t3 rfl
            rw [hM] at hE3
            have hE4 : pCl Q t a = (none, (pEi Q t 4 (a2 + 1)).2) := hE3
            refine if_eq hX (7) 58 (by decide +kernel) (by decide) (fun c_51 => ?_) (fun c => absurd (by decide) c)
            refine bk hX lkX12_ok (pc' := 59) [.iconst 0] (by decide +kernel) (And.intro trivial ?_)
            exact z_iret hX (by decide +kernel) rfl (rfl) (by decide) (by decide) (⟨I5, rfl, by rw [hE4]; exact t1, frC_tr g4 (frC_E t2), Or.inl ⟨by rw [hE4], rfl⟩⟩)
          · have hM : pEi Q t 4 (a2 + 1) = (some ts, (pEi Q t 4 (a2 + 1)).2) := Prod.ext t3 rfl
            rw [hM] at hE3
            have hE4 : pCl Q t a = (some (hWd (nx t a), n, ts), (pEi Q t 4 (a2 + 1)).2) := hE3
            refine if_eq hX (7) 58 (by decide +kernel) (by decide) (fun c => absurd c (by decide)) (fun c_51 => ?_)
            refine bk hX lkX12_ok (pc' := 55) [.iconst 1] (by decide +kernel) (And.intro trivial ?_)
            refine gt_ hX (4) 59 (by decide +kernel) (by decide) ?_
            exact z_iret hX (by decide +kernel) rfl (rfl) (by decide) (by decide) (by
  refine ⟨I5, rfl, by rw [hE4]; exact t1, frC_tr g4 (frC_E t2), Or.inr ⟨(hWd (nx t a), n, ts), by rw [hE4], rfl, ?_, ?_, t4.1, fun _ => ⟨t5, t6, t4.2⟩⟩⟩
  · rw [t2.1 _ (by decide) (by decide), up2_ne _ _ _ (by decide), up2_ne _ _ _ (by decide)]; exact w2
  · rw [t2.1 _ (by decide) (by decide), up2_ne _ _ _ (by decide), up2_self])
        · rw [if_neg c1] at hE3
          refine if_eq hX (15) 58 (by decide +kernel) (by decide) (fun c_43 => ?_) (fun c => absurd (by decide) c)
          refine bk hX lkX12_ok (pc' := 59) [.iconst 0] (by decide +kernel) (And.intro trivial ?_)
          exact z_iret hX (by decide +kernel) rfl (rfl) (by decide) (by decide) (⟨_, rfl, by rw [hE3]; exact a3, g3, Or.inl ⟨by rw [hE3], rfl⟩⟩)
