def frE (c b : Nat) (I I' : Nat → Nat → Int32) : Prop := (∀ q, q ∉ [118, 119, 120, 121] → q ≠ 100 → I' q = I q) ∧ (∀ k, k ∉ [11, 12, 21, 22, 23] → I' 100 k = I 100 k) ∧ (∀ k, k ≠ c → I' 118 k = I 118 k ∧ I' 119 k = I 119 k) ∧ ∀ k, k < b → I' 120 k = I 120 k
theorem frE_rf (c b : Nat) (I : Nat → Nat → Int32) : frE c b I I := ⟨fun _ _ _ => rfl, fun _ _ => rfl, fun _ _ => ⟨rfl, rfl⟩, fun _ _ => rfl⟩
theorem frE_tr {c b : Nat} {I I1 I2 : Nat → Nat → Int32} (h1 : frE c b I I1) (h2 : frE c b I1 I2) : frE c b I I2 := ⟨fun q a b => (h2.1 q a b).trans (h1.1 q a b), fun k a => (h2.2.1 k a).trans (h1.2.1 k a), fun k a => ⟨(h2.2.2.1 k a).1.trans (h1.2.2.1 k a).1, (h2.2.2.1 k a).2.trans (h1.2.2.1 k a).2⟩, fun k a => (h2.2.2.2 k a).trans (h1.2.2.2 k a)⟩
theorem frE_f {c b : Nat} {I : Nat → Nat → Int32} {k : Nat} {v : Int32} (h : k ∈ [11, 12, 21, 22, 23]) : frE c b I (up2 I 100 k v) := ⟨fun q a b => up2_ne _ _ _ b, fun j a => by rw [up2_at, if_neg (fun z => a (by rw [z]; exact h))], fun j _ => ⟨by rw [up2_ne _ _ _ (by decide)], by rw [up2_ne _ _ _ (by decide)]⟩, fun j _ => by rw [up2_ne _ _ _ (by decide)]⟩
theorem frE_w {c b : Nat} {I : Nat → Nat → Int32} {k : Nat} {v : Int32} : frE c b I (up2 I 121 k v) := ⟨fun q a b => up2_ne _ _ _ (fun z => a (by rw [z]; decide)), fun j a => by rw [up2_ne _ _ _ (by decide)], fun j _ => ⟨by rw [up2_ne _ _ _ (by decide)], by rw [up2_ne _ _ _ (by decide)]⟩, fun j _ => by rw [up2_ne _ _ _ (by decide)]⟩
theorem frE_c {c b : Nat} {I : Nat → Nat → Int32} {p : Nat} {v : Int32} (hp : p = 118 ∨ p = 119) : frE c b I (up2 I p c v) := by
  refine ⟨fun q a b => up2_ne _ _ _ (fun z => a (by rcases hp with h | h <;> rw [z, h] <;> decide)), fun j a => by rw [up2_ne _ _ _ (by omega)], fun j hj => ⟨by rw [up2_v, if_neg (by omega)], by rw [up2_v, if_neg (by omega)]⟩, fun j _ => by rw [up2_ne _ _ _ (by omega)]⟩
theorem frE_S {c b : Nat} {Fs : List Nat} {I I' : Nat → Nat → Int32} (h : frS Fs b I I') (hF : ∀ x ∈ Fs, x ∈ [11, 12, 21, 22, 23]) : frE c b I I' := ⟨fun q a b => h.1.1 q (fun z => a (by rw [List.mem_singleton] at z; rw [z]; decide)) b, fun k a => h.1.2 k (fun z => a (hF k z)), fun k _ => ⟨by rw [h.1.1 _ (by decide) (by decide)], by rw [h.1.1 _ (by decide) (by decide)]⟩, h.2⟩
theorem mTx_E {t : List Nat} {c b : Nat} {I I' : Nat → Nat → Int32} (hx : mTx t I) (h : frE c b I I') : mTx t I' := by
  unfold mTx
  rw [h.1 114 (by decide) (by decide), h.2.1 _ (by decide)]
  exact hx
theorem mSg_w {b : Nat} {acc : List Nat} {I : Nat → Nat → Int32} {p k : Nat} {v : Int32} (h : mSg b acc I) (hp : p ≠ 100) (hp2 : p ≠ 120) : mSg b acc (up2 I p k v) := ⟨by rw [up2_ne _ _ _ hp.symm]; exact h.1, fun j hj => by rw [up2_ne _ _ _ hp2.symm]; exact h.2 j hj⟩
theorem mSt_pu {S : List Nat} {c : Nat} {I I' : Nat → Nat → Int32} (hS : mSt S I) (h1 : I' 100 22 = nI (S.length + 1)) (h2 : I' 100 23 = nI (opn (c :: S))) (h3 : ∀ k, I' 121 k = if k = S.length then nI c else I 121 k) (hc : c < 128) : mSt (c :: S) I' := by
  obtain ⟨a1, a2, a3, a4⟩ := hS
  refine ⟨by rw [List.length_cons]; exact h1, h2, ⟨by rw [h3, if_pos rfl], wtS_eq S (fun k hk => by rw [h3, if_neg (by omega)]) a3⟩, fun x hx => ?_⟩
  rcases List.mem_cons.mp hx with rfl | hx
  · exact hc
  · exact a4 x hx
/-- where the reading of an E stands -/
def eSt (t : List Nat) (c b : Nat) (I : Nat → Nat → Int32) (a : Nat) (S acc : List Nat) (I1 : Nat → Nat → Int32) : Prop := I1 100 11 = nI a ∧ mSg b acc I1 ∧ mSt S I1 ∧ I1 118 c = nI b ∧ frE c b I I1
set_option maxHeartbeats 8000000 in
set_option maxRecDepth 4000 in
theorem c_M_takesE (E : zE) (K N : Nat → Nat) (Rf : Nat → Nat → Option Nat) (I : Nat → Nat → Int32) (L : Nat → Nat → Int64) {Q : Nat} {t : List Nat} (ht : txw t) (hx : mTx t I) {a0 : Nat} (ha : I 100 11 = nI a0) (hal : a0 ≤ t.length) (hQ : t.length < a0 + Q) {c b : Nat} (hc : c < 60) (hsg : I 100 21 = nI b) (hb : b + t.length < a0 + 600) : zCt E mX12_takesE 4 0 0 (sg K N Rf I L) [.ref 100, .int (nI c)] (fun r σ' => ∃ I', σ' = sg K N Rf I' L ∧ I' 100 11 = nI (pEi Q t 4 a0).2 ∧ frE c b I I' ∧ (((pEi Q t 4 a0).1 = none ∧ r = some (.int 0)) ∨ ∃ ts, (pEi Q t 4 a0).1 = some ts ∧ r = some (.int 1) ∧ mSg b ts I' ∧ I' 118 c = nI b ∧ I' 119 c = nI (b + ts.length))) := by
  have hl100 := ht.1
  have cc : (nI c).toNatClampNeg = c := cl (by omega)
  generalize hR : pEi Q t 4 a0 = R
  refine z_intro (by decide) (Nat.le_of_ble_eq_true rfl) (fun X hX => ?_)
  have hopen : ∀ a S acc, bdE t a0 a S acc → (nx t a = 33 ∨ nx t a = 40) → opn S < 4 → (∀ I1, eSt t c b I (a + 1) (nx t a :: S) acc I1 → zS X (sg K N Rf I1 L) 0 0 22 [(0, .ref 100), (1, .int (nI c)), (2, .int (nI 1))] []) → ∀ I1, eSt t c b I a S acc I1 → zS X (sg K N Rf I1 L) 0 0 22 [(0, .ref 100), (1, .int (nI c)), (2, .int (nI 1))] [] := by
    intro a S acc hbd hn ho hk I1 ⟨e1, e2, e3, e4, e5⟩
    have hx1 := mTx_E hx e5
    obtain ⟨b1, b2⟩ := hbd
    have hin : a < t.length := by rcases hn with z | z <;> exact nx_in z (by decide)
    have h128 := nx_lt ht hin
    obtain ⟨w1, w2, w3, w4⟩ := id e3
    have cw : (nI S.length).toNatClampNeg = S.length := cl (by omega)
    have hxI : nxI (nx t a) = nI (nx t a) := by unfold nxI; rw [if_neg (by omega)]
    refine bk hX lkX12_ok (pc' := 23) [.aload_n 0] (by decide +kernel) (And.intro trivial ?_)
    refine z_callV hX kw_X12_247 (c_M_next E K N Rf I1 L ht hx1 e1 b2) rfl rfl rfl rfl rfl (by decide +kernel) (by decide) (by decide) (by decide) (by decide) (Nat.le_of_ble_eq_true rfl) ?_
    rintro _ _ ⟨rfl, rfl⟩
    rw [hxI]
    refine bk hX lkX12_ok (pc' := 28) [.istore_n 3, .iload_n 2] (by decide +kernel) (And.intro trivial ?_)
    refine if_eq hX (82) 110 (by decide +kernel) (by decide) (fun c => absurd c (by decide)) (fun c_28 => ?_)
    refine bk hX lkX12_ok (pc' := 34) [.iload_n 3, .bipush 33] (by decide +kernel) (And.intro trivial ?_)
    refine ic_eq hX (9) 43 (by decide +kernel) (by decide) (fun ca => ?_) (fun ca => ?_)
    · refine bk hX lkX12_ok (pc' := 47) [.aload_n 0, .getfield 80] (by decide +kernel) (And.intro trivial ?_)
      rw [w2]
      refine bk hX lkX12_ok (pc' := 48) [.iconst 4] (by decide +kernel) (And.intro trivial ?_)
      refine ic_ne hX (5) 53 (by decide +kernel) (by decide) (fun c_48 => ?_) (fun c => absurd c (fun z => absurd (nI_inj (b := 4) (by omega) (by decide) z) (by omega)))
      refine bk hX lkX12_ok (pc' := 93) [.aload_n 0, .dup, .getfield 80, .iconst 1, .iadd, .putfield 80, .aload_n 0, .getfield 71, .aload_n 0, .getfield 77, .iload_n 3, .iastore, .aload_n 0, .dup, .getfield 77, .iconst 1, .iadd, .putfield 77, .aload_n 0, .dup, .getfield 44, .iconst 1, .iadd, .putfield 44] (by decide +kernel) (And.intro (by (show vp_in (up2 I1 100 23 _ 100 22) _; rw [up2_v, if_neg (by omega), w1]; exact vin 101 (by omega))) (And.intro trivial ?_))
      refine gt_ hX (-71) 22 (by decide +kernel) (by decide) ?_
      refine z_lvk (lv' := [(0, _), (1, _), (2, _)]) [1, 2, 3] rfl ?_
      refine hk _ ?_
      refine ⟨by simp [up2_v, e1, nI_add], mSg_f (mSg_f (mSg_w (mSg_f e2 (by decide)) (by decide) (by decide)) (by decide)) (by decide), mSt_pu e3 (by simp [up2_v, w1, nI_add]) ?_ (fun k => ?_) h128, by simp [up2_v, e4], frE_tr e5 (frE_tr (frE_tr (frE_tr (frE_f (by decide)) frE_w) (frE_f (by decide))) (frE_f (by decide)))⟩
      · show _ = nI ((if nx t a = 33 ∨ nx t a = 40 then 1 else 0) + opn S)
        rw [if_pos hn, ← nI_add]
        simp [up2_v, w2, Int32.add_comm]
      · simp [up2_v, w1, cw]
    · refine bk hX lkX12_ok (pc' := 40) [.iload_n 3, .bipush 40] (by decide +kernel) (And.intro trivial ?_)
      refine ic_ne hX (56) 96 (by decide +kernel) (by decide) (fun cb => ?_) (fun cb => ?_)
      · refine z_lvk (lv' := [(0, _), (1, _), (2, _), (3, _)]) [1, 2, 3, 0] rfl ?_
        rcases hn with z | z
        · exact absurd (by rw [z]) ca
        · exact absurd (by rw [z]) cb
      · refine bk hX lkX12_ok (pc' := 47) [.aload_n 0, .getfield 80] (by decide +kernel) (And.intro trivial ?_)
        rw [w2]
        refine bk hX lkX12_ok (pc' := 48) [.iconst 4] (by decide +kernel) (And.intro trivial ?_)
        refine ic_ne hX (5) 53 (by decide +kernel) (by decide) (fun c_48 => ?_) (fun c => absurd c (fun z => absurd (nI_inj (b := 4) (by omega) (by decide) z) (by omega)))
        refine bk hX lkX12_ok (pc' := 93) [.aload_n 0, .dup, .getfield 80, .iconst 1, .iadd, .putfield 80, .aload_n 0, .getfield 71, .aload_n 0, .getfield 77, .iload_n 3, .iastore, .aload_n 0, .dup, .getfield 77, .iconst 1, .iadd, .putfield 77, .aload_n 0, .dup, .getfield 44, .iconst 1, .iadd, .putfield 44] (by decide +kernel) (And.intro (by (show vp_in (up2 I1 100 23 _ 100 22) _; rw [up2_v, if_neg (by omega), w1]; exact vin 101 (by omega))) (And.intro trivial ?_))
        refine gt_ hX (-71) 22 (by decide +kernel) (by decide) ?_
        refine z_lvk (lv' := [(0, _), (1, _), (2, _)]) [1, 2, 3] rfl ?_
        refine hk _ ?_
        refine ⟨by simp [up2_v, e1, nI_add], mSg_f (mSg_f (mSg_w (mSg_f e2 (by decide)) (by decide) (by decide)) (by decide)) (by decide), mSt_pu e3 (by simp [up2_v, w1, nI_add]) ?_ (fun k => ?_) h128, by simp [up2_v, e4], frE_tr e5 (frE_tr (frE_tr (frE_tr (frE_f (by decide)) frE_w) (frE_f (by decide))) (frE_f (by decide)))⟩
        · show _ = nI ((if nx t a = 33 ∨ nx t a = 40 then 1 else 0) + opn S)
          rw [if_pos hn, ← nI_add]
          simp [up2_v, w2, Int32.add_comm]
        · simp [up2_v, w1, cw]
  have hful : ∀ a S acc, bdE t a0 a S acc → (nx t a = 33 ∨ nx t a = 40) → opn S = 4 → R = (none, a) → ∀ I1, eSt t c b I a S acc I1 → zS X (sg K N Rf I1 L) 0 0 22 [(0, .ref 100), (1, .int (nI c)), (2, .int (nI 1))] [] := by
    intro a S acc hbd hn ho hk I1 ⟨e1, e2, e3, e4, e5⟩
    have hx1 := mTx_E hx e5
    obtain ⟨b1, b2⟩ := hbd
    have hin : a < t.length := by rcases hn with z | z <;> exact nx_in z (by decide)
    have h128 := nx_lt ht hin
    obtain ⟨w1, w2, w3, w4⟩ := id e3
    have hxI : nxI (nx t a) = nI (nx t a) := by unfold nxI; rw [if_neg (by omega)]
    refine bk hX lkX12_ok (pc' := 23) [.aload_n 0] (by decide +kernel) (And.intro trivial ?_)
    refine z_callV hX kw_X12_247 (c_M_next E K N Rf I1 L ht hx1 e1 b2) rfl rfl rfl rfl rfl (by decide +kernel) (by decide) (by decide) (by decide) (by decide) (Nat.le_of_ble_eq_true rfl) ?_
    rintro _ _ ⟨rfl, rfl⟩
    rw [hxI]
    refine bk hX lkX12_ok (pc' := 28) [.istore_n 3, .iload_n 2] (by decide +kernel) (And.intro trivial ?_)
    refine if_eq hX (82) 110 (by decide +kernel) (by decide) (fun c => absurd c (by decide)) (fun c_28 => ?_)
    refine bk hX lkX12_ok (pc' := 34) [.iload_n 3, .bipush 33] (by decide +kernel) (And.intro trivial ?_)
    refine ic_eq hX (9) 43 (by decide +kernel) (by decide) (fun ca => ?_) (fun ca => ?_)
    · refine bk hX lkX12_ok (pc' := 47) [.aload_n 0, .getfield 80] (by decide +kernel) (And.intro trivial ?_)
      rw [w2, ho]
      refine bk hX lkX12_ok (pc' := 48) [.iconst 4] (by decide +kernel) (And.intro trivial ?_)
      refine ic_ne hX (5) 53 (by decide +kernel) (by decide) (fun c => absurd (rfl) c) (fun c_48 => ?_)
      refine bk hX lkX12_ok (pc' := 52) [.iconst 0] (by decide +kernel) (And.intro trivial ?_)
      exact z_iret hX (by decide +kernel) rfl (rfl) (by decide) (by decide) (⟨I1, rfl, by rw [hk]; exact e1, e5, Or.inl ⟨by rw [hk], rfl⟩⟩)
    · refine bk hX lkX12_ok (pc' := 40) [.iload_n 3, .bipush 40] (by decide +kernel) (And.intro trivial ?_)
      refine ic_ne hX (56) 96 (by decide +kernel) (by decide) (fun cb => ?_) (fun cb => ?_)
      · refine z_lvk (lv' := [(0, _), (1, _), (2, _), (3, _)]) [1, 2, 3, 0] rfl ?_
        rcases hn with z | z
        · exact absurd (by rw [z]) ca
        · exact absurd (by rw [z]) cb
      · refine bk hX lkX12_ok (pc' := 47) [.aload_n 0, .getfield 80] (by decide +kernel) (And.intro trivial ?_)
        rw [w2, ho]
        refine bk hX lkX12_ok (pc' := 48) [.iconst 4] (by decide +kernel) (And.intro trivial ?_)
        refine ic_ne hX (5) 53 (by decide +kernel) (by decide) (fun c => absurd (rfl) c) (fun c_48 => ?_)
        refine bk hX lkX12_ok (pc' := 52) [.iconst 0] (by decide +kernel) (And.intro trivial ?_)
        exact z_iret hX (by decide +kernel) rfl (rfl) (by decide) (by decide) (⟨I1, rfl, by rw [hk]; exact e1, e5, Or.inl ⟨by rw [hk], rfl⟩⟩)
  have htst : ∀ a S acc, bdE t a0 a S acc → ¬ nx t a = 33 → ¬ nx t a = 40 → (∀ b, pTs t a = (none, b) → R = (none, b)) → (∀ ts d, pTs t a = (some ts, d) → ∀ I1, eSt t c b I d (whl S).1 (acc ++ ts ++ (whl S).2) I1 → zS X (sg K N Rf I1 L) 0 0 22 [(0, .ref 100), (1, .int (nI c)), (2, .int (nI 0))] []) → ∀ I1, eSt t c b I a S acc I1 → zS X (sg K N Rf I1 L) 0 0 22 [(0, .ref 100), (1, .int (nI c)), (2, .int (nI 1))] [] := by
    intro a S acc hbd n33 n40 hno hk I1 ⟨e1, e2, e3, e4, e5⟩
    have hx1 := mTx_E hx e5
    obtain ⟨b1, b2⟩ := hbd
    refine bk hX lkX12_ok (pc' := 23) [.aload_n 0] (by decide +kernel) (And.intro trivial ?_)
    refine z_callV hX kw_X12_247 (c_M_next E K N Rf I1 L ht hx1 e1 b2) rfl rfl rfl rfl rfl (by decide +kernel) (by decide) (by decide) (by decide) (by decide) (Nat.le_of_ble_eq_true rfl) ?_
    rintro _ _ ⟨rfl, rfl⟩
    refine bk hX lkX12_ok (pc' := 28) [.istore_n 3, .iload_n 2] (by decide +kernel) (And.intro trivial ?_)
    refine if_eq hX (82) 110 (by decide +kernel) (by decide) (fun c => absurd c (by decide)) (fun c_28 => ?_)
    refine bk hX lkX12_ok (pc' := 34) [.iload_n 3, .bipush 33] (by decide +kernel) (And.intro trivial ?_)
    refine ic_eq hX (9) 43 (by decide +kernel) (by decide) (fun c => absurd c (fun z => n33 ((nxI_eq (nx_le ht a) (by decide)).mp z))) (fun c_34 => ?_)
    refine bk hX lkX12_ok (pc' := 40) [.iload_n 3, .bipush 40] (by decide +kernel) (And.intro trivial ?_)
    refine ic_ne hX (56) 96 (by decide +kernel) (by decide) (fun c_40 => ?_) (fun c => absurd c (fun z => n40 ((nxI_eq (nx_le ht a) (by decide)).mp z)))
    refine bk hX lkX12_ok (pc' := 97) [.aload_n 0] (by decide +kernel) (And.intro trivial ?_)
    refine z_callV hX kw_X12_272 (c_M_takesTest E K N Rf I1 L ht hx1 e1 b2 e2 e3 (by omega) (by omega)) rfl rfl rfl rfl rfl (by decide +kernel) (by decide) (by decide) (by decide) (by decide) (Nat.le_of_ble_eq_true rfl) ?_
    rintro _ _ ⟨I2, rfl, p1, p2, (⟨g1, rfl⟩ | ⟨ts, g1, rfl, g2, g3⟩)⟩
    · have hN := hno _ (Prod.ext g1 rfl)
      refine if_eq hX (8) 108 (by decide +kernel) (by decide) (fun c_100 => ?_) (fun c => absurd (by decide) c)
      refine bk hX lkX12_ok (pc' := 109) [.iconst 0] (by decide +kernel) (And.intro trivial ?_)
      exact z_iret hX (by decide +kernel) rfl (rfl) (by decide) (by decide) (⟨I2, rfl, by rw [hN]; exact p1, frE_tr e5 (frE_S p2 (by decide)), Or.inl ⟨by rw [hN], rfl⟩⟩)
    · refine if_eq hX (8) 108 (by decide +kernel) (by decide) (fun c => absurd c (by decide)) (fun c_100 => ?_)
      refine bk hX lkX12_ok (pc' := 105) [.iconst 0, .istore_n 2] (by decide +kernel) (And.intro trivial ?_)
      refine gt_ hX (-83) 22 (by decide +kernel) (by decide) ?_
      refine z_lvk (lv' := [(0, _), (1, _), (2, _)]) [2, 3, 0] rfl ?_
      exact hk ts _ (Prod.ext g1 rfl) I2 ⟨p1, g2, g3, by rw [p2.1.1 _ (by decide) (by decide)]; exact e4, frE_tr e5 (frE_S p2 (by decide))⟩
  have hop : ∀ a S acc, bdE t a0 a S acc → (nx t a = 38 ∨ nx t a = 124) → (∀ I1, eSt t c b I (a + 1) (nx t a :: (stl (nx t a) S).1) (acc ++ (stl (nx t a) S).2) I1 → zS X (sg K N Rf I1 L) 0 0 22 [(0, .ref 100), (1, .int (nI c)), (2, .int (nI 1))] []) → ∀ I1, eSt t c b I a S acc I1 → zS X (sg K N Rf I1 L) 0 0 22 [(0, .ref 100), (1, .int (nI c)), (2, .int (nI 0))] [] := by
    intro a S acc hbd hn hk I1 ⟨e1, e2, e3, e4, e5⟩
    have hx1 := mTx_E hx e5
    obtain ⟨b1, b2⟩ := hbd
    have hin : a < t.length := by rcases hn with z | z <;> exact nx_in z (by decide)
    have h128 := nx_lt ht hin
    have hxI : nxI (nx t a) = nI (nx t a) := by unfold nxI; rw [if_neg (by omega)]
    have hsl := stl_len (nx t a) S
    refine bk hX lkX12_ok (pc' := 23) [.aload_n 0] (by decide +kernel) (And.intro trivial ?_)
    refine z_callV hX kw_X12_247 (c_M_next E K N Rf I1 L ht hx1 e1 b2) rfl rfl rfl rfl rfl (by decide +kernel) (by decide) (by decide) (by decide) (by decide) (Nat.le_of_ble_eq_true rfl) ?_
    rintro _ _ ⟨rfl, rfl⟩
    rw [hxI]
    refine bk hX lkX12_ok (pc' := 28) [.istore_n 3, .iload_n 2] (by decide +kernel) (And.intro trivial ?_)
    refine if_eq hX (82) 110 (by decide +kernel) (by decide) (fun c_28 => ?_) (fun c => absurd (rfl) c)
    refine bk hX lkX12_ok (pc' := 113) [.iload_n 3, .bipush 38] (by decide +kernel) (And.intro trivial ?_)
    refine ic_eq hX (9) 122 (by decide +kernel) (by decide) (fun ca => ?_) (fun ca => ?_)
    · refine bk hX lkX12_ok (pc' := 124) [.aload_n 0, .iload_n 3] (by decide +kernel) (And.intro trivial ?_)
      refine z_callV hX kw_X12_275 (c_M_settle E K N Rf I1 L e2 e3 (by omega) (by omega) h128) rfl rfl rfl rfl rfl (by decide +kernel) (by decide) (by decide) (by decide) (by decide) (Nat.le_of_ble_eq_true rfl) ?_
      rintro _ _ ⟨I2, rfl, rfl, q1, q2, q3⟩
      obtain ⟨w1, w2, w3, w4⟩ := id q2
      have cw : (nI (stl (nx t a) S).1.length).toNatClampNeg = (stl (nx t a) S).1.length := cl (by omega)
      have e1' : I2 100 11 = nI a := by rw [q3.1.2 _ (by decide)]; exact e1
      have e4' : I2 118 c = nI b := by rw [q3.1.1 _ (by decide) (by decide)]; exact e4
      refine bk hX lkX12_ok (pc' := 159) [.aload_n 0, .getfield 71, .aload_n 0, .getfield 77, .iload_n 3, .iastore, .aload_n 0, .dup, .getfield 77, .iconst 1, .iadd, .putfield 77, .iconst 1, .istore_n 2, .aload_n 0, .dup, .getfield 44, .iconst 1, .iadd, .putfield 44] (by decide +kernel) (And.intro (by rw [w1]; exact vin 101 (by omega)) (And.intro trivial ?_))
      refine gt_ hX (-137) 22 (by decide +kernel) (by decide) ?_
      refine z_lvk (lv' := [(0, _), (1, _), (2, _)]) [2, 3, 0] rfl ?_
      refine hk _ ?_
      refine ⟨by simp [up2_v, e1', nI_add], mSg_f (mSg_f (mSg_w q1 (by decide) (by decide)) (by decide)) (by decide), mSt_pu q2 (by simp [up2_v, w1, nI_add]) ?_ (fun k => by simp [up2_v, w1, cw]) h128, by simp [up2_v, e4'], frE_tr e5 (frE_tr (frE_S q3 (by decide)) (frE_tr (frE_tr frE_w (frE_f (by decide))) (frE_f (by decide))))⟩
      simp only [up2_v, w2]
      rw [if_neg (by omega), if_neg (by omega), if_neg (by omega)]
      show _ = nI ((if nx t a = 33 ∨ nx t a = 40 then 1 else 0) + opn (stl (nx t a) S).1)
      rw [if_neg (by omega), Nat.zero_add]
    · refine bk hX lkX12_ok (pc' := 119) [.iload_n 3, .bipush 124] (by decide +kernel) (And.intro trivial ?_)
      refine ic_ne hX (43) 162 (by decide +kernel) (by decide) (fun cb => ?_) (fun cb => ?_)
      · refine z_lvk (lv' := [(0, _), (1, _), (2, _), (3, _)]) [1, 2, 3, 0] rfl ?_
        rcases hn with z | z
        · exact absurd (by rw [z]) ca
        · exact absurd (by rw [z]) cb
      · refine bk hX lkX12_ok (pc' := 124) [.aload_n 0, .iload_n 3] (by decide +kernel) (And.intro trivial ?_)
        refine z_callV hX kw_X12_275 (c_M_settle E K N Rf I1 L e2 e3 (by omega) (by omega) h128) rfl rfl rfl rfl rfl (by decide +kernel) (by decide) (by decide) (by decide) (by decide) (Nat.le_of_ble_eq_true rfl) ?_
        rintro _ _ ⟨I2, rfl, rfl, q1, q2, q3⟩
        obtain ⟨w1, w2, w3, w4⟩ := id q2
        have cw : (nI (stl (nx t a) S).1.length).toNatClampNeg = (stl (nx t a) S).1.length := cl (by omega)
        have e1' : I2 100 11 = nI a := by rw [q3.1.2 _ (by decide)]; exact e1
        have e4' : I2 118 c = nI b := by rw [q3.1.1 _ (by decide) (by decide)]; exact e4
        refine bk hX lkX12_ok (pc' := 159) [.aload_n 0, .getfield 71, .aload_n 0, .getfield 77, .iload_n 3, .iastore, .aload_n 0, .dup, .getfield 77, .iconst 1, .iadd, .putfield 77, .iconst 1, .istore_n 2, .aload_n 0, .dup, .getfield 44, .iconst 1, .iadd, .putfield 44] (by decide +kernel) (And.intro (by rw [w1]; exact vin 101 (by omega)) (And.intro trivial ?_))
        refine gt_ hX (-137) 22 (by decide +kernel) (by decide) ?_
        refine z_lvk (lv' := [(0, _), (1, _), (2, _)]) [2, 3, 0] rfl ?_
        refine hk _ ?_
        refine ⟨by simp [up2_v, e1', nI_add], mSg_f (mSg_f (mSg_w q1 (by decide) (by decide)) (by decide)) (by decide), mSt_pu q2 (by simp [up2_v, w1, nI_add]) ?_ (fun k => by simp [up2_v, w1, cw]) h128, by simp [up2_v, e4'], frE_tr e5 (frE_tr (frE_S q3 (by decide)) (frE_tr (frE_tr frE_w (frE_f (by decide))) (frE_f (by decide))))⟩
        simp only [up2_v, w2]
        rw [if_neg (by omega), if_neg (by omega), if_neg (by omega)]
        show _ = nI ((if nx t a = 33 ∨ nx t a = 40 then 1 else 0) + opn (stl (nx t a) S).1)
        rw [if_neg (by omega), Nat.zero_add]
  have hset : ∀ a S acc, bdE t a0 a S acc → ¬ nx t a = 38 → ¬ nx t a = 124 → (∀ I2, eSt t c b I a (stl 124 S).1 (acc ++ (stl 124 S).2) I2 → I2 119 c = nI (b + (acc ++ (stl 124 S).2).length) → zS X (sg K N Rf I2 L) 0 0 178 [(0, .ref 100), (1, .int (nI c)), (2, .int (nI 0)), (3, .int (nxI (nx t a)))] []) → ∀ I1, eSt t c b I a S acc I1 → zS X (sg K N Rf I1 L) 0 0 22 [(0, .ref 100), (1, .int (nI c)), (2, .int (nI 0))] [] := by
    intro a S acc hbd n38 n124 hk I1 ⟨e1, e2, e3, e4, e5⟩
    have hx1 := mTx_E hx e5
    obtain ⟨b1, b2⟩ := hbd
    refine bk hX lkX12_ok (pc' := 23) [.aload_n 0] (by decide +kernel) (And.intro trivial ?_)
    refine z_callV hX kw_X12_247 (c_M_next E K N Rf I1 L ht hx1 e1 b2) rfl rfl rfl rfl rfl (by decide +kernel) (by decide) (by decide) (by decide) (by decide) (Nat.le_of_ble_eq_true rfl) ?_
    rintro _ _ ⟨rfl, rfl⟩
    refine bk hX lkX12_ok (pc' := 28) [.istore_n 3, .iload_n 2] (by decide +kernel) (And.intro trivial ?_)
    refine if_eq hX (82) 110 (by decide +kernel) (by decide) (fun c_28 => ?_) (fun c => absurd (rfl) c)
    refine bk hX lkX12_ok (pc' := 113) [.iload_n 3, .bipush 38] (by decide +kernel) (And.intro trivial ?_)
    refine ic_eq hX (9) 122 (by decide +kernel) (by decide) (fun c => absurd c (fun z => n38 ((nxI_eq (nx_le ht a) (by decide)).mp z))) (fun c_113 => ?_)
    refine bk hX lkX12_ok (pc' := 119) [.iload_n 3, .bipush 124] (by decide +kernel) (And.intro trivial ?_)
    refine ic_ne hX (43) 162 (by decide +kernel) (by decide) (fun c_119 => ?_) (fun c => absurd c (fun z => n124 ((nxI_eq (nx_le ht a) (by decide)).mp z)))
    refine bk hX lkX12_ok (pc' := 165) [.aload_n 0, .bipush 124] (by decide +kernel) (And.intro trivial ?_)
    refine z_callV hX kw_X12_275 (c_M_settle E K N Rf I1 L e2 e3 (by omega) (by omega) (s := 124) (by decide)) rfl rfl rfl rfl rfl (by decide +kernel) (by decide) (by decide) (by decide) (by decide) (Nat.le_of_ble_eq_true rfl) ?_
    rintro _ _ ⟨I2, rfl, rfl, q1, q2, q3⟩
    have e1' : I2 100 11 = nI a := by rw [q3.1.2 _ (by decide)]; exact e1
    have e4' : I2 118 c = nI b := by rw [q3.1.1 _ (by decide) (by decide)]; exact e4
    refine bk hX lkX12_ok (pc' := 178) [.aload_n 0, .getfield 65, .iload_n 1, .aload_n 0, .getfield 74, .iastore] (by decide +kernel) (And.intro (by exact vin 60 hc) (And.intro trivial ?_))
    refine z_lvk (lv' := [(0, _), (1, _), (2, _), (3, _)]) [1, 2, 3, 0] rfl ?_
    rw [cc, q1.1]
    refine hk _ ⟨by rw [up2_ne _ _ _ (by decide)]; exact e1', mSg_w q1 (by decide) (by decide), ?_, by rw [up2_ne _ _ _ (by decide)]; exact e4', frE_tr e5 (frE_tr (frE_S q3 (by decide)) (frE_c (Or.inr rfl)))⟩ (by rw [up2_self])
    obtain ⟨w1, w2, w3, w4⟩ := q2
    exact ⟨by rw [up2_ne _ _ _ (by decide)]; exact w1, by rw [up2_ne _ _ _ (by decide)]; exact w2, wtS_eq _ (fun k _ => by rw [up2_ne _ _ _ (by decide)]) w3, w4⟩
  have he1 : ∀ a S acc, bdE t a0 a S acc → ¬ nx t a = 38 → ¬ nx t a = 124 → (stl 124 S).1 = [] → R = (some (acc ++ (stl 124 S).2), a) → ∀ I1, eSt t c b I a S acc I1 → zS X (sg K N Rf I1 L) 0 0 22 [(0, .ref 100), (1, .int (nI c)), (2, .int (nI 0))] [] := by
    intro a S acc hbd n38 n124 hS hk
    refine hset a S acc hbd n38 n124 (fun I2 ⟨e1, e2, e3, e4, e5⟩ hto => ?_)
    rw [hS] at e3
    refine bk hX lkX12_ok (pc' := 182) [.aload_n 0, .getfield 77] (by decide +kernel) (And.intro trivial ?_)
    rw [show I2 100 22 = nI 0 from e3.1]
    refine if_ne hX (5) 187 (by decide +kernel) (by decide) (fun c => absurd (rfl) c) (fun c_182 => ?_)
    refine bk hX lkX12_ok (pc' := 186) [.iconst 1] (by decide +kernel) (And.intro trivial ?_)
    exact z_iret hX (by decide +kernel) rfl (rfl) (by decide) (by decide) (⟨I2, rfl, by rw [hk]; exact e1, e5, Or.inr ⟨_, by rw [hk], rfl, e2, e4, hto⟩⟩)
  have he2 : ∀ a S acc r, bdE t a0 a S acc → ¬ nx t a = 38 → ¬ nx t a = 124 → (stl 124 S).1 = 40 :: r → ¬ nx t a = 41 → R = (none, a) → ∀ I1, eSt t c b I a S acc I1 → zS X (sg K N Rf I1 L) 0 0 22 [(0, .ref 100), (1, .int (nI c)), (2, .int (nI 0))] [] := by
    intro a S acc r hbd n38 n124 hS n41 hk
    have hsl := stl_len 124 S
    obtain ⟨b1, b2⟩ := id hbd
    rw [hS, List.length_cons] at hsl
    refine hset a S acc hbd n38 n124 (fun I2 ⟨e1, e2, e3, e4, e5⟩ hto => ?_)
    rw [hS] at e3
    refine bk hX lkX12_ok (pc' := 182) [.aload_n 0, .getfield 77] (by decide +kernel) (And.intro trivial ?_)
    rw [show I2 100 22 = nI (r.length + 1) from e3.1]
    refine if_ne hX (5) 187 (by decide +kernel) (by decide) (fun c_182 => ?_) (fun c => absurd c (fun z => absurd (nI_inj (b := 0) (by omega) (by decide) z) (by omega)))
    refine bk hX lkX12_ok (pc' := 190) [.iload_n 3, .bipush 41] (by decide +kernel) (And.intro trivial ?_)
    refine ic_eq hX (5) 195 (by decide +kernel) (by decide) (fun c => absurd c (fun z => n41 ((nxI_eq (nx_le ht a) (by decide)).mp z))) (fun c_190 => ?_)
    refine bk hX lkX12_ok (pc' := 194) [.iconst 0] (by decide +kernel) (And.intro trivial ?_)
    exact z_iret hX (by decide +kernel) rfl (rfl) (by decide) (by decide) (⟨I2, rfl, by rw [hk]; exact e1, e5, Or.inl ⟨by rw [hk], rfl⟩⟩)
  have he3 : ∀ a S acc r, bdE t a0 a S acc → (stl 124 S).1 = 40 :: r → nx t a = 41 → (∀ I1, eSt t c b I (a + 1) (whl r).1 (acc ++ (stl 124 S).2 ++ (whl r).2) I1 → zS X (sg K N Rf I1 L) 0 0 22 [(0, .ref 100), (1, .int (nI c)), (2, .int (nI 0))] []) → ∀ I1, eSt t c b I a S acc I1 → zS X (sg K N Rf I1 L) 0 0 22 [(0, .ref 100), (1, .int (nI c)), (2, .int (nI 0))] [] := by
    intro a S acc r hbd hS n41 hk
    have hsl := stl_len 124 S
    have hin := nx_in n41 (by decide)
    obtain ⟨b1, b2⟩ := id hbd
    rw [hS, List.length_cons] at hsl
    refine hset a S acc hbd (by omega) (by omega) (fun I2 ⟨e1, e2, e3, e4, e5⟩ hto => ?_)
    rw [hS] at e3
    obtain ⟨w1, w2, w3, w4⟩ := e3
    have w2' : I2 100 23 = nI (1 + opn r) := w2
    rw [n41]
    refine bk hX lkX12_ok (pc' := 182) [.aload_n 0, .getfield 77] (by decide +kernel) (And.intro trivial ?_)
    rw [show I2 100 22 = nI (r.length + 1) from w1]
    refine if_ne hX (5) 187 (by decide +kernel) (by decide) (fun c_182 => ?_) (fun c => absurd c (fun z => absurd (nI_inj (b := 0) (by omega) (by decide) z) (by omega)))
    refine bk hX lkX12_ok (pc' := 190) [.iload_n 3, .bipush 41] (by decide +kernel) (And.intro trivial ?_)
    refine ic_eq hX (5) 195 (by decide +kernel) (by decide) (fun c_190 => ?_) (fun c => absurd (rfl) c)
    refine bk hX lkX12_ok (pc' := 225) [.aload_n 0, .dup, .getfield 77, .iconst 1, .isub, .putfield 77, .aload_n 0, .dup, .getfield 80, .iconst 1, .isub, .putfield 80, .aload_n 0, .dup, .getfield 44, .iconst 1, .iadd, .putfield 44] (by decide +kernel) (And.intro trivial ?_)
    rw [show I2 100 22 - nI 1 = nI r.length by rw [show I2 100 22 = nI (r.length + 1) from w1, i_m1 (n := r.length + 1) (by omega), Nat.add_sub_cancel], show up2 I2 100 22 (nI r.length) 100 23 - nI 1 = nI (opn r) by rw [up2_v, if_neg (by omega), w2', i_m1 (n := 1 + opn r) (by omega), Nat.add_sub_cancel_left], show up2 (up2 I2 100 22 (nI r.length)) 100 23 (nI (opn r)) 100 11 + nI 1 = nI (a + 1) by rw [up2_v, if_neg (by omega), up2_v, if_neg (by omega), e1, nI_add]]
    have g1 : mSg b (acc ++ (stl 124 S).2) (up2 (up2 (up2 I2 100 22 (nI r.length)) 100 23 (nI (opn r))) 100 11 (nI (a + 1))) := mSg_f (mSg_f (mSg_f e2 (by decide)) (by decide)) (by decide)
    have g2 : mSt r (up2 (up2 (up2 I2 100 22 (nI r.length)) 100 23 (nI (opn r))) 100 11 (nI (a + 1))) := ⟨by simp [up2_v], by simp [up2_v], wtS_f (wtS_f (wtS_f w3.2)), fun x hx => w4 x (List.mem_cons_of_mem _ hx)⟩
    refine bk hX lkX12_ok (pc' := 226) [.aload_n 0] (by decide +kernel) (And.intro trivial ?_)
    refine z_callV hX kw_X12_269 (c_M_whole E K N Rf _ L g1 g2 (by rw [List.length_append]; omega) (by omega)) rfl rfl rfl rfl rfl (by decide +kernel) (by decide) (by decide) (by decide) (by decide) (Nat.le_of_ble_eq_true rfl) ?_
    rintro _ _ ⟨I3, rfl, rfl, q1, q2, q3⟩
    refine gt_ hX (-207) 22 (by decide +kernel) (by decide) ?_
    refine z_lvk (lv' := [(0, _), (1, _), (2, _)]) [0, 1, 2] rfl ?_
    exact hk I3 ⟨by rw [q3.1.2 _ (by decide), up2_self], q1, q2, by rw [q3.1.1 _ (by decide) (by decide), up2_ne _ _ _ (by decide), up2_ne _ _ _ (by decide), up2_ne _ _ _ (by decide)]; exact e4, frE_tr e5 (frE_tr (frE_tr (frE_tr (frE_f (by decide)) (frE_f (by decide))) (frE_f (by decide))) (frE_S q3 (by decide)))⟩
  have hmain := sy_E (Q := Q) (R := R) (t := t) (a0 := a0) (P := fun w a S acc => ∀ I1, eSt t c b I a S acc I1 → zS X (sg K N Rf I1 L) 0 0 22 [(0, .ref 100), (1, .int (nI c)), (2, .int (nI w))] []) 4 hop he1 he2 he3 (sy_F (Q := Q) (R := R) (t := t) (a0 := a0) (P := fun w a S acc => ∀ I1, eSt t c b I a S acc I1 → zS X (sg K N Rf I1 L) 0 0 22 [(0, .ref 100), (1, .int (nI c)), (2, .int (nI w))] []) (by omega) hopen hful htst hop he1 he2 he3 4) [] [] (Or.inl rfl) rfl Q false false a0 [] (by omega) ⟨by show 0 + 0 + a0 ≤ a0; omega, hal⟩ (fun d hd => hR.symm.trans hd) (fun ts d hd => ⟨fun _ => hR.symm.trans hd, fun r hr => by cases hr⟩)
  refine bk hX lkX12_ok (pc' := 22) [.aload_n 0, .iconst 0, .putfield 77, .aload_n 0, .iconst 0, .putfield 80, .aload_n 0, .getfield 62, .iload_n 1, .aload_n 0, .getfield 74, .iastore, .iconst 1, .istore_n 2] (by decide +kernel) (And.intro (by exact vin 60 hc) (And.intro trivial ?_))
  refine z_lvk (lv' := [(0, _), (1, _), (2, _)]) [1, 2, 0] rfl ?_
  rw [cc]
  refine hmain _ ?_
  exact ⟨by simp [up2_v, ha], ⟨by simp [up2_v, hsg], fun k hk => absurd hk (Nat.not_lt_zero _)⟩, ⟨by simp [up2_v, opsL], by simp [up2_v, opn, opsL], trivial, fun x hx => by cases hx⟩, by simp [up2_v, hsg], frE_tr (frE_tr (frE_f (by decide)) (frE_f (by decide))) (frE_c (Or.inl rfl))⟩
