def opn : List Nat → Nat
  | [] => 0
  | c :: r => (if c = 33 ∨ c = 40 then 1 else 0) + opn r
def wtS (I : Nat → Nat → Int32) : List Nat → Prop
  | [] => True
  | c :: r => I 121 r.length = nI c ∧ wtS I r
theorem wtS_eq {I I' : Nat → Nat → Int32} : ∀ (S : List Nat), (∀ k, k < S.length → I' 121 k = I 121 k) → wtS I S → wtS I' S
  | [], _, _ => trivial
  | c :: r, h, hw => ⟨by rw [h r.length (by rw [List.length_cons]; omega)]; exact hw.1, wtS_eq r (fun k hk => h k (by rw [List.length_cons]; omega)) hw.2⟩
/-- what waits -/
def mSt (S : List Nat) (I : Nat → Nat → Int32) : Prop := I 100 22 = nI S.length ∧ I 100 23 = nI (opn S) ∧ wtS I S ∧ ∀ x ∈ S, x < 128
/-- what was emitted, from b on -/
def mSg (b : Nat) (acc : List Nat) (I : Nat → Nat → Int32) : Prop := I 100 21 = nI (b + acc.length) ∧ ∀ k, k < acc.length → I 120 (b + k) = tk2 (acc.getD k 0)
def frS (Fs : List Nat) (b : Nat) (I I' : Nat → Nat → Int32) : Prop := frX [120] Fs I I' ∧ ∀ k, k < b → I' 120 k = I 120 k
theorem frS_rf (Fs : List Nat) (b : Nat) (I : Nat → Nat → Int32) : frS Fs b I I := ⟨frX_rf _ _ _, fun _ _ => rfl⟩
theorem frS_tr {Fs : List Nat} {b : Nat} {I I1 I2 : Nat → Nat → Int32} (h1 : frS Fs b I I1) (h2 : frS Fs b I1 I2) : frS Fs b I I2 := ⟨frX_tr h1.1 h2.1, fun k hk => (h2.2 k hk).trans (h1.2 k hk)⟩
theorem frS_f {Fs : List Nat} {b : Nat} {I : Nat → Nat → Int32} {k : Nat} {v : Int32} (h : k ∈ Fs) : frS Fs b I (up2 I 100 k v) := ⟨frX_f h, fun j _ => by rw [up2_ne _ _ _ (by decide)]⟩
theorem frX_mo {Ps Fs Ps' Fs' : List Nat} {I I' : Nat → Nat → Int32} (h : frX Ps Fs I I') (h1 : ∀ x ∈ Ps, x ∈ Ps') (h2 : ∀ x ∈ Fs, x ∈ Fs') : frX Ps' Fs' I I' := ⟨fun q a b => h.1 q (fun z => a (h1 q z)) b, fun k a => h.2 k (fun z => a (h2 k z))⟩
theorem frS_mo {Fs Fs' : List Nat} {b b' : Nat} {I I' : Nat → Nat → Int32} (h : frS Fs b I I') (h2 : ∀ x ∈ Fs, x ∈ Fs') (hb : b' ≤ b) : frS Fs' b' I I' := ⟨frX_mo h.1 (fun _ z => z) h2, fun k hk => h.2 k (by omega)⟩
theorem c_M_emits (E : zE) (K N : Nat → Nat) (Rf : Nat → Nat → Option Nat) (I : Nat → Nat → Int32) (L : Nat → Nat → Int64) {b : Nat} {acc : List Nat} (hs : mSg b acc I) (hb : b + acc.length < 600) (k : Nat) : zCt E mX12_emits 0 0 0 (sg K N Rf I L) [.ref 100, .int (tk2 k)] (fun r σ' => ∃ I', σ' = sg K N Rf I' L ∧ r = none ∧ mSg b (acc ++ [k]) I' ∧ frS [21] (b + acc.length) I I') := by
  obtain ⟨s1, s2⟩ := hs
  have cn : (nI (b + acc.length)).toNatClampNeg = b + acc.length := cl (by omega)
  refine z_intro (by decide) (Nat.le_of_ble_eq_true rfl) (fun X hX => ?_)
  refine bk hX lkX12_ok (pc' := 20) [.aload_n 0, .getfield 68, .aload_n 0, .getfield 74, .iload_n 1, .iastore, .aload_n 0, .dup, .getfield 74, .iconst 1, .iadd, .putfield 74] (by decide +kernel) (And.intro (by rw [s1]; exact vin 600 (by omega)) (And.intro trivial ?_))
  exact z_vret hX (by decide +kernel) rfl (by decide) (by decide) (by
  refine ⟨_, rfl, rfl, ⟨by simp [up2_v, s1, nI_add, Nat.add_assoc], fun j hj => ?_⟩, frX_tr (frX_at (by decide) (by decide)) (frX_f (by decide)), fun j hj => ?_⟩
  · rw [List.length_append, List.length_singleton] at hj
    by_cases h : j = acc.length
    · subst h
      simp [up2_v, s1, cn]
    · have h3 := s2 j (by omega)
      have h4 : ¬ b + j = b + acc.length := by omega
      simp only [up2_v, s1, cn]
      rw [if_neg (by omega), if_neg (by omega), h3, List.getD_eq_getElem?_getD, List.getD_eq_getElem?_getD, List.getElem?_append_left (show j < acc.length by omega)]
  · simp only [up2_v, s1, cn]
    rw [if_neg (by omega), if_neg (by omega)])
def whl : List Nat → List Nat × List Nat
  | [] => ([], [])
  | c :: r => if c = 33 then ((whl r).1, 0 :: (whl r).2) else (c :: r, [])
theorem whl_s (c : Nat) (r : List Nat) : whl (c :: r) = if c = 33 then ((whl r).1, 0 :: (whl r).2) else (c :: r, []) := rfl
def stl (s : Nat) : List Nat → List Nat × List Nat
  | [] => ([], [])
  | c :: r => if c = 38 then ((stl s r).1, 1 :: (stl s r).2) else if c = 124 ∧ s ≠ 38 then ((stl s r).1, 2 :: (stl s r).2) else (c :: r, [])
theorem stl_s (s c : Nat) (r : List Nat) : stl s (c :: r) = if c = 38 then ((stl s r).1, 1 :: (stl s r).2) else if c = 124 ∧ s ≠ 38 then ((stl s r).1, 2 :: (stl s r).2) else (c :: r, []) := rfl
theorem mSt_fr {S : List Nat} {Fs : List Nat} {b : Nat} {I I' : Nat → Nat → Int32} (h : frS Fs b I I') (h1 : 22 ∉ Fs) (h2 : 23 ∉ Fs) (hS : mSt S I) : mSt S I' := by
  obtain ⟨a1, a2, a3, a4⟩ := hS
  refine ⟨by rw [h.1.2 _ h1]; exact a1, by rw [h.1.2 _ h2]; exact a2, wtS_eq S (fun k _ => by rw [h.1.1 _ (by decide) (by decide)]) a3, a4⟩
theorem mSg_f {b : Nat} {acc : List Nat} {I : Nat → Nat → Int32} {k : Nat} {v : Int32} (h : mSg b acc I) (hk : k ≠ 21) : mSg b acc (up2 I 100 k v) := by
  refine ⟨by rw [up2_v, if_neg (by omega)]; exact h.1, fun j hj => by rw [up2_ne _ _ _ (by decide)]; exact h.2 j hj⟩
theorem wtS_f {S : List Nat} {I : Nat → Nat → Int32} {k : Nat} {v : Int32} (h : wtS I S) : wtS (up2 I 100 k v) S := wtS_eq S (fun k _ => by rw [up2_ne _ _ _ (by decide)]) h
set_option maxHeartbeats 1000000 in
theorem c_M_whole (E : zE) (K N : Nat → Nat) (Rf : Nat → Nat → Option Nat) (I : Nat → Nat → Int32) (L : Nat → Nat → Int64) {b : Nat} {acc S : List Nat} (hs : mSg b acc I) (hS : mSt S I) (hb : b + acc.length + S.length ≤ 600) (hS1 : S.length ≤ 101) : zCt E mX12_whole 1 0 0 (sg K N Rf I L) [.ref 100] (fun r σ' => ∃ I', σ' = sg K N Rf I' L ∧ r = none ∧ mSg b (acc ++ (whl S).2) I' ∧ mSt (whl S).1 I' ∧ frS [21, 22, 23] b I I') := by
  refine z_intro (by decide) (Nat.le_of_ble_eq_true rfl) (fun X hX => ?_)
  have hl : ∀ (S1 acc1 : List Nat) (I1 : Nat → Nat → Int32), mSg b acc1 I1 → mSt S1 I1 → b + acc1.length + S1.length ≤ 600 → S1.length ≤ 101 → (acc1 ++ (whl S1).2, (whl S1).1) = (acc ++ (whl S).2, (whl S).1) → frS [21, 22, 23] b I I1 → zS X (sg K N Rf I1 L) 0 0 0 [(0, .ref 100)] [] := by
    intro S1
    induction S1 with
    | nil =>
      intro acc1 I1 h1 h2 h3 h4 h5 h6
      obtain ⟨e1, e2⟩ := Prod.mk.inj h5
      refine bk hX lkX12_ok (pc' := 4) [.aload_n 0, .getfield 77] (by decide +kernel) (And.intro trivial ?_)
      rw [h2.1]
      refine if_le hX (48) 52 (by decide +kernel) (by decide) (fun c_4 => ?_) (fun c => absurd (by decide) c)
      exact z_vret hX (by decide +kernel) rfl (by decide) (by decide) (⟨I1, rfl, rfl, by rw [← e1]; exact (List.append_nil acc1).symm ▸ h1, by rw [← e2]; exact h2, h6⟩)
    | cons c S1 ih =>
      intro acc1 I1 h1 h2 h3 h4 h5 h6
      obtain ⟨a1, a2, a3, a4⟩ := h2
      rw [List.length_cons] at h3 h4 a1
      have c128 := a4 c List.mem_cons_self
      have cw : (nI S1.length).toNatClampNeg = S1.length := cl (by omega)
      refine bk hX lkX12_ok (pc' := 4) [.aload_n 0, .getfield 77] (by decide +kernel) (And.intro trivial ?_)
      rw [a1]
      refine if_le hX (48) 52 (by decide +kernel) (by decide) (fun c => absurd c (nI_ge (a := 0) (b := S1.length + 1) (by omega) (by omega))) (fun c_4 => ?_)
      refine bk hX lkX12_ok (pc' := 15) [.aload_n 0, .getfield 71, .aload_n 0, .getfield 77] (by decide +kernel) (And.intro trivial ?_)
      rw [a1]
      refine bk hX lkX12_ok (pc' := 18) [.iconst 1, .isub, .iaload] (by decide +kernel) (And.intro (by rw [i_m1 (n := S1.length + 1) (by omega), Nat.add_sub_cancel]; exact vin 101 (by omega)) (And.intro trivial ?_))
      rw [i_m1 (n := S1.length + 1) (by omega), Nat.add_sub_cancel, cw, show I1 (101 + 20) S1.length = _ from a3.1]
      refine bk hX lkX12_ok (pc' := 20) [.bipush 33] (by decide +kernel) (And.intro trivial ?_)
      refine ic_ne hX (32) 52 (by decide +kernel) (by decide) (fun ce => ?_) (fun ce => ?_)
      · exact z_vret hX (by decide +kernel) rfl (by decide) (by decide) (by
  have hc : ¬ c = 33 := fun z => ce (by rw [z])
  rw [whl_s, if_neg hc] at h5
  obtain ⟨e1, e2⟩ := Prod.mk.inj h5
  exact ⟨I1, rfl, rfl, by rw [← e1]; simpa using h1, by rw [← e2]; exact ⟨by rw [List.length_cons]; exact a1, a2, a3, a4⟩, h6⟩)
      · have hc : c = 33 := nI_inj (b := 33) (by omega) (by decide) ce
        subst hc
        rw [whl_s, if_pos rfl] at h5
        refine bk hX lkX12_ok (pc' := 26) [.aload_n 0, .bipush (Int.negSucc 32)] (by decide +kernel) (And.intro trivial ?_)
        refine z_callV hX kw_X12_258 (c_M_emits E K N Rf I1 L h1 (by omega) 0) rfl rfl rfl rfl rfl (by decide +kernel) (by decide) (by decide) (by decide) (by decide) (Nat.le_of_ble_eq_true rfl) ?_
        rintro _ _ ⟨I2, rfl, rfl, q1, q2⟩
        refine bk hX lkX12_ok (pc' := 49) [.aload_n 0, .dup, .getfield 77, .iconst 1, .isub, .putfield 77, .aload_n 0, .dup, .getfield 80, .iconst 1, .isub, .putfield 80] (by decide +kernel) (And.intro trivial ?_)
        refine gt_ hX (-49) 0 (by decide +kernel) (by decide) ?_
        refine z_lvk (lv' := [(0, _)]) [0] rfl ?_
        have b1 : I2 100 22 = nI (S1.length + 1) := by rw [q2.1.2 _ (by decide)]; exact a1
        have b2 : I2 100 23 = nI (1 + opn S1) := by rw [q2.1.2 _ (by decide), a2]; rfl
        rw [show I2 100 22 - nI 1 = nI S1.length by rw [b1, i_m1 (n := S1.length + 1) (by omega), Nat.add_sub_cancel]]
        have b3 : up2 I2 100 22 (nI S1.length) 100 23 - nI 1 = nI (opn S1) := by rw [up2_v, if_neg (by omega), b2, i_m1 (n := 1 + opn S1) (by omega), Nat.add_sub_cancel_left]
        rw [b3]
        refine ih (acc1 ++ [0]) _ (mSg_f (mSg_f q1 (by decide)) (by decide)) ⟨by simp [up2_v], by simp [up2_v], ?_, fun x hx => a4 x (List.mem_cons_of_mem _ hx)⟩ (by rw [List.length_append, List.length_singleton]; omega) (by omega) (by rw [← h5]; simp) (frS_tr h6 (frS_tr (frS_mo q2 (by decide) (by omega)) (frS_tr (frS_f (by decide)) (frS_f (by decide)))))
        exact wtS_f (wtS_f (wtS_eq S1 (fun k _ => by rw [q2.1.1 _ (by decide) (by decide)]) a3.2))
  exact hl S acc I hs hS hb hS1 rfl (frS_rf _ _ _)
set_option maxHeartbeats 1000000 in
theorem c_M_settle (E : zE) (K N : Nat → Nat) (Rf : Nat → Nat → Option Nat) (I : Nat → Nat → Int32) (L : Nat → Nat → Int64) {b : Nat} {acc S : List Nat} (hs : mSg b acc I) (hS : mSt S I) (hb : b + acc.length + S.length ≤ 600) (hS1 : S.length ≤ 101) {s : Nat} (hs1 : s < 128) : zCt E mX12_settle 1 0 0 (sg K N Rf I L) [.ref 100, .int (nI s)] (fun r σ' => ∃ I', σ' = sg K N Rf I' L ∧ r = none ∧ mSg b (acc ++ (stl s S).2) I' ∧ mSt (stl s S).1 I' ∧ frS [21, 22, 23] b I I') := by
  refine z_intro (by decide) (Nat.le_of_ble_eq_true rfl) (fun X hX => ?_)
  have hl : ∀ (S1 acc1 : List Nat) (I1 : Nat → Nat → Int32), mSg b acc1 I1 → mSt S1 I1 → b + acc1.length + S1.length ≤ 600 → S1.length ≤ 101 → (acc1 ++ (stl s S1).2, (stl s S1).1) = (acc ++ (stl s S).2, (stl s S).1) → frS [21, 22, 23] b I I1 → zS X (sg K N Rf I1 L) 0 0 0 [(0, .ref 100), (1, .int (nI s))] [] := by
    intro S1
    induction S1 with
    | nil =>
      intro acc1 I1 h1 h2 h3 h4 h5 h6
      obtain ⟨e1, e2⟩ := Prod.mk.inj h5
      refine bk hX lkX12_ok (pc' := 4) [.aload_n 0, .getfield 77] (by decide +kernel) (And.intro trivial ?_)
      rw [h2.1]
      refine if_le hX (68) 72 (by decide +kernel) (by decide) (fun c_4 => ?_) (fun c => absurd (by decide) c)
      exact z_vret hX (by decide +kernel) rfl (by decide) (by decide) (⟨I1, rfl, rfl, by rw [← e1]; exact (List.append_nil acc1).symm ▸ h1, by rw [← e2]; exact h2, h6⟩)
    | cons c S1 ih =>
      intro acc1 I1 h1 h2 h3 h4 h5 h6
      obtain ⟨a1, a2, a3, a4⟩ := h2
      rw [List.length_cons] at h3 h4 a1
      have c128 := a4 c List.mem_cons_self
      have cw : (nI S1.length).toNatClampNeg = S1.length := cl (by omega)
      have hgo : ∀ k, -nI c = tk2 k → opn (c :: S1) = opn S1 → (acc1 ++ (k :: (stl s S1).2), (stl s S1).1) = (acc ++ (stl s S).2, (stl s S).1) → zS X (sg K N Rf I1 L) 0 0 45 [(0, .ref 100), (1, .int (nI s))] [] := by
        intro k hk ho h7
        rw [ho] at a2
        have hF : frS [21, 22, 23] b I1 (up2 I1 100 22 (nI S1.length)) := frS_f (by decide)
        refine bk hX lkX12_ok (pc' := 52) [.aload_n 0, .dup, .getfield 77, .iconst 1, .isub] (by decide +kernel) (And.intro trivial ?_)
        rw [a1, i_m1 (n := S1.length + 1) (by omega), Nat.add_sub_cancel]
        refine bk hX lkX12_ok (pc' := 65) [.putfield 77, .aload_n 0, .aload_n 0, .getfield 71, .aload_n 0, .getfield 77, .iaload] (by decide +kernel) (And.intro (by rw [up2_self]; exact vin 101 (by omega)) (And.intro trivial ?_))
        rw [up2_self, cw, show up2 I1 100 22 (nI S1.length) (101 + 20) S1.length = nI c by rw [up2_ne _ _ _ (by decide)]; exact a3.1]
        refine bk hX lkX12_ok (pc' := 66) [.ineg] (by decide +kernel) (And.intro trivial ?_)
        rw [hk]
        refine z_callV hX kw_X12_258 (c_M_emits E K N Rf _ L (mSg_f h1 (by decide)) (by omega) k) rfl rfl rfl rfl rfl (by decide +kernel) (by decide) (by decide) (by decide) (by decide) (Nat.le_of_ble_eq_true rfl) ?_
        rintro _ _ ⟨I2, rfl, rfl, q1, q2⟩
        refine gt_ hX (-69) 0 (by decide +kernel) (by decide) ?_
        refine z_lvk (lv' := [(0, _), (1, _)]) [0, 1] rfl ?_
        refine ih (acc1 ++ [k]) I2 q1 ⟨by rw [q2.1.2 _ (by decide), up2_self], by rw [q2.1.2 _ (by decide), up2_v, if_neg (by omega)]; exact a2, ?_, fun x hx => a4 x (List.mem_cons_of_mem _ hx)⟩ (by rw [List.length_append, List.length_singleton]; omega) (by omega) (by rw [← h7]; simp) (frS_tr h6 (frS_tr hF (frS_mo q2 (by decide) (by omega))))
        exact wtS_eq S1 (fun k _ => by rw [q2.1.1 _ (by decide) (by decide), up2_ne _ _ _ (by decide)]) a3.2
      have hst : ¬ c = 38 → ¬ (c = 124 ∧ s ≠ 38) → zS X (sg K N Rf I1 L) 0 0 72 [(0, .ref 100), (1, .int (nI s))] [] := by
        intro g1 g2
        rw [stl_s, if_neg g1, if_neg g2] at h5
        obtain ⟨e1, e2⟩ := Prod.mk.inj h5
        exact z_vret hX (by decide +kernel) rfl (by decide) (by decide) (⟨I1, rfl, rfl, by rw [← e1]; simpa using h1, by rw [← e2]; exact ⟨by rw [List.length_cons]; exact a1, a2, a3, a4⟩, h6⟩)
      refine bk hX lkX12_ok (pc' := 4) [.aload_n 0, .getfield 77] (by decide +kernel) (And.intro trivial ?_)
      rw [a1]
      refine if_le hX (68) 72 (by decide +kernel) (by decide) (fun c => absurd c (nI_ge (a := 0) (b := S1.length + 1) (by omega) (by omega))) (fun c_4 => ?_)
      refine bk hX lkX12_ok (pc' := 15) [.aload_n 0, .getfield 71, .aload_n 0, .getfield 77] (by decide +kernel) (And.intro trivial ?_)
      rw [a1]
      refine bk hX lkX12_ok (pc' := 18) [.iconst 1, .isub, .iaload] (by decide +kernel) (And.intro (by rw [i_m1 (n := S1.length + 1) (by omega), Nat.add_sub_cancel]; exact vin 101 (by omega)) (And.intro trivial ?_))
      rw [i_m1 (n := S1.length + 1) (by omega), Nat.add_sub_cancel, cw, show I1 (101 + 20) S1.length = _ from a3.1]
      refine bk hX lkX12_ok (pc' := 20) [.bipush 38] (by decide +kernel) (And.intro trivial ?_)
      refine ic_eq hX (25) 45 (by decide +kernel) (by decide) (fun ce => ?_) (fun ce => ?_)
      · refine z_lvk (lv' := [(0, _), (1, _)]) [0, 1] rfl ?_
        first
          | (have hc : c = 38 := nI_inj (b := 38) (by omega) (by decide) ce
             rw [stl_s, if_pos hc] at h5
             exact hgo 1 (by rw [hc]; rfl) (by rw [hc]; exact Nat.zero_add _) h5)
          | (have hc0 : ¬ c = 38 := fun z => ce (by rw [z])
             have hc : c = 124 := nI_inj (b := 124) (by omega) (by decide) cf
             have hs2 : s ≠ 38 := fun z => cs (by rw [z])
             rw [stl_s, if_neg hc0, if_pos ⟨hc, hs2⟩] at h5
             exact hgo 2 (by rw [hc]; rfl) (by rw [hc]; exact Nat.zero_add _) h5)
      · refine bk hX lkX12_ok (pc' := 31) [.aload_n 0, .getfield 71, .aload_n 0, .getfield 77] (by decide +kernel) (And.intro trivial ?_)
        rw [a1]
        refine bk hX lkX12_ok (pc' := 34) [.iconst 1, .isub, .iaload] (by decide +kernel) (And.intro (by rw [i_m1 (n := S1.length + 1) (by omega), Nat.add_sub_cancel]; exact vin 101 (by omega)) (And.intro trivial ?_))
        rw [i_m1 (n := S1.length + 1) (by omega), Nat.add_sub_cancel, cw, show I1 (101 + 20) S1.length = _ from a3.1]
        refine bk hX lkX12_ok (pc' := 36) [.bipush 124] (by decide +kernel) (And.intro trivial ?_)
        refine ic_ne hX (36) 72 (by decide +kernel) (by decide) (fun cf => ?_) (fun cf => ?_)
        · refine z_lvk (lv' := [(0, _), (1, _)]) [0, 1] rfl ?_
          have hc0 : ¬ c = 38 := fun z => ce (by rw [z])
          first
            | exact hst hc0 (fun z => cf (by rw [z.1]))
            | exact hst hc0 (fun z => z.2 (nI_inj (b := 38) (by omega) (by decide) cs))
        · refine bk hX lkX12_ok (pc' := 42) [.iload_n 1, .bipush 38] (by decide +kernel) (And.intro trivial ?_)
          refine ic_eq hX (30) 72 (by decide +kernel) (by decide) (fun cs => ?_) (fun cs => ?_)
          · refine z_lvk (lv' := [(0, _), (1, _)]) [0, 1] rfl ?_
            have hc0 : ¬ c = 38 := fun z => ce (by rw [z])
            first
              | exact hst hc0 (fun z => cf (by rw [z.1]))
              | exact hst hc0 (fun z => z.2 (nI_inj (b := 38) (by omega) (by decide) cs))
          · refine z_lvk (lv' := [(0, _), (1, _)]) [0, 1] rfl ?_
            first
              | (have hc : c = 38 := nI_inj (b := 38) (by omega) (by decide) ce
                 rw [stl_s, if_pos hc] at h5
                 exact hgo 1 (by rw [hc]; rfl) (by rw [hc]; exact Nat.zero_add _) h5)
              | (have hc0 : ¬ c = 38 := fun z => ce (by rw [z])
                 have hc : c = 124 := nI_inj (b := 124) (by omega) (by decide) cf
                 have hs2 : s ≠ 38 := fun z => cs (by rw [z])
                 rw [stl_s, if_neg hc0, if_pos ⟨hc, hs2⟩] at h5
                 exact hgo 2 (by rw [hc]; rfl) (by rw [hc]; exact Nat.zero_add _) h5)
  exact hl S acc I hs hS hb hS1 rfl (frS_rf _ _ _)
theorem plc_of {c : Nat} : c = 99 ∨ c = 100 ∨ c = 101 ∨ c = 102 ∨ c = 103 ∨ c = 104 ∨ c = 105 ∨ c = 106 ∨ c = 107 ∨ c = 108 ∨ c = 109 ∨ c = 110 ∨ c = 111 ∨ c = 112 ∨ c = 113 ∨ c = 114 ∨ c = 115 ∨ c = 116 ∨ c = 117 ∨ c = 118 ∨ (c < 99 ∨ 118 < c) := by omega
def plI (c : Nat) : Int32 := if plc c = 9 then -nI 1 else nI (plc c)
theorem plI_out {c : Nat} (hc : c < 99 ∨ 118 < c) : plI c = -nI 1 := by
  have h : plc c = 9 := by
    unfold plc
    rw [if_neg (by omega), if_neg (by omega), if_neg (by omega), if_neg (by omega), if_neg (by omega), if_neg (by omega)]
  unfold plI
  rw [if_pos h]
theorem nxI_out {c : Nat} (h2 : c ≤ 200) (hc : c < 99 ∨ 118 < c) : (nxI c).toInt < 99 ∨ 118 < (nxI c).toInt := by
  unfold nxI
  split
  · exact Or.inl (by decide)
  · rw [nI_toInt (by omega)]; omega
theorem c_M_place (E : zE) (σ : Sg) (a : Nat) {c : Nat} (hc : c ≤ 200) : zCt E mX12_place 0 0 0 σ [.ref a, .int (nxI c)] (fun r σ' => σ' = σ ∧ r = some (.int (plI c))) := by
  refine z_intro (by decide) (Nat.le_of_ble_eq_true rfl) (fun X hX => ?_)
  refine bk hX lkX12_ok (pc' := 1) [.iload_n 1] (by decide +kernel) (And.intro trivial ?_)
  rcases plc_of (c := c) with rfl | rfl | rfl | rfl | rfl | rfl | rfl | rfl | rfl | rfl | rfl | rfl | rfl | rfl | rfl | rfl | rfl | rfl | rfl | rfl | hn
  · refine z_tsw hX 98 (dflt := 107) (lo := 99) (hi := 118) (offs := #[97, 105, 107, 107, 107, 103, 107, 107, 99, 107, 107, 107, 107, 95, 107, 107, 107, 107, 107, 101]) (len := 95) (off := 97) (by decide +kernel) (by decide) (by decide) ?_
    refine bk hX lkX12_ok (pc' := 99) [.iconst 1] (by decide +kernel) (And.intro trivial ?_)
    exact z_iret hX (by decide +kernel) rfl (rfl) (by decide) (by decide) (by first | exact ⟨rfl, rfl⟩ | exact ⟨rfl, by rw [plI_out hn]⟩)
  · refine z_tsw hX 106 (dflt := 107) (lo := 99) (hi := 118) (offs := #[97, 105, 107, 107, 107, 103, 107, 107, 99, 107, 107, 107, 107, 95, 107, 107, 107, 107, 107, 101]) (len := 95) (off := 105) (by decide +kernel) (by decide) (by decide) ?_
    refine bk hX lkX12_ok (pc' := 107) [.iconst 5] (by decide +kernel) (And.intro trivial ?_)
    exact z_iret hX (by decide +kernel) rfl (rfl) (by decide) (by decide) (by first | exact ⟨rfl, rfl⟩ | exact ⟨rfl, by rw [plI_out hn]⟩)
  · refine z_tsw hX 108 (dflt := 107) (lo := 99) (hi := 118) (offs := #[97, 105, 107, 107, 107, 103, 107, 107, 99, 107, 107, 107, 107, 95, 107, 107, 107, 107, 107, 101]) (len := 95) (off := 107) (by decide +kernel) (by decide) (by decide) ?_
    refine bk hX lkX12_ok (pc' := 109) [.iconst (Int.negSucc 0)] (by decide +kernel) (And.intro trivial ?_)
    exact z_iret hX (by decide +kernel) rfl (rfl) (by decide) (by decide) (by first | exact ⟨rfl, rfl⟩ | exact ⟨rfl, by rw [plI_out hn]⟩)
  · refine z_tsw hX 108 (dflt := 107) (lo := 99) (hi := 118) (offs := #[97, 105, 107, 107, 107, 103, 107, 107, 99, 107, 107, 107, 107, 95, 107, 107, 107, 107, 107, 101]) (len := 95) (off := 107) (by decide +kernel) (by decide) (by decide) ?_
    refine bk hX lkX12_ok (pc' := 109) [.iconst (Int.negSucc 0)] (by decide +kernel) (And.intro trivial ?_)
    exact z_iret hX (by decide +kernel) rfl (rfl) (by decide) (by decide) (by first | exact ⟨rfl, rfl⟩ | exact ⟨rfl, by rw [plI_out hn]⟩)
  · refine z_tsw hX 108 (dflt := 107) (lo := 99) (hi := 118) (offs := #[97, 105, 107, 107, 107, 103, 107, 107, 99, 107, 107, 107, 107, 95, 107, 107, 107, 107, 107, 101]) (len := 95) (off := 107) (by decide +kernel) (by decide) (by decide) ?_
    refine bk hX lkX12_ok (pc' := 109) [.iconst (Int.negSucc 0)] (by decide +kernel) (And.intro trivial ?_)
    exact z_iret hX (by decide +kernel) rfl (rfl) (by decide) (by decide) (by first | exact ⟨rfl, rfl⟩ | exact ⟨rfl, by rw [plI_out hn]⟩)
  · refine z_tsw hX 104 (dflt := 107) (lo := 99) (hi := 118) (offs := #[97, 105, 107, 107, 107, 103, 107, 107, 99, 107, 107, 107, 107, 95, 107, 107, 107, 107, 107, 101]) (len := 95) (off := 103) (by decide +kernel) (by decide) (by decide) ?_
    refine bk hX lkX12_ok (pc' := 105) [.iconst 4] (by decide +kernel) (And.intro trivial ?_)
    exact z_iret hX (by decide +kernel) rfl (rfl) (by decide) (by decide) (by first | exact ⟨rfl, rfl⟩ | exact ⟨rfl, by rw [plI_out hn]⟩)
  · refine z_tsw hX 108 (dflt := 107) (lo := 99) (hi := 118) (offs := #[97, 105, 107, 107, 107, 103, 107, 107, 99, 107, 107, 107, 107, 95, 107, 107, 107, 107, 107, 101]) (len := 95) (off := 107) (by decide +kernel) (by decide) (by decide) ?_
    refine bk hX lkX12_ok (pc' := 109) [.iconst (Int.negSucc 0)] (by decide +kernel) (And.intro trivial ?_)
    exact z_iret hX (by decide +kernel) rfl (rfl) (by decide) (by decide) (by first | exact ⟨rfl, rfl⟩ | exact ⟨rfl, by rw [plI_out hn]⟩)
  · refine z_tsw hX 108 (dflt := 107) (lo := 99) (hi := 118) (offs := #[97, 105, 107, 107, 107, 103, 107, 107, 99, 107, 107, 107, 107, 95, 107, 107, 107, 107, 107, 101]) (len := 95) (off := 107) (by decide +kernel) (by decide) (by decide) ?_
    refine bk hX lkX12_ok (pc' := 109) [.iconst (Int.negSucc 0)] (by decide +kernel) (And.intro trivial ?_)
    exact z_iret hX (by decide +kernel) rfl (rfl) (by decide) (by decide) (by first | exact ⟨rfl, rfl⟩ | exact ⟨rfl, by rw [plI_out hn]⟩)
  · refine z_tsw hX 100 (dflt := 107) (lo := 99) (hi := 118) (offs := #[97, 105, 107, 107, 107, 103, 107, 107, 99, 107, 107, 107, 107, 95, 107, 107, 107, 107, 107, 101]) (len := 95) (off := 99) (by decide +kernel) (by decide) (by decide) ?_
    refine bk hX lkX12_ok (pc' := 101) [.iconst 2] (by decide +kernel) (And.intro trivial ?_)
    exact z_iret hX (by decide +kernel) rfl (rfl) (by decide) (by decide) (by first | exact ⟨rfl, rfl⟩ | exact ⟨rfl, by rw [plI_out hn]⟩)
  · refine z_tsw hX 108 (dflt := 107) (lo := 99) (hi := 118) (offs := #[97, 105, 107, 107, 107, 103, 107, 107, 99, 107, 107, 107, 107, 95, 107, 107, 107, 107, 107, 101]) (len := 95) (off := 107) (by decide +kernel) (by decide) (by decide) ?_
    refine bk hX lkX12_ok (pc' := 109) [.iconst (Int.negSucc 0)] (by decide +kernel) (And.intro trivial ?_)
    exact z_iret hX (by decide +kernel) rfl (rfl) (by decide) (by decide) (by first | exact ⟨rfl, rfl⟩ | exact ⟨rfl, by rw [plI_out hn]⟩)
  · refine z_tsw hX 108 (dflt := 107) (lo := 99) (hi := 118) (offs := #[97, 105, 107, 107, 107, 103, 107, 107, 99, 107, 107, 107, 107, 95, 107, 107, 107, 107, 107, 101]) (len := 95) (off := 107) (by decide +kernel) (by decide) (by decide) ?_
    refine bk hX lkX12_ok (pc' := 109) [.iconst (Int.negSucc 0)] (by decide +kernel) (And.intro trivial ?_)
    exact z_iret hX (by decide +kernel) rfl (rfl) (by decide) (by decide) (by first | exact ⟨rfl, rfl⟩ | exact ⟨rfl, by rw [plI_out hn]⟩)
  · refine z_tsw hX 108 (dflt := 107) (lo := 99) (hi := 118) (offs := #[97, 105, 107, 107, 107, 103, 107, 107, 99, 107, 107, 107, 107, 95, 107, 107, 107, 107, 107, 101]) (len := 95) (off := 107) (by decide +kernel) (by decide) (by decide) ?_
    refine bk hX lkX12_ok (pc' := 109) [.iconst (Int.negSucc 0)] (by decide +kernel) (And.intro trivial ?_)
    exact z_iret hX (by decide +kernel) rfl (rfl) (by decide) (by decide) (by first | exact ⟨rfl, rfl⟩ | exact ⟨rfl, by rw [plI_out hn]⟩)
  · refine z_tsw hX 108 (dflt := 107) (lo := 99) (hi := 118) (offs := #[97, 105, 107, 107, 107, 103, 107, 107, 99, 107, 107, 107, 107, 95, 107, 107, 107, 107, 107, 101]) (len := 95) (off := 107) (by decide +kernel) (by decide) (by decide) ?_
    refine bk hX lkX12_ok (pc' := 109) [.iconst (Int.negSucc 0)] (by decide +kernel) (And.intro trivial ?_)
    exact z_iret hX (by decide +kernel) rfl (rfl) (by decide) (by decide) (by first | exact ⟨rfl, rfl⟩ | exact ⟨rfl, by rw [plI_out hn]⟩)
  · refine z_tsw hX 96 (dflt := 107) (lo := 99) (hi := 118) (offs := #[97, 105, 107, 107, 107, 103, 107, 107, 99, 107, 107, 107, 107, 95, 107, 107, 107, 107, 107, 101]) (len := 95) (off := 95) (by decide +kernel) (by decide) (by decide) ?_
    refine bk hX lkX12_ok (pc' := 97) [.iconst 0] (by decide +kernel) (And.intro trivial ?_)
    exact z_iret hX (by decide +kernel) rfl (rfl) (by decide) (by decide) (by first | exact ⟨rfl, rfl⟩ | exact ⟨rfl, by rw [plI_out hn]⟩)
  · refine z_tsw hX 108 (dflt := 107) (lo := 99) (hi := 118) (offs := #[97, 105, 107, 107, 107, 103, 107, 107, 99, 107, 107, 107, 107, 95, 107, 107, 107, 107, 107, 101]) (len := 95) (off := 107) (by decide +kernel) (by decide) (by decide) ?_
    refine bk hX lkX12_ok (pc' := 109) [.iconst (Int.negSucc 0)] (by decide +kernel) (And.intro trivial ?_)
    exact z_iret hX (by decide +kernel) rfl (rfl) (by decide) (by decide) (by first | exact ⟨rfl, rfl⟩ | exact ⟨rfl, by rw [plI_out hn]⟩)
  · refine z_tsw hX 108 (dflt := 107) (lo := 99) (hi := 118) (offs := #[97, 105, 107, 107, 107, 103, 107, 107, 99, 107, 107, 107, 107, 95, 107, 107, 107, 107, 107, 101]) (len := 95) (off := 107) (by decide +kernel) (by decide) (by decide) ?_
    refine bk hX lkX12_ok (pc' := 109) [.iconst (Int.negSucc 0)] (by decide +kernel) (And.intro trivial ?_)
    exact z_iret hX (by decide +kernel) rfl (rfl) (by decide) (by decide) (by first | exact ⟨rfl, rfl⟩ | exact ⟨rfl, by rw [plI_out hn]⟩)
  · refine z_tsw hX 108 (dflt := 107) (lo := 99) (hi := 118) (offs := #[97, 105, 107, 107, 107, 103, 107, 107, 99, 107, 107, 107, 107, 95, 107, 107, 107, 107, 107, 101]) (len := 95) (off := 107) (by decide +kernel) (by decide) (by decide) ?_
    refine bk hX lkX12_ok (pc' := 109) [.iconst (Int.negSucc 0)] (by decide +kernel) (And.intro trivial ?_)
    exact z_iret hX (by decide +kernel) rfl (rfl) (by decide) (by decide) (by first | exact ⟨rfl, rfl⟩ | exact ⟨rfl, by rw [plI_out hn]⟩)
  · refine z_tsw hX 108 (dflt := 107) (lo := 99) (hi := 118) (offs := #[97, 105, 107, 107, 107, 103, 107, 107, 99, 107, 107, 107, 107, 95, 107, 107, 107, 107, 107, 101]) (len := 95) (off := 107) (by decide +kernel) (by decide) (by decide) ?_
    refine bk hX lkX12_ok (pc' := 109) [.iconst (Int.negSucc 0)] (by decide +kernel) (And.intro trivial ?_)
    exact z_iret hX (by decide +kernel) rfl (rfl) (by decide) (by decide) (by first | exact ⟨rfl, rfl⟩ | exact ⟨rfl, by rw [plI_out hn]⟩)
  · refine z_tsw hX 108 (dflt := 107) (lo := 99) (hi := 118) (offs := #[97, 105, 107, 107, 107, 103, 107, 107, 99, 107, 107, 107, 107, 95, 107, 107, 107, 107, 107, 101]) (len := 95) (off := 107) (by decide +kernel) (by decide) (by decide) ?_
    refine bk hX lkX12_ok (pc' := 109) [.iconst (Int.negSucc 0)] (by decide +kernel) (And.intro trivial ?_)
    exact z_iret hX (by decide +kernel) rfl (rfl) (by decide) (by decide) (by first | exact ⟨rfl, rfl⟩ | exact ⟨rfl, by rw [plI_out hn]⟩)
  · refine z_tsw hX 102 (dflt := 107) (lo := 99) (hi := 118) (offs := #[97, 105, 107, 107, 107, 103, 107, 107, 99, 107, 107, 107, 107, 95, 107, 107, 107, 107, 107, 101]) (len := 95) (off := 101) (by decide +kernel) (by decide) (by decide) ?_
    refine bk hX lkX12_ok (pc' := 103) [.iconst 3] (by decide +kernel) (And.intro trivial ?_)
    exact z_iret hX (by decide +kernel) rfl (rfl) (by decide) (by decide) (by first | exact ⟨rfl, rfl⟩ | exact ⟨rfl, by rw [plI_out hn]⟩)
  · refine z_tsw hX 108 (dflt := 107) (lo := 99) (hi := 118) (offs := #[97, 105, 107, 107, 107, 103, 107, 107, 99, 107, 107, 107, 107, 95, 107, 107, 107, 107, 107, 101]) (len := 95) (off := 107) (by decide +kernel) (Or.inl ⟨nxI_out hc hn, rfl⟩) (by decide) ?_
    refine bk hX lkX12_ok (pc' := 109) [.iconst (Int.negSucc 0)] (by decide +kernel) (And.intro trivial ?_)
    exact z_iret hX (by decide +kernel) rfl (rfl) (by decide) (by decide) (by first | exact ⟨rfl, rfl⟩ | exact ⟨rfl, by rw [plI_out hn]⟩)
theorem mSg_fr {b : Nat} {acc : List Nat} {Fs : List Nat} {I I' : Nat → Nat → Int32} (h : frX [] Fs I I') (h1 : 21 ∉ Fs) (hS : mSg b acc I) : mSg b acc I' := ⟨by rw [h.2 _ h1]; exact hS.1, fun k hk => by rw [h.1 _ (by decide) (by decide)]; exact hS.2 k hk⟩
theorem mSt_f2 {S : List Nat} {Fs : List Nat} {I I' : Nat → Nat → Int32} (h : frX [] Fs I I') (h1 : 22 ∉ Fs) (h2 : 23 ∉ Fs) (hS : mSt S I) : mSt S I' := mSt_fr (b := 0) (Fs := Fs) ⟨frX_mo h (fun _ z => by cases z) (fun _ z => z), fun k hk => by rw [h.1 _ (by decide) (by decide)]⟩ h1 h2 hS
theorem frS_0 {Fs Fs' : List Nat} {b : Nat} {I I' : Nat → Nat → Int32} (h : frX [] Fs I I') (h2 : ∀ x ∈ Fs, x ∈ Fs') : frS Fs' b I I' := ⟨frX_mo h (fun _ z => by cases z) h2, fun k hk => by rw [h.1 _ (by decide) (by decide)]⟩
theorem rl_in {c : Nat} (hc : c ≤ 200) : (nI 60 ≤ nxI c ∧ nxI c ≤ nI 62) ↔ (60 ≤ c ∧ c ≤ 62) := by
  unfold nxI
  split
  · rename_i h
    constructor
    · intro z; exact absurd z.1 (by decide)
    · intro z; omega
  · rw [nI_leI (by omega) (by omega), nI_leI (by omega) (by omega)]
set_option maxHeartbeats 2000000 in
theorem c_M_takesTest (E : zE) (K N : Nat → Nat) (Rf : Nat → Nat → Option Nat) (I : Nat → Nat → Int32) (L : Nat → Nat → Int64) {t : List Nat} (ht : txw t) (hx : mTx t I) {a : Nat} (ha : I 100 11 = nI a) (hal : a ≤ t.length) {b : Nat} {acc S : List Nat} (hs : mSg b acc I) (hS : mSt S I) (hb : b + acc.length + S.length < 600) (hS1 : S.length ≤ 101) : zCt E mX12_takesTest 3 0 0 (sg K N Rf I L) [.ref 100] (fun r σ' => ∃ I', σ' = sg K N Rf I' L ∧ I' 100 11 = nI (pTs t a).2 ∧ frS [11, 12, 21, 22, 23] b I I' ∧ (((pTs t a).1 = none ∧ r = some (.int 0)) ∨ ∃ ts, (pTs t a).1 = some ts ∧ r = some (.int 1) ∧ mSg b (acc ++ ts ++ (whl S).2) I' ∧ mSt (whl S).1 I')) := by
  have hl100 := ht.1
  refine z_intro (by decide) (Nat.le_of_ble_eq_true rfl) (fun X hX => ?_)
  refine bk hX lkX12_ok (pc' := 2) [.aload_n 0, .aload_n 0] (by decide +kernel) (And.intro trivial ?_)
  refine z_callV hX kw_X12_247 (c_M_next E K N Rf I L ht hx ha hal) rfl rfl rfl rfl rfl (by decide +kernel) (by decide) (by decide) (by decide) (by decide) (Nat.le_of_ble_eq_true rfl) ?_
  rintro _ _ ⟨rfl, rfl⟩
  refine z_callV hX kw_X12_262 (c_M_place E _ _ (nx_le ht a)) rfl rfl rfl rfl rfl (by decide +kernel) (by decide) (by decide) (by decide) (by decide) (Nat.le_of_ble_eq_true rfl) ?_
  rintro _ _ ⟨rfl, rfl⟩
  refine bk hX lkX12_ok (pc' := 10) [.istore_n 1, .iload_n 1] (by decide +kernel) (And.intro trivial ?_)
  refine if_ge hX (5) 15 (by decide +kernel) (by decide) (fun c1 => ?_) (fun c1 => ?_)
  · have hp : ¬ plc (nx t a) = 9 := fun z => absurd c1 (by unfold plI; rw [if_pos z]; decide)
    obtain ⟨l1, l5⟩ := plc_in hp
    have hpI : plI (nx t a) = nI (plc (nx t a)) := by unfold plI; rw [if_neg hp]
    refine bk hX lkX12_ok (pc' := 25) [.aload_n 0, .dup, .getfield 44, .iconst 1, .iadd, .putfield 44] (by decide +kernel) (And.intro trivial ?_)
    rw [ha, nI_add]
    have f1 : frX [] [11] I (up2 I 100 11 (nI (a + 1))) := frX_f (by decide)
    have x1 := mTx_at hx f1 (by decide) (by decide)
    refine bk hX lkX12_ok (pc' := 26) [.aload_n 0] (by decide +kernel) (And.intro trivial ?_)
    refine z_callV hX kw_X12_247 (c_M_next E K N Rf _ L ht x1 (up2_self _ _ _ _) (by omega)) rfl rfl rfl rfl rfl (by decide +kernel) (by decide) (by decide) (by decide) (by decide) (Nat.le_of_ble_eq_true rfl) ?_
    rintro _ _ ⟨rfl, rfl⟩
    refine bk hX lkX12_ok (pc' := 36) [.istore_n 2, .aload_n 0, .iload_n 2, .bipush 60, .bipush 62] (by decide +kernel) (And.intro trivial ?_)
    refine z_callV hX kw_X12_228 (c_M_in E _ _ _ _ _) rfl rfl rfl rfl rfl (by decide +kernel) (by decide) (by decide) (by decide) (by decide) (Nat.le_of_ble_eq_true rfl) ?_
    rintro _ _ ⟨rfl, hh⟩
    rw [rl_in (nx_le ht (a + 1))] at hh
    rcases hh with ⟨hr, rfl⟩ | ⟨hr, rfl⟩
    · refine if_ne hX (5) 44 (by decide +kernel) (by decide) (fun c_39 => ?_) (fun c => absurd c (by decide))
      have l2 := nx_in (t := t) (a := a + 1) rfl (by omega)
      refine bk hX lkX12_ok (pc' := 54) [.aload_n 0, .dup, .getfield 44, .iconst 1, .iadd, .putfield 44] (by decide +kernel) (And.intro trivial ?_)
      rw [up2_self, nI_add]
      have f2 : frX [] [11] I (up2 (up2 I 100 11 (nI (a + 1))) 100 11 (nI (a + 1 + 1))) := frX_tr f1 (frX_f (by decide))
      have x2 := mTx_at hx f2 (by decide) (by decide)
      refine bk hX lkX12_ok (pc' := 55) [.aload_n 0] (by decide +kernel) (And.intro trivial ?_)
      refine z_callV hX kw_X12_266 (c_M_takesNumber E K N Rf _ L ht x2 (up2_self _ _ _ _) (by omega)) rfl rfl rfl rfl rfl (by decide +kernel) (by decide) (by decide) (by decide) (by decide) (Nat.le_of_ble_eq_true rfl) ?_
      rintro _ _ ⟨I3, rfl, f3, p3, (⟨g1, rfl⟩ | ⟨n, g1, rfl, g2⟩)⟩
      · have hN : pNm t (a + 2) = (none, (pNm t (a + 2)).2) := Prod.ext g1 rfl
        refine if_ne hX (5) 63 (by decide +kernel) (by decide) (fun c => absurd (by decide) c) (fun c_58 => ?_)
        refine bk hX lkX12_ok (pc' := 62) [.iconst 0] (by decide +kernel) (And.intro trivial ?_)
        exact z_iret hX (by decide +kernel) rfl (rfl) (by decide) (by decide) (by
  refine ⟨I3, rfl, ?_, frS_0 (frX_tr (frX_mo f2 (fun _ z => z) (by decide)) f3) (by decide), Or.inl ⟨?_, rfl⟩⟩
  · unfold pTs; rw [if_neg hp, if_pos hr, hN]; exact p3
  · unfold pTs; rw [if_neg hp, if_pos hr, hN])
      · have hN : pNm t (a + 2) = (some n, (pNm t (a + 2)).2) := Prod.ext g1 rfl
        obtain ⟨n1, n2, n3, n4⟩ := pNm_ok hN
        have f4 : frX [] [11, 12] I I3 := frX_tr (frX_mo f2 (fun _ z => z) (by decide)) f3
        have hT : pTs t a = (some [10 + (1000 * plc (nx t a) + 100 * (nx t (a + 1) - 60) + n)], (pNm t (a + 2)).2) := by
          unfold pTs; rw [if_neg hp, if_pos hr, hN]
        have eT : nI 1000 * plI (nx t a) + nI 100 * (nxI (nx t (a + 1)) - nI 60) + nI n = tk2 (10 + (1000 * plc (nx t a) + 100 * (nx t (a + 1) - 60) + n)) := by
          rw [hpI, show nxI (nx t (a + 1)) = nI (nx t (a + 1)) by unfold nxI; rw [if_neg (by omega)], show nI (nx t (a + 1)) - nI 60 = nI (nx t (a + 1) - 60) from pk_sub (by omega), pk_mul, pk_mul, nI_add, nI_add]
          unfold tk2
          rw [if_neg (by omega), if_neg (by omega), if_neg (by omega), Nat.add_sub_cancel_left]
        refine if_ne hX (5) 63 (by decide +kernel) (by decide) (fun c_58 => ?_) (fun c => absurd c (by decide))
        refine bk hX lkX12_ok (pc' := 82) [.aload_n 0, .sipush 1000, .iload_n 1, .imul, .bipush 100, .iload_n 2, .bipush 60, .isub, .imul, .iadd, .aload_n 0, .getfield 47, .iadd] (by decide +kernel) (And.intro trivial ?_)
        rw [show I3 100 12 = nI n from g2, eT]
        refine z_callV hX kw_X12_258 (c_M_emits E K N Rf I3 L (mSg_fr f4 (by decide) hs) (by omega) _) rfl rfl rfl rfl rfl (by decide +kernel) (by decide) (by decide) (by decide) (by decide) (Nat.le_of_ble_eq_true rfl) ?_
        rintro _ _ ⟨I4, rfl, rfl, q1, q2⟩
        refine bk hX lkX12_ok (pc' := 86) [.aload_n 0] (by decide +kernel) (And.intro trivial ?_)
        refine z_callV hX kw_X12_269 (c_M_whole E K N Rf I4 L q1 (mSt_fr q2 (by decide) (by decide) (mSt_f2 f4 (by decide) (by decide) hS)) (by rw [List.length_append, List.length_singleton]; omega) hS1) rfl rfl rfl rfl rfl (by decide +kernel) (by decide) (by decide) (by decide) (by decide) (Nat.le_of_ble_eq_true rfl) ?_
        rintro _ _ ⟨I5, rfl, rfl, w1, w2, w3⟩
        refine bk hX lkX12_ok (pc' := 90) [.iconst 1] (by decide +kernel) (And.intro trivial ?_)
        exact z_iret hX (by decide +kernel) rfl (rfl) (by decide) (by decide) (⟨I5, rfl, by rw [hT, w3.1.2 _ (by decide), q2.1.2 _ (by decide)]; exact p3, frS_tr (frS_tr (frS_0 f4 (by decide)) (frS_mo q2 (by decide) (by omega))) (frS_mo w3 (by decide) (Nat.le_refl _)), Or.inr ⟨_, by rw [hT], rfl, w1, w2⟩⟩)
    · refine if_ne hX (5) 44 (by decide +kernel) (by decide) (fun c => absurd (by decide) c) (fun c_39 => ?_)
      refine bk hX lkX12_ok (pc' := 43) [.iconst 0] (by decide +kernel) (And.intro trivial ?_)
      exact z_iret hX (by decide +kernel) rfl (rfl) (by decide) (by decide) (⟨_, rfl, by unfold pTs; rw [if_neg hp, if_neg hr, up2_self], frS_0 f1 (by decide), Or.inl ⟨by unfold pTs; rw [if_neg hp, if_neg hr], rfl⟩⟩)
  · refine bk hX lkX12_ok (pc' := 14) [.iconst 0] (by decide +kernel) (And.intro trivial ?_)
    exact z_iret hX (by decide +kernel) rfl (rfl) (by decide) (by decide) (by
  have hp : plc (nx t a) = 9 := by
    by_cases h : plc (nx t a) = 9
    · exact h
    · exact absurd (show 0 ≤ plI (nx t a) by unfold plI; rw [if_neg h]; have := (plc_in h).2; exact nI_le (a := 0) (by omega) (by omega)) c1
  exact ⟨I, rfl, by unfold pTs; rw [if_pos hp]; exact ha, frS_rf _ _ _, Or.inl ⟨by unfold pTs; rw [if_pos hp], rfl⟩⟩)
