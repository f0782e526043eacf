/-! ===== gates follow, rows become ===== -/
theorem rF_at {R R' : Nat → Nat → Option Nat} {q : Nat} (h : R q = R' q) : rF R q = rF R' q := by
  funext k
  have h7 := congrFun h 7
  have hk := congrFun h k
  simp only [rF, rG, Bool.cond_eq_ite, Nat.blt_eq, Nat.beq_eq, Bool.or_eq_true]
  by_cases q1 : q = 300
  · subst q1; simp [h7]
  by_cases q2 : q = 301
  · subst q2; simp [hk]
  by_cases q3 : q = 340
  · subst q3; simp [h7]
  by_cases q4 : q = 341
  · subst q4; simp [hk]
  by_cases q5 : q = 380
  · subst q5; simp [h7]
  by_cases q6 : q = 381
  · subst q6; simp [hk]
  have e1 : ∀ z : Nat, 300 ≤ q → ¬ q - 300 = 0 := fun _ _ => by omega
  rw [hk]
  by_cases c0 : q < 300
  · simp [c0]
  by_cases c1 : q < 340
  · simp [c0, c1, show ¬ q - 300 = 0 by omega, show ¬ q - 300 = 1 by omega]
  by_cases c2 : q < 380
  · simp [c0, c1, c2, show ¬ q - 340 = 0 by omega, show ¬ q - 340 = 1 by omega]
  by_cases c3 : q < 420
  · simp [c0, c1, c2, c3, show ¬ q - 380 = 0 by omega, show ¬ q - 380 = 1 by omega]
  · simp [c0, c1, c2, c3]
theorem up2_rF (R : Nat → Nat → Option Nat) {t : Nat} (ht : t = 301 ∨ t = 341 ∨ t = 381) (k : Nat) (x : Option Nat) : up2 (rF R) t k x = rF (up2 R t k x) := by
  funext q j
  by_cases hq : q = t
  · subst hq
    rw [up2_at]
    have e : ∀ S : Nat → Nat → Option Nat, rF S q j = S q j := fun S => by rcases ht with rfl | rfl | rfl <;> rfl
    rw [e, e, up2_at]
  · rw [up2_ne _ _ _ hq]
    exact congrFun (rF_at (up2_ne R k x hq).symm) j
theorem up2_rF7 (R : Nat → Nat → Option Nat) {t : Nat} (ht : t = 300 ∨ t = 340 ∨ t = 380) (x : Option Nat) : up2 (rF R) t 7 x = rF (up2 R t 7 x) := by
  funext q j
  by_cases hq : q = t
  · subst hq
    rw [up2_at]
    by_cases hj : j = 7
    · subst hj
      rw [if_pos rfl]
      have e : ∀ S : Nat → Nat → Option Nat, rF S q 7 = S q 7 := fun S => by rcases ht with rfl | rfl | rfl <;> rfl
      rw [e, up2_self]
    · rw [if_neg hj]
      have e : ∀ S S' : Nat → Nat → Option Nat, rF S q j = rF S' q j := fun S S' => by
        rcases ht with rfl | rfl | rfl <;> simp [rF, rG, Bool.cond_eq_ite, hj]
      exact e _ _
  · rw [up2_ne _ _ _ hq]
    exact congrFun (rF_at (up2_ne R 7 x hq).symm) j
def xHs (b : Nat) (K : Nat → Nat) (R : Nat → Nat → Option Nat) : Prop := ∀ p, p < 6 → ∀ h, R (b + 1) p = some h → 1000 ≤ h ∧ ∃ k, k ≤ 6 ∧ K h = hci k + 1
def wRn (t o n : Nat) (R : Nat → Nat → Option Nat) : Nat → Nat → Option Nat := fun q k => if q = t + 1 ∧ k < n then R (o + 1) k else R q k
def flR (t o : Nat) (R : Nat → Nat → Option Nat) : Nat → Nat → Option Nat := up2 (wRn t o 6 R) t 7 (R o 7)
def flI (t o : Nat) (I : Nat → Nat → Int32) : Nat → Nat → Int32 := fun q k => if q = t + 2 ∧ k < 6 then I (o + 2) k else if q = t + 3 ∧ k < 6 then I (o + 3) k else if q = t + 4 ∧ k < 24 then I (o + 4) k else if q = t ∧ (k = 4 ∨ k = 5 ∨ k = 6) then I o k else I q k
theorem hand_ok : ∀ k, k ≤ 6 → ∀ cq : vw_C, vwCl[hci k]? = some cq → (cq.1 = "PunchedSouls$Hand" ∨ (cq.1, "PunchedSouls$Hand") ∈ zCa)
  | 0, _, cq, h => by cases h; exact Or.inl rfl
  | 1, _, cq, h => by cases h; exact Or.inr (by decide +kernel)
  | 2, _, cq, h => by cases h; exact Or.inr (by decide +kernel)
  | 3, _, cq, h => by cases h; exact Or.inr (by decide +kernel)
  | 4, _, cq, h => by cases h; exact Or.inr (by decide +kernel)
  | 5, _, cq, h => by cases h; exact Or.inr (by decide +kernel)
  | 6, _, cq, h => by cases h; exact Or.inr (by decide +kernel)
  | n + 7, h, _, _ => absurd h (by omega)
theorem cpy0 (f g : Nat → Int32) (n k : Nat) : va_cpy f g 0 0 n k = if k < n then f k else g k := by
  unfold va_cpy
  simp
theorem cl_0 : (nI 0).toNatClampNeg = 0 := rfl
theorem cl_6 : (nI 6).toNatClampNeg = 6 := rfl
theorem cl_24 : (nI 24).toNatClampNeg = 24 := rfl
theorem wRn_s {t o p : Nat} (hto : t ≠ o) (R : Nat → Nat → Option Nat) {x : Option Nat} (hx : x = R (o + 1) p) : up2 (wRn t o p R) (t + 1) p x = wRn t o (p + 1) R := by
  funext q k
  by_cases hq : q = t + 1
  · subst hq
    rw [up2_at]
    unfold wRn
    by_cases hk : k = p
    · rw [if_pos hk, if_pos ⟨rfl, by omega⟩, hx, hk]
    · rw [if_neg hk]
      by_cases hk2 : k < p
      · rw [if_pos ⟨rfl, hk2⟩, if_pos ⟨rfl, by omega⟩]
      · rw [if_neg (fun z => hk2 z.2), if_neg (fun z => hk2 (by omega))]
  · rw [up2_ne _ _ _ hq]
    unfold wRn
    rw [if_neg (fun z => hq z.1), if_neg (fun z => hq z.1)]
set_option maxHeartbeats 1000000 in
theorem c_F3430 (E : zE) (K N : Nat → Nat) (Rf : Nat → Nat → Option Nat) (I : Nat → Nat → Int32) (L : Nat → Nat → Int64) (hs : xHs 300 K Rf) : zCt E mX1_follow 1 0 0 (sg K N Rf I L) [.ref 340, .ref 300] (fun r σ' => σ' = sg K N (flR 340 300 Rf) (flI 340 300 I) L ∧ r = none) := by
  refine z_intro (by decide) (Nat.le_of_ble_eq_true rfl) (fun X hX => ?_)
  have hR : ∀ (A : Option Nat), A = Rf 300 7 → up2 (rF (wRn 340 300 6 Rf)) 340 7 A = rF (flR 340 300 Rf) := by
    intro A hA
    rw [hA, up2_rF7 _ (Or.inr (Or.inl rfl))]
    rfl
  have r7 : wRn 340 300 6 Rf 300 7 = Rf 300 7 := if_neg (fun z => absurd z.1 (by decide))
  have hl : ∀ m p, p + m = 6 → zS X (sg K N (wRn 340 300 p Rf) I L) 0 0 2 [(0, .ref 340), (1, .ref 300), (2, .int (nI p))] [] := by
    intro m
    induction m with
    | zero =>
      intro p hp
      obtain rfl : p = 6 := by omega
      refine bk hX lkX1_ok (pc' := 5) [.iload_n 2, .bipush 6] (by decide +kernel) (And.intro trivial ?_)
      refine ic_ge hX (21) 26 (by decide +kernel) (by decide) (fun c_5 => ?_) (fun c => absurd (by decide) c)
      refine bk hX lkX1_ok (pc' := 38) [.aload_n 1, .getfield 17, .iconst 0, .aload_n 0, .getfield 17, .iconst 0, .bipush 6] (by decide +kernel) (And.intro trivial ?_)
      refine z_copyI hX kc_X1_50 rfl rfl (by decide) (by decide) (by decide) (Nat.le_of_ble_eq_true rfl) (Nat.le_of_ble_eq_true rfl) (by decide) (by decide +kernel) (by decide +kernel) ?_
      refine bk hX lkX1_ok (pc' := 53) [.aload_n 1, .getfield 21, .iconst 0, .aload_n 0, .getfield 21, .iconst 0, .bipush 6] (by decide +kernel) (And.intro trivial ?_)
      refine z_copyI hX kc_X1_50 rfl rfl (by decide) (by decide) (by decide) (Nat.le_of_ble_eq_true rfl) (Nat.le_of_ble_eq_true rfl) (by decide) (by decide +kernel) (by decide +kernel) ?_
      refine bk hX lkX1_ok (pc' := 68) [.aload_n 1, .getfield 24, .iconst 0, .aload_n 0, .getfield 24, .iconst 0, .bipush 24] (by decide +kernel) (And.intro trivial ?_)
      refine z_copyI hX kc_X1_50 rfl rfl (by decide) (by decide) (by decide) (Nat.le_of_ble_eq_true rfl) (Nat.le_of_ble_eq_true rfl) (by decide) (by decide +kernel) (by decide +kernel) ?_
      refine bk hX lkX1_ok (pc' := 95) [.aload_n 0, .aload_n 1, .getfield 56, .putfield 56, .aload_n 0, .aload_n 1, .getfield 60, .putfield 60, .aload_n 0, .aload_n 1, .getfield 63, .putfield 63] (by decide +kernel) (And.intro trivial ?_)
      refine z_lvk (lv' := [(2, _), (0, _), (1, _)]) [2, 0, 1] rfl ?_
      cases h7 : Rf 300 7 with
      | none =>
        refine bk hX lkX1_ok (pc' := 97) [.aload_n 0, .aload_n 1] (by decide +kernel) (And.intro trivial ?_)
        refine z_gN hX lkX1_ok 66 2 7 (fun k h => h) (rfl) (r7.trans h7) (by decide +kernel) ?_
        refine z_pN hX fe_X1_66 rfl (by decide +kernel) ?_
        exact z_vret hX (by decide +kernel) rfl (by decide) (by decide) (by
            refine ⟨Prod.ext rfl (Prod.ext rfl (Prod.ext ?_ (Prod.ext rfl ?_))), rfl⟩
            · show _ = flI 340 300 I
              funext q k
              simp only [up2, flI, Bool.cond_eq_ite, Bool.and_eq_true, Nat.beq_eq, cl_0, cl_6, cl_24]
              by_cases h1 : q = 342
              · subst h1; simp [cpy0]
              by_cases h2 : q = 343
              · subst h2; simp [cpy0]
              by_cases h3 : q = 344
              · subst h3; simp [cpy0]
              by_cases h4 : q = 340
              · subst h4
                by_cases k4 : k = 4
                · subst k4; simp
                by_cases k5 : k = 5
                · subst k5; simp
                by_cases k6 : k = 6
                · subst k6; simp
                simp [k4, k5, k6]
              simp [h1, h2, h3, h4]
            · exact hR _ h7.symm)
      | some qh =>
        refine bk hX lkX1_ok (pc' := 97) [.aload_n 0, .aload_n 1] (by decide +kernel) (And.intro trivial ?_)
        refine z_gR hX lkX1_ok 66 2 7 (fun k h => h) (rfl) (r7.trans h7) (by decide +kernel) ?_
        refine z_pR hX lkX1_ok (z_no _ _) 66 2 7 (fun k h => h) rfl (rfl) (by decide +kernel) ?_
        exact z_vret hX (by decide +kernel) rfl (by decide) (by decide) (by
            refine ⟨Prod.ext rfl (Prod.ext rfl (Prod.ext ?_ (Prod.ext rfl ?_))), rfl⟩
            · show _ = flI 340 300 I
              funext q k
              simp only [up2, flI, Bool.cond_eq_ite, Bool.and_eq_true, Nat.beq_eq, cl_0, cl_6, cl_24]
              by_cases h1 : q = 342
              · subst h1; simp [cpy0]
              by_cases h2 : q = 343
              · subst h2; simp [cpy0]
              by_cases h3 : q = 344
              · subst h3; simp [cpy0]
              by_cases h4 : q = 340
              · subst h4
                by_cases k4 : k = 4
                · subst k4; simp
                by_cases k5 : k = 5
                · subst k5; simp
                by_cases k6 : k = 6
                · subst k6; simp
                simp [k4, k5, k6]
              simp [h1, h2, h3, h4]
            · exact hR _ h7.symm)
    | succ m ih =>
      intro p hp
      have cp : (nI p).toNatClampNeg = p := cl (by omega)
      have rp : wRn 340 300 p Rf (300 + 1) p = Rf (300 + 1) p := if_neg (fun z => absurd z.1 (by decide))
      cases hp0 : Rf (300 + 1) p with
      | none =>
        refine bk hX lkX1_ok (pc' := 5) [.iload_n 2, .bipush 6] (by decide +kernel) (And.intro trivial ?_)
        refine ic_ge hX (21) 26 (by decide +kernel) (by decide) (fun c => absurd c (nI_ge (a := p) (b := 6) (by omega) (by decide))) (fun c_5 => ?_)
        refine bk hX lkX1_ok (pc' := 18) [.aload_n 0, .getfield 11, .iload_n 2, .aload_n 1, .getfield 11, .iload_n 2] (by decide +kernel) (And.intro trivial ?_)
        refine z_aaldN hX rfl (vin 6 (by omega)) (by rw [cp]; exact rp.trans hp0) (by decide +kernel) ?_
        refine z_aastN hX rfl (vin 6 (by omega)) (by decide +kernel) ?_
        refine bk hX lkX1_ok (pc' := 23) [.iinc 2 1] (by decide +kernel) (And.intro trivial ?_)
        refine gt_ hX (-21) 2 (by decide +kernel) (by decide) ?_
        refine z_lvk (lv' := [(0, _), (1, _), (2, _)]) [1, 2, 0] rfl ?_
        have e := wRn_s (t := 340) (o := 300) (p := p) (by decide) Rf hp0.symm
        have e2 := up2_rF (wRn 340 300 p Rf) (t := 341) (Or.inr (Or.inl rfl)) p none
        rw [nI_add, cp]
        have K1 := ih (p + 1) (by omega)
        rw [← e] at K1
        rw [show ((sg K N (wRn 340 300 p Rf) I L).1, (sg K N (wRn 340 300 p Rf) I L).2.1, (sg K N (wRn 340 300 p Rf) I L).2.2.1, (sg K N (wRn 340 300 p Rf) I L).2.2.2.1, up2 (sg K N (wRn 340 300 p Rf) I L).2.2.2.2 (340 + 1 + 0) p none) = (kF K, nF N, I, L, rF (up2 (wRn 340 300 p Rf) 341 p none)) from congrArg (fun z => (kF K, nF N, I, L, z)) e2]
        exact K1
      | some hq =>
        obtain ⟨h1000, kk, hk6, hKk⟩ := hs p (by omega) hq hp0
        obtain ⟨cq, hcq⟩ := hci_cl kk hk6
        have hks : (sg K N (wRn 340 300 p Rf) I L).1 hq = hci kk + 1 := by rw [← hKk]; exact kF_hi K h1000
        refine bk hX lkX1_ok (pc' := 5) [.iload_n 2, .bipush 6] (by decide +kernel) (And.intro trivial ?_)
        refine ic_ge hX (21) 26 (by decide +kernel) (by decide) (fun c => absurd c (nI_ge (a := p) (b := 6) (by omega) (by decide))) (fun c_5 => ?_)
        refine bk hX lkX1_ok (pc' := 18) [.aload_n 0, .getfield 11, .iload_n 2, .aload_n 1, .getfield 11, .iload_n 2] (by decide +kernel) (And.intro trivial ?_)
        refine z_aald hX (q := hq) (rfl) (vin 6 (by omega)) (by rw [cp]; exact rp.trans hp0) (by decide +kernel) ?_
        refine z_aast hX rfl (vin 6 (by omega)) hks hcq (hand_ok kk hk6 cq hcq) (by decide +kernel) ?_
        refine bk hX lkX1_ok (pc' := 23) [.iinc 2 1] (by decide +kernel) (And.intro trivial ?_)
        refine gt_ hX (-21) 2 (by decide +kernel) (by decide) ?_
        refine z_lvk (lv' := [(0, _), (1, _), (2, _)]) [1, 2, 0] rfl ?_
        have e := wRn_s (t := 340) (o := 300) (p := p) (by decide) Rf hp0.symm
        have e2 := up2_rF (wRn 340 300 p Rf) (t := 341) (Or.inr (Or.inl rfl)) p (some hq)
        rw [nI_add, cp]
        have K1 := ih (p + 1) (by omega)
        rw [← e] at K1
        rw [show ((sg K N (wRn 340 300 p Rf) I L).1, (sg K N (wRn 340 300 p Rf) I L).2.1, (sg K N (wRn 340 300 p Rf) I L).2.2.1, (sg K N (wRn 340 300 p Rf) I L).2.2.2.1, up2 (sg K N (wRn 340 300 p Rf) I L).2.2.2.2 (340 + 1 + 0) p (some hq)) = (kF K, nF N, I, L, rF (up2 (wRn 340 300 p Rf) 341 p (some hq))) from congrArg (fun z => (kF K, nF N, I, L, z)) e2]
        exact K1
  have e0 : wRn 340 300 0 Rf = Rf := by
    funext q k
    exact if_neg (fun z => absurd z.2 (Nat.not_lt_zero _))
  refine bk hX lkX1_ok (pc' := 2) [.iconst 0, .istore_n 2] (by decide +kernel) (And.intro trivial ?_)
  refine z_lvk (lv' := [(0, _), (1, _), (2, _)]) [1, 2, 0] rfl ?_
  have K1 := hl 6 0 (by omega)
  rw [e0] at K1
  exact K1
set_option maxHeartbeats 1000000 in
theorem c_F3830 (E : zE) (K N : Nat → Nat) (Rf : Nat → Nat → Option Nat) (I : Nat → Nat → Int32) (L : Nat → Nat → Int64) (hs : xHs 300 K Rf) : zCt E mX1_follow 1 0 0 (sg K N Rf I L) [.ref 380, .ref 300] (fun r σ' => σ' = sg K N (flR 380 300 Rf) (flI 380 300 I) L ∧ r = none) := by
  refine z_intro (by decide) (Nat.le_of_ble_eq_true rfl) (fun X hX => ?_)
  have hR : ∀ (A : Option Nat), A = Rf 300 7 → up2 (rF (wRn 380 300 6 Rf)) 380 7 A = rF (flR 380 300 Rf) := by
    intro A hA
    rw [hA, up2_rF7 _ (Or.inr (Or.inr rfl))]
    rfl
  have r7 : wRn 380 300 6 Rf 300 7 = Rf 300 7 := if_neg (fun z => absurd z.1 (by decide))
  have hl : ∀ m p, p + m = 6 → zS X (sg K N (wRn 380 300 p Rf) I L) 0 0 2 [(0, .ref 380), (1, .ref 300), (2, .int (nI p))] [] := by
    intro m
    induction m with
    | zero =>
      intro p hp
      obtain rfl : p = 6 := by omega
      refine bk hX lkX1_ok (pc' := 5) [.iload_n 2, .bipush 6] (by decide +kernel) (And.intro trivial ?_)
      refine ic_ge hX (21) 26 (by decide +kernel) (by decide) (fun c_5 => ?_) (fun c => absurd (by decide) c)
      refine bk hX lkX1_ok (pc' := 38) [.aload_n 1, .getfield 17, .iconst 0, .aload_n 0, .getfield 17, .iconst 0, .bipush 6] (by decide +kernel) (And.intro trivial ?_)
      refine z_copyI hX kc_X1_50 rfl rfl (by decide) (by decide) (by decide) (Nat.le_of_ble_eq_true rfl) (Nat.le_of_ble_eq_true rfl) (by decide) (by decide +kernel) (by decide +kernel) ?_
      refine bk hX lkX1_ok (pc' := 53) [.aload_n 1, .getfield 21, .iconst 0, .aload_n 0, .getfield 21, .iconst 0, .bipush 6] (by decide +kernel) (And.intro trivial ?_)
      refine z_copyI hX kc_X1_50 rfl rfl (by decide) (by decide) (by decide) (Nat.le_of_ble_eq_true rfl) (Nat.le_of_ble_eq_true rfl) (by decide) (by decide +kernel) (by decide +kernel) ?_
      refine bk hX lkX1_ok (pc' := 68) [.aload_n 1, .getfield 24, .iconst 0, .aload_n 0, .getfield 24, .iconst 0, .bipush 24] (by decide +kernel) (And.intro trivial ?_)
      refine z_copyI hX kc_X1_50 rfl rfl (by decide) (by decide) (by decide) (Nat.le_of_ble_eq_true rfl) (Nat.le_of_ble_eq_true rfl) (by decide) (by decide +kernel) (by decide +kernel) ?_
      refine bk hX lkX1_ok (pc' := 95) [.aload_n 0, .aload_n 1, .getfield 56, .putfield 56, .aload_n 0, .aload_n 1, .getfield 60, .putfield 60, .aload_n 0, .aload_n 1, .getfield 63, .putfield 63] (by decide +kernel) (And.intro trivial ?_)
      refine z_lvk (lv' := [(2, _), (0, _), (1, _)]) [2, 0, 1] rfl ?_
      cases h7 : Rf 300 7 with
      | none =>
        refine bk hX lkX1_ok (pc' := 97) [.aload_n 0, .aload_n 1] (by decide +kernel) (And.intro trivial ?_)
        refine z_gN hX lkX1_ok 66 2 7 (fun k h => h) (rfl) (r7.trans h7) (by decide +kernel) ?_
        refine z_pN hX fe_X1_66 rfl (by decide +kernel) ?_
        exact z_vret hX (by decide +kernel) rfl (by decide) (by decide) (by
            refine ⟨Prod.ext rfl (Prod.ext rfl (Prod.ext ?_ (Prod.ext rfl ?_))), rfl⟩
            · show _ = flI 380 300 I
              funext q k
              simp only [up2, flI, Bool.cond_eq_ite, Bool.and_eq_true, Nat.beq_eq, cl_0, cl_6, cl_24]
              by_cases h1 : q = 382
              · subst h1; simp [cpy0]
              by_cases h2 : q = 383
              · subst h2; simp [cpy0]
              by_cases h3 : q = 384
              · subst h3; simp [cpy0]
              by_cases h4 : q = 380
              · subst h4
                by_cases k4 : k = 4
                · subst k4; simp
                by_cases k5 : k = 5
                · subst k5; simp
                by_cases k6 : k = 6
                · subst k6; simp
                simp [k4, k5, k6]
              simp [h1, h2, h3, h4]
            · exact hR _ h7.symm)
      | some qh =>
        refine bk hX lkX1_ok (pc' := 97) [.aload_n 0, .aload_n 1] (by decide +kernel) (And.intro trivial ?_)
        refine z_gR hX lkX1_ok 66 2 7 (fun k h => h) (rfl) (r7.trans h7) (by decide +kernel) ?_
        refine z_pR hX lkX1_ok (z_no _ _) 66 2 7 (fun k h => h) rfl (rfl) (by decide +kernel) ?_
        exact z_vret hX (by decide +kernel) rfl (by decide) (by decide) (by
            refine ⟨Prod.ext rfl (Prod.ext rfl (Prod.ext ?_ (Prod.ext rfl ?_))), rfl⟩
            · show _ = flI 380 300 I
              funext q k
              simp only [up2, flI, Bool.cond_eq_ite, Bool.and_eq_true, Nat.beq_eq, cl_0, cl_6, cl_24]
              by_cases h1 : q = 382
              · subst h1; simp [cpy0]
              by_cases h2 : q = 383
              · subst h2; simp [cpy0]
              by_cases h3 : q = 384
              · subst h3; simp [cpy0]
              by_cases h4 : q = 380
              · subst h4
                by_cases k4 : k = 4
                · subst k4; simp
                by_cases k5 : k = 5
                · subst k5; simp
                by_cases k6 : k = 6
                · subst k6; simp
                simp [k4, k5, k6]
              simp [h1, h2, h3, h4]
            · exact hR _ h7.symm)
    | succ m ih =>
      intro p hp
      have cp : (nI p).toNatClampNeg = p := cl (by omega)
      have rp : wRn 380 300 p Rf (300 + 1) p = Rf (300 + 1) p := if_neg (fun z => absurd z.1 (by decide))
      cases hp0 : Rf (300 + 1) p with
      | none =>
        refine bk hX lkX1_ok (pc' := 5) [.iload_n 2, .bipush 6] (by decide +kernel) (And.intro trivial ?_)
        refine ic_ge hX (21) 26 (by decide +kernel) (by decide) (fun c => absurd c (nI_ge (a := p) (b := 6) (by omega) (by decide))) (fun c_5 => ?_)
        refine bk hX lkX1_ok (pc' := 18) [.aload_n 0, .getfield 11, .iload_n 2, .aload_n 1, .getfield 11, .iload_n 2] (by decide +kernel) (And.intro trivial ?_)
        refine z_aaldN hX rfl (vin 6 (by omega)) (by rw [cp]; exact rp.trans hp0) (by decide +kernel) ?_
        refine z_aastN hX rfl (vin 6 (by omega)) (by decide +kernel) ?_
        refine bk hX lkX1_ok (pc' := 23) [.iinc 2 1] (by decide +kernel) (And.intro trivial ?_)
        refine gt_ hX (-21) 2 (by decide +kernel) (by decide) ?_
        refine z_lvk (lv' := [(0, _), (1, _), (2, _)]) [1, 2, 0] rfl ?_
        have e := wRn_s (t := 380) (o := 300) (p := p) (by decide) Rf hp0.symm
        have e2 := up2_rF (wRn 380 300 p Rf) (t := 381) (Or.inr (Or.inr rfl)) p none
        rw [nI_add, cp]
        have K1 := ih (p + 1) (by omega)
        rw [← e] at K1
        rw [show ((sg K N (wRn 380 300 p Rf) I L).1, (sg K N (wRn 380 300 p Rf) I L).2.1, (sg K N (wRn 380 300 p Rf) I L).2.2.1, (sg K N (wRn 380 300 p Rf) I L).2.2.2.1, up2 (sg K N (wRn 380 300 p Rf) I L).2.2.2.2 (380 + 1 + 0) p none) = (kF K, nF N, I, L, rF (up2 (wRn 380 300 p Rf) 381 p none)) from congrArg (fun z => (kF K, nF N, I, L, z)) e2]
        exact K1
      | some hq =>
        obtain ⟨h1000, kk, hk6, hKk⟩ := hs p (by omega) hq hp0
        obtain ⟨cq, hcq⟩ := hci_cl kk hk6
        have hks : (sg K N (wRn 380 300 p Rf) I L).1 hq = hci kk + 1 := by rw [← hKk]; exact kF_hi K h1000
        refine bk hX lkX1_ok (pc' := 5) [.iload_n 2, .bipush 6] (by decide +kernel) (And.intro trivial ?_)
        refine ic_ge hX (21) 26 (by decide +kernel) (by decide) (fun c => absurd c (nI_ge (a := p) (b := 6) (by omega) (by decide))) (fun c_5 => ?_)
        refine bk hX lkX1_ok (pc' := 18) [.aload_n 0, .getfield 11, .iload_n 2, .aload_n 1, .getfield 11, .iload_n 2] (by decide +kernel) (And.intro trivial ?_)
        refine z_aald hX (q := hq) (rfl) (vin 6 (by omega)) (by rw [cp]; exact rp.trans hp0) (by decide +kernel) ?_
        refine z_aast hX rfl (vin 6 (by omega)) hks hcq (hand_ok kk hk6 cq hcq) (by decide +kernel) ?_
        refine bk hX lkX1_ok (pc' := 23) [.iinc 2 1] (by decide +kernel) (And.intro trivial ?_)
        refine gt_ hX (-21) 2 (by decide +kernel) (by decide) ?_
        refine z_lvk (lv' := [(0, _), (1, _), (2, _)]) [1, 2, 0] rfl ?_
        have e := wRn_s (t := 380) (o := 300) (p := p) (by decide) Rf hp0.symm
        have e2 := up2_rF (wRn 380 300 p Rf) (t := 381) (Or.inr (Or.inr rfl)) p (some hq)
        rw [nI_add, cp]
        have K1 := ih (p + 1) (by omega)
        rw [← e] at K1
        rw [show ((sg K N (wRn 380 300 p Rf) I L).1, (sg K N (wRn 380 300 p Rf) I L).2.1, (sg K N (wRn 380 300 p Rf) I L).2.2.1, (sg K N (wRn 380 300 p Rf) I L).2.2.2.1, up2 (sg K N (wRn 380 300 p Rf) I L).2.2.2.2 (380 + 1 + 0) p (some hq)) = (kF K, nF N, I, L, rF (up2 (wRn 380 300 p Rf) 381 p (some hq))) from congrArg (fun z => (kF K, nF N, I, L, z)) e2]
        exact K1
  have e0 : wRn 380 300 0 Rf = Rf := by
    funext q k
    exact if_neg (fun z => absurd z.2 (Nat.not_lt_zero _))
  refine bk hX lkX1_ok (pc' := 2) [.iconst 0, .istore_n 2] (by decide +kernel) (And.intro trivial ?_)
  refine z_lvk (lv' := [(0, _), (1, _), (2, _)]) [1, 2, 0] rfl ?_
  have K1 := hl 6 0 (by omega)
  rw [e0] at K1
  exact K1
set_option maxHeartbeats 1000000 in
theorem c_F3038 (E : zE) (K N : Nat → Nat) (Rf : Nat → Nat → Option Nat) (I : Nat → Nat → Int32) (L : Nat → Nat → Int64) (hs : xHs 380 K Rf) : zCt E mX1_follow 1 0 0 (sg K N Rf I L) [.ref 300, .ref 380] (fun r σ' => σ' = sg K N (flR 300 380 Rf) (flI 300 380 I) L ∧ r = none) := by
  refine z_intro (by decide) (Nat.le_of_ble_eq_true rfl) (fun X hX => ?_)
  have hR : ∀ (A : Option Nat), A = Rf 380 7 → up2 (rF (wRn 300 380 6 Rf)) 300 7 A = rF (flR 300 380 Rf) := by
    intro A hA
    rw [hA, up2_rF7 _ (Or.inl rfl)]
    rfl
  have r7 : wRn 300 380 6 Rf 380 7 = Rf 380 7 := if_neg (fun z => absurd z.1 (by decide))
  have hl : ∀ m p, p + m = 6 → zS X (sg K N (wRn 300 380 p Rf) I L) 0 0 2 [(0, .ref 300), (1, .ref 380), (2, .int (nI p))] [] := by
    intro m
    induction m with
    | zero =>
      intro p hp
      obtain rfl : p = 6 := by omega
      refine bk hX lkX1_ok (pc' := 5) [.iload_n 2, .bipush 6] (by decide +kernel) (And.intro trivial ?_)
      refine ic_ge hX (21) 26 (by decide +kernel) (by decide) (fun c_5 => ?_) (fun c => absurd (by decide) c)
      refine bk hX lkX1_ok (pc' := 38) [.aload_n 1, .getfield 17, .iconst 0, .aload_n 0, .getfield 17, .iconst 0, .bipush 6] (by decide +kernel) (And.intro trivial ?_)
      refine z_copyI hX kc_X1_50 rfl rfl (by decide) (by decide) (by decide) (Nat.le_of_ble_eq_true rfl) (Nat.le_of_ble_eq_true rfl) (by decide) (by decide +kernel) (by decide +kernel) ?_
      refine bk hX lkX1_ok (pc' := 53) [.aload_n 1, .getfield 21, .iconst 0, .aload_n 0, .getfield 21, .iconst 0, .bipush 6] (by decide +kernel) (And.intro trivial ?_)
      refine z_copyI hX kc_X1_50 rfl rfl (by decide) (by decide) (by decide) (Nat.le_of_ble_eq_true rfl) (Nat.le_of_ble_eq_true rfl) (by decide) (by decide +kernel) (by decide +kernel) ?_
      refine bk hX lkX1_ok (pc' := 68) [.aload_n 1, .getfield 24, .iconst 0, .aload_n 0, .getfield 24, .iconst 0, .bipush 24] (by decide +kernel) (And.intro trivial ?_)
      refine z_copyI hX kc_X1_50 rfl rfl (by decide) (by decide) (by decide) (Nat.le_of_ble_eq_true rfl) (Nat.le_of_ble_eq_true rfl) (by decide) (by decide +kernel) (by decide +kernel) ?_
      refine bk hX lkX1_ok (pc' := 95) [.aload_n 0, .aload_n 1, .getfield 56, .putfield 56, .aload_n 0, .aload_n 1, .getfield 60, .putfield 60, .aload_n 0, .aload_n 1, .getfield 63, .putfield 63] (by decide +kernel) (And.intro trivial ?_)
      refine z_lvk (lv' := [(2, _), (0, _), (1, _)]) [2, 0, 1] rfl ?_
      cases h7 : Rf 380 7 with
      | none =>
        refine bk hX lkX1_ok (pc' := 97) [.aload_n 0, .aload_n 1] (by decide +kernel) (And.intro trivial ?_)
        refine z_gN hX lkX1_ok 66 2 7 (fun k h => h) (rfl) (r7.trans h7) (by decide +kernel) ?_
        refine z_pN hX fe_X1_66 rfl (by decide +kernel) ?_
        exact z_vret hX (by decide +kernel) rfl (by decide) (by decide) (by
            refine ⟨Prod.ext rfl (Prod.ext rfl (Prod.ext ?_ (Prod.ext rfl ?_))), rfl⟩
            · show _ = flI 300 380 I
              funext q k
              simp only [up2, flI, Bool.cond_eq_ite, Bool.and_eq_true, Nat.beq_eq, cl_0, cl_6, cl_24]
              by_cases h1 : q = 302
              · subst h1; simp [cpy0]
              by_cases h2 : q = 303
              · subst h2; simp [cpy0]
              by_cases h3 : q = 304
              · subst h3; simp [cpy0]
              by_cases h4 : q = 300
              · subst h4
                by_cases k4 : k = 4
                · subst k4; simp
                by_cases k5 : k = 5
                · subst k5; simp
                by_cases k6 : k = 6
                · subst k6; simp
                simp [k4, k5, k6]
              simp [h1, h2, h3, h4]
            · exact hR _ h7.symm)
      | some qh =>
        refine bk hX lkX1_ok (pc' := 97) [.aload_n 0, .aload_n 1] (by decide +kernel) (And.intro trivial ?_)
        refine z_gR hX lkX1_ok 66 2 7 (fun k h => h) (rfl) (r7.trans h7) (by decide +kernel) ?_
        refine z_pR hX lkX1_ok (z_no _ _) 66 2 7 (fun k h => h) rfl (rfl) (by decide +kernel) ?_
        exact z_vret hX (by decide +kernel) rfl (by decide) (by decide) (by
            refine ⟨Prod.ext rfl (Prod.ext rfl (Prod.ext ?_ (Prod.ext rfl ?_))), rfl⟩
            · show _ = flI 300 380 I
              funext q k
              simp only [up2, flI, Bool.cond_eq_ite, Bool.and_eq_true, Nat.beq_eq, cl_0, cl_6, cl_24]
              by_cases h1 : q = 302
              · subst h1; simp [cpy0]
              by_cases h2 : q = 303
              · subst h2; simp [cpy0]
              by_cases h3 : q = 304
              · subst h3; simp [cpy0]
              by_cases h4 : q = 300
              · subst h4
                by_cases k4 : k = 4
                · subst k4; simp
                by_cases k5 : k = 5
                · subst k5; simp
                by_cases k6 : k = 6
                · subst k6; simp
                simp [k4, k5, k6]
              simp [h1, h2, h3, h4]
            · exact hR _ h7.symm)
    | succ m ih =>
      intro p hp
      have cp : (nI p).toNatClampNeg = p := cl (by omega)
      have rp : wRn 300 380 p Rf (380 + 1) p = Rf (380 + 1) p := if_neg (fun z => absurd z.1 (by decide))
      cases hp0 : Rf (380 + 1) p with
      | none =>
        refine bk hX lkX1_ok (pc' := 5) [.iload_n 2, .bipush 6] (by decide +kernel) (And.intro trivial ?_)
        refine ic_ge hX (21) 26 (by decide +kernel) (by decide) (fun c => absurd c (nI_ge (a := p) (b := 6) (by omega) (by decide))) (fun c_5 => ?_)
        refine bk hX lkX1_ok (pc' := 18) [.aload_n 0, .getfield 11, .iload_n 2, .aload_n 1, .getfield 11, .iload_n 2] (by decide +kernel) (And.intro trivial ?_)
        refine z_aaldN hX rfl (vin 6 (by omega)) (by rw [cp]; exact rp.trans hp0) (by decide +kernel) ?_
        refine z_aastN hX rfl (vin 6 (by omega)) (by decide +kernel) ?_
        refine bk hX lkX1_ok (pc' := 23) [.iinc 2 1] (by decide +kernel) (And.intro trivial ?_)
        refine gt_ hX (-21) 2 (by decide +kernel) (by decide) ?_
        refine z_lvk (lv' := [(0, _), (1, _), (2, _)]) [1, 2, 0] rfl ?_
        have e := wRn_s (t := 300) (o := 380) (p := p) (by decide) Rf hp0.symm
        have e2 := up2_rF (wRn 300 380 p Rf) (t := 301) (Or.inl rfl) p none
        rw [nI_add, cp]
        have K1 := ih (p + 1) (by omega)
        rw [← e] at K1
        rw [show ((sg K N (wRn 300 380 p Rf) I L).1, (sg K N (wRn 300 380 p Rf) I L).2.1, (sg K N (wRn 300 380 p Rf) I L).2.2.1, (sg K N (wRn 300 380 p Rf) I L).2.2.2.1, up2 (sg K N (wRn 300 380 p Rf) I L).2.2.2.2 (300 + 1 + 0) p none) = (kF K, nF N, I, L, rF (up2 (wRn 300 380 p Rf) 301 p none)) from congrArg (fun z => (kF K, nF N, I, L, z)) e2]
        exact K1
      | some hq =>
        obtain ⟨h1000, kk, hk6, hKk⟩ := hs p (by omega) hq hp0
        obtain ⟨cq, hcq⟩ := hci_cl kk hk6
        have hks : (sg K N (wRn 300 380 p Rf) I L).1 hq = hci kk + 1 := by rw [← hKk]; exact kF_hi K h1000
        refine bk hX lkX1_ok (pc' := 5) [.iload_n 2, .bipush 6] (by decide +kernel) (And.intro trivial ?_)
        refine ic_ge hX (21) 26 (by decide +kernel) (by decide) (fun c => absurd c (nI_ge (a := p) (b := 6) (by omega) (by decide))) (fun c_5 => ?_)
        refine bk hX lkX1_ok (pc' := 18) [.aload_n 0, .getfield 11, .iload_n 2, .aload_n 1, .getfield 11, .iload_n 2] (by decide +kernel) (And.intro trivial ?_)
        refine z_aald hX (q := hq) (rfl) (vin 6 (by omega)) (by rw [cp]; exact rp.trans hp0) (by decide +kernel) ?_
        refine z_aast hX rfl (vin 6 (by omega)) hks hcq (hand_ok kk hk6 cq hcq) (by decide +kernel) ?_
        refine bk hX lkX1_ok (pc' := 23) [.iinc 2 1] (by decide +kernel) (And.intro trivial ?_)
        refine gt_ hX (-21) 2 (by decide +kernel) (by decide) ?_
        refine z_lvk (lv' := [(0, _), (1, _), (2, _)]) [1, 2, 0] rfl ?_
        have e := wRn_s (t := 300) (o := 380) (p := p) (by decide) Rf hp0.symm
        have e2 := up2_rF (wRn 300 380 p Rf) (t := 301) (Or.inl rfl) p (some hq)
        rw [nI_add, cp]
        have K1 := ih (p + 1) (by omega)
        rw [← e] at K1
        rw [show ((sg K N (wRn 300 380 p Rf) I L).1, (sg K N (wRn 300 380 p Rf) I L).2.1, (sg K N (wRn 300 380 p Rf) I L).2.2.1, (sg K N (wRn 300 380 p Rf) I L).2.2.2.1, up2 (sg K N (wRn 300 380 p Rf) I L).2.2.2.2 (300 + 1 + 0) p (some hq)) = (kF K, nF N, I, L, rF (up2 (wRn 300 380 p Rf) 301 p (some hq))) from congrArg (fun z => (kF K, nF N, I, L, z)) e2]
        exact K1
  have e0 : wRn 300 380 0 Rf = Rf := by
    funext q k
    exact if_neg (fun z => absurd z.2 (Nat.not_lt_zero _))
  refine bk hX lkX1_ok (pc' := 2) [.iconst 0, .istore_n 2] (by decide +kernel) (And.intro trivial ?_)
  refine z_lvk (lv' := [(0, _), (1, _), (2, _)]) [1, 2, 0] rfl ?_
  have K1 := hl 6 0 (by omega)
  rw [e0] at K1
  exact K1
