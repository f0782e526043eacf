theorem sw3 (x : Int32) : x = nI 0 ∨ x = nI 1 ∨ x = nI 2 ∨ ¬ isIn x 3 = true := by
  by_cases h : isIn x 3 = true
  · obtain ⟨j, hj, rfl⟩ := isIn_ex h (by decide)
    rcases (show j = 0 ∨ j = 1 ∨ j = 2 by omega) with rfl | rfl | rfl <;> simp
  · exact Or.inr (Or.inr (Or.inr h))
theorem wkA_2 {k : Nat} (h : k = 2 ∨ k = 5) (v i : Nat) (x : Int32) : wkA k v i x = (x * nI 3 + nI i, [30, 10]) := by rw [wkA, if_pos h]
theorem c_X2_toils (E : zE) (K N : Nat → Nat) (Rf : Nat → Nat → Option Nat) (I : Nat → Nat → Int32) (L : Nat → Nat → Int64) {t : List Nat} (ht : xTr t I) {h k i v : Nat} (hh : xHd K I h k i v) (hk6 : k ≤ 6) (hl : t.length ≤ 15) (x : Int32) : zCt E mX2_toils 3 0 0 (sg K N Rf I L) [.ref h, .ref 208, .int x] (fun r σ' => ∃ I', σ' = sg K N Rf I' L ∧ r = some (.int (x + nI i)) ∧ xTr (t ++ [10]) I' ∧ frB I I') := by
  have hks : kF K h = hci k + 1 := by rw [← hh.2.1]; exact kF_hi K hh.1
  refine z_intro (by decide) (Nat.le_of_ble_eq_true rfl) (fun X hX => ?_)
  refine bk hX lkX2_ok (pc' := 3) [.aload_n 1, .bipush 10] (by decide +kernel) (And.intro trivial ?_)
  refine z_callV hX kw_X2_18 (c_J4_append E K N Rf I L ht (by omega) (x := 10) (by decide)) rfl rfl rfl rfl rfl (by decide +kernel) (by decide) (by decide) (by decide) (by decide) (Nat.le_of_ble_eq_true rfl) ?_
  rintro _ _ ⟨I1, rfl, rfl, y1, y2⟩
  have hh1 := xHd_I hh (frB_hi y2)
  refine bk hX lkX2_ok (pc' := 9) [.pop, .iload_n 2, .aload_n 0] (by decide +kernel) (And.intro trivial ?_)
  refine z_gIe hX (fh_X2_9 k hk6) (hks) (by decide +kernel) ?_
  refine bk hX lkX2_ok (pc' := 13) [.iadd] (by decide +kernel) (And.intro trivial ?_)
  exact z_iret hX (by decide +kernel) rfl (rfl) (by decide) (by decide) (⟨I1, rfl, congrArg (fun z => some (Value.int (x + z))) hh1.2.2.1, y1, y2⟩)
theorem c_X3_toils (E : zE) (K N : Nat → Nat) (Rf : Nat → Nat → Option Nat) (I : Nat → Nat → Int32) (L : Nat → Nat → Int64) {t : List Nat} (ht : xTr t I) {h k i v : Nat} (hh : xHd K I h k i v) (hk6 : k ≤ 6) (hl : t.length ≤ 14) (x : Int32) : zCt E mX3_toils 4 0 0 (sg K N Rf I L) [.ref h, .ref 208, .int x] (fun r σ' => ∃ I', σ' = sg K N Rf I' L ∧ r = some (.int (x * nI 3 + nI i)) ∧ xTr (t ++ [30, 10]) I' ∧ frB I I') := by
  have hks : kF K h = hci k + 1 := by rw [← hh.2.1]; exact kF_hi K hh.1
  obtain ⟨cq, hcq⟩ := hci_cl k hk6
  refine z_intro (by decide) (Nat.le_of_ble_eq_true rfl) (fun X hX => ?_)
  refine bk hX lkX3_ok (pc' := 3) [.aload_n 1, .bipush 30] (by decide +kernel) (And.intro trivial ?_)
  refine z_callV hX kw_X3_18 (c_J4_append E K N Rf I L ht (by omega) (x := 30) (by decide)) rfl rfl rfl rfl rfl (by decide +kernel) (by decide) (by decide) (by decide) (by decide) (Nat.le_of_ble_eq_true rfl) ?_
  rintro _ _ ⟨I1, rfl, rfl, y1, y2⟩
  have hh1 := xHd_I hh (frB_hi y2)
  refine bk hX lkX3_ok (pc' := 12) [.pop, .aload_n 0, .aload_n 1, .iload_n 2, .iconst 3, .imul] (by decide +kernel) (And.intro trivial ?_)
  refine z_callSU hX ks_X3_24 (c_X2_toils E K N Rf I1 L y1 hh1 hk6 (by simp; omega) _) rfl rfl hks hcq (by decide +kernel) (by decide) (by decide) (by decide) (by decide) (Nat.le_of_ble_eq_true rfl) ?_
  rintro _ _ ⟨I2, rfl, rfl, z1, z2⟩
  exact z_iret hX (by decide +kernel) rfl (rfl) (by decide) (by decide) (⟨I2, rfl, rfl, by rw [List.append_assoc] at z1; exact z1, frB_tr y2 z2⟩)
theorem c_X0_toils (E : zE) (K N : Nat → Nat) (Rf : Nat → Nat → Option Nat) (I : Nat → Nat → Int32) (L : Nat → Nat → Int64) {t : List Nat} (ht : xTr t I) {h i v : Nat} (hh : xHd K I h 4 i v) (hl : t.length ≤ 14) (x : Int32) : zCt E mX0_toils 4 0 0 (sg K N Rf I L) [.ref h, .ref 208, .int x] (fun r σ' => ∃ I', σ' = sg K N Rf I' L ∧ r = some (.int (-(x + nI i))) ∧ xTr (t ++ [50, 10]) I' ∧ frB I I') := by
  have hks : kF K h = hci 4 + 1 := by rw [← hh.2.1]; exact kF_hi K hh.1
  refine z_intro (by decide) (Nat.le_of_ble_eq_true rfl) (fun X hX => ?_)
  refine bk hX lkX0_ok (pc' := 3) [.aload_n 1, .bipush 50] (by decide +kernel) (And.intro trivial ?_)
  refine z_callV hX kw_X0_19 (c_J4_append E K N Rf I L ht (by omega) (x := 50) (by decide)) rfl rfl rfl rfl rfl (by decide +kernel) (by decide) (by decide) (by decide) (by decide) (Nat.le_of_ble_eq_true rfl) ?_
  rintro _ _ ⟨I1, rfl, rfl, y1, y2⟩
  have hh1 := xHd_I hh (frB_hi y2)
  refine bk hX lkX0_ok (pc' := 10) [.pop, .aload_n 0, .aload_n 1, .iload_n 2] (by decide +kernel) (And.intro trivial ?_)
  refine z_callUp hX kp_X0_25 (c_X2_toils E K N Rf I1 L y1 hh1 (by decide) (by simp; omega) _) rfl rfl hks rfl (by decide +kernel) (by decide) (by decide) (by decide) (by decide) (Nat.le_of_ble_eq_true rfl) ?_
  rintro _ _ ⟨I2, rfl, rfl, z1, z2⟩
  refine bk hX lkX0_ok (pc' := 14) [.ineg] (by decide +kernel) (And.intro trivial ?_)
  exact z_iret hX (by decide +kernel) rfl (rfl) (by decide) (by decide) (⟨I2, rfl, rfl, by rw [List.append_assoc] at z1; exact z1, frB_tr y2 z2⟩)
theorem c_X9_toils (E : zE) (K N : Nat → Nat) (Rf : Nat → Nat → Option Nat) (I : Nat → Nat → Int32) (L : Nat → Nat → Int64) {t : List Nat} (ht : xTr t I) {h i v : Nat} (hh : xHd K I h 6 i v) (hl : t.length ≤ 14) (x : Int32) : zCt E mX9_toils 4 0 0 (sg K N Rf I L) [.ref h, .ref 208, .int x] (fun r σ' => ∃ I', σ' = sg K N Rf I' L ∧ r = some (.int ((x + nI i) ^^^ nI v)) ∧ xTr (t ++ [71, 10]) I' ∧ frB I I') := by
  have hks : kF K h = hci 6 + 1 := by rw [← hh.2.1]; exact kF_hi K hh.1
  refine z_intro (by decide) (Nat.le_of_ble_eq_true rfl) (fun X hX => ?_)
  refine bk hX lkX9_ok (pc' := 3) [.aload_n 1, .bipush 71] (by decide +kernel) (And.intro trivial ?_)
  refine z_callV hX kw_X9_13 (c_J4_append E K N Rf I L ht (by omega) (x := 71) (by decide)) rfl rfl rfl rfl rfl (by decide +kernel) (by decide) (by decide) (by decide) (by decide) (Nat.le_of_ble_eq_true rfl) ?_
  rintro _ _ ⟨I1, rfl, rfl, y1, y2⟩
  have hh1 := xHd_I hh (frB_hi y2)
  refine bk hX lkX9_ok (pc' := 10) [.pop, .aload_n 0, .aload_n 1, .iload_n 2] (by decide +kernel) (And.intro trivial ?_)
  refine z_callUp hX kp_X9_23 (c_X2_toils E K N Rf I1 L y1 hh1 (by decide) (by simp; omega) _) rfl rfl hks rfl (by decide +kernel) (by decide) (by decide) (by decide) (by decide) (Nat.le_of_ble_eq_true rfl) ?_
  rintro _ _ ⟨I2, rfl, rfl, z1, z2⟩
  have hh2 := xHd_I hh1 (frB_hi z2)
  refine bk hX lkX9_ok (pc' := 14) [.aload_n 0] (by decide +kernel) (And.intro trivial ?_)
  refine z_gI hX lkX9_ok 26 10 1 (fun k h => h) (by decide) (hks) (by decide +kernel) ?_
  refine bk hX lkX9_ok (pc' := 18) [.ixor] (by decide +kernel) (And.intro trivial ?_)
  exact z_iret hX (by decide +kernel) rfl (rfl) (by decide) (by decide) (⟨I2, rfl, congrArg (fun z => some (Value.int ((x + nI i) ^^^ z))) hh2.2.2.2, by rw [List.append_assoc] at z1; exact z1, frB_tr y2 z2⟩)
section
variable {X : zX} {E : zE} {M : zM} {d mc ms : Nat} {Po : Option Value → Sg → Prop} {cells slots pc : Nat} {lv : List (Nat × Value)} {st : List Value} {K N : Nat → Nat} {Rf : Nat → Nat → Option Nat} {I : Nat → Nat → Int32} {L : Nat → Nat → Int64}
theorem va_toils_X2 (hX : zD X E M d mc ms Po) (ho : M.1.cls = RX2) {t : List Nat} (ht : xTr t I) {h k i v : Nat} (hh : xHd K I h k i v) (hk6 : k ≤ 6) (hl : t.length ≤ 14) (x : Int32) (hd : decode M.2.1 pc = .ok (.invokevirtual 24, 3)) (hdep : 5 ≤ d) (hc : cells ≤ mc) (hs : slots ≤ ms) (hrm : (st.map fun v => v.category).sum ≤ 8) (kk : ∀ I', xTr (t ++ (wkA k v i x).2) I' → frB I I' → zS X (sg K N Rf I' L) cells slots (pc + 3) lv (.int (wkA k v i x).1 :: st)) : zS X (sg K N Rf I L) cells slots pc lv (.int x :: .ref 208 :: .ref h :: st) := by
  have hks : kF K h = hci k + 1 := by rw [← hh.2.1]; exact kF_hi K hh.1
  rcases (show k = 0 ∨ k = 1 ∨ k = 2 ∨ k = 3 ∨ k = 4 ∨ k = 5 ∨ k = 6 by omega) with rfl | rfl | rfl | rfl | rfl | rfl | rfl
  · refine z_callU hX (by rw [ho]; exact ku_X2_24_X2) (c_X2_toils E K N Rf I L ht hh (by decide) (by omega) x) rfl rfl hks rfl hd (by omega) (by decide) hc hs hrm ?_
    rintro _ _ ⟨I1, rfl, rfl, y1, y2⟩
    exact kk I1 y1 y2
  · refine z_callU hX (by rw [ho]; exact ku_X2_24_X4) (c_X2_toils E K N Rf I L ht hh (by decide) (by omega) x) rfl rfl hks rfl hd (by omega) (by decide) hc hs hrm ?_
    rintro _ _ ⟨I1, rfl, rfl, y1, y2⟩
    exact kk I1 y1 y2
  · refine z_callU hX (by rw [ho]; exact ku_X2_24_X3) (c_X3_toils E K N Rf I L ht hh (by decide) (by omega) x) rfl rfl hks rfl hd (by omega) (by decide) hc hs hrm ?_
    rintro _ _ ⟨I1, rfl, rfl, y1, y2⟩
    exact kk I1 y1 y2
  · refine z_callU hX (by rw [ho]; exact ku_X2_24_X6) (c_X2_toils E K N Rf I L ht hh (by decide) (by omega) x) rfl rfl hks rfl hd (by omega) (by decide) hc hs hrm ?_
    rintro _ _ ⟨I1, rfl, rfl, y1, y2⟩
    exact kk I1 y1 y2
  · refine z_callU hX (by rw [ho]; exact ku_X2_24_X0) (c_X0_toils E K N Rf I L ht hh (by omega) x) rfl rfl hks rfl hd (by omega) (by decide) hc hs hrm ?_
    rintro _ _ ⟨I1, rfl, rfl, y1, y2⟩
    exact kk I1 y1 y2
  · refine z_callU hX (by rw [ho]; exact ku_X2_24_X5) (c_X3_toils E K N Rf I L ht hh (by decide) (by omega) x) rfl rfl hks rfl hd (by omega) (by decide) hc hs hrm ?_
    rintro _ _ ⟨I1, rfl, rfl, y1, y2⟩
    exact kk I1 y1 y2
  · refine z_callU hX (by rw [ho]; exact ku_X2_24_X9) (c_X9_toils E K N Rf I L ht hh (by omega) x) rfl rfl hks rfl hd (by omega) (by decide) hc hs hrm ?_
    rintro _ _ ⟨I1, rfl, rfl, y1, y2⟩
    exact kk I1 y1 y2
theorem va_toils_X11 (hX : zD X E M d mc ms Po) (ho : M.1.cls = RX11) {t : List Nat} (ht : xTr t I) {h k i v : Nat} (hh : xHd K I h k i v) (hk6 : k ≤ 6) (hl : t.length ≤ 14) (x : Int32) (hd : decode M.2.1 pc = .ok (.invokevirtual 256, 3)) (hdep : 5 ≤ d) (hc : cells ≤ mc) (hs : slots ≤ ms) (hrm : (st.map fun v => v.category).sum ≤ 8) (kk : ∀ I', xTr (t ++ (wkA k v i x).2) I' → frB I I' → zS X (sg K N Rf I' L) cells slots (pc + 3) lv (.int (wkA k v i x).1 :: st)) : zS X (sg K N Rf I L) cells slots pc lv (.int x :: .ref 208 :: .ref h :: st) := by
  have hks : kF K h = hci k + 1 := by rw [← hh.2.1]; exact kF_hi K hh.1
  rcases (show k = 0 ∨ k = 1 ∨ k = 2 ∨ k = 3 ∨ k = 4 ∨ k = 5 ∨ k = 6 by omega) with rfl | rfl | rfl | rfl | rfl | rfl | rfl
  · refine z_callU hX (by rw [ho]; exact ku_X11_256_X2) (c_X2_toils E K N Rf I L ht hh (by decide) (by omega) x) rfl rfl hks rfl hd (by omega) (by decide) hc hs hrm ?_
    rintro _ _ ⟨I1, rfl, rfl, y1, y2⟩
    exact kk I1 y1 y2
  · refine z_callU hX (by rw [ho]; exact ku_X11_256_X4) (c_X2_toils E K N Rf I L ht hh (by decide) (by omega) x) rfl rfl hks rfl hd (by omega) (by decide) hc hs hrm ?_
    rintro _ _ ⟨I1, rfl, rfl, y1, y2⟩
    exact kk I1 y1 y2
  · refine z_callU hX (by rw [ho]; exact ku_X11_256_X3) (c_X3_toils E K N Rf I L ht hh (by decide) (by omega) x) rfl rfl hks rfl hd (by omega) (by decide) hc hs hrm ?_
    rintro _ _ ⟨I1, rfl, rfl, y1, y2⟩
    exact kk I1 y1 y2
  · refine z_callU hX (by rw [ho]; exact ku_X11_256_X6) (c_X2_toils E K N Rf I L ht hh (by decide) (by omega) x) rfl rfl hks rfl hd (by omega) (by decide) hc hs hrm ?_
    rintro _ _ ⟨I1, rfl, rfl, y1, y2⟩
    exact kk I1 y1 y2
  · refine z_callU hX (by rw [ho]; exact ku_X11_256_X0) (c_X0_toils E K N Rf I L ht hh (by omega) x) rfl rfl hks rfl hd (by omega) (by decide) hc hs hrm ?_
    rintro _ _ ⟨I1, rfl, rfl, y1, y2⟩
    exact kk I1 y1 y2
  · refine z_callU hX (by rw [ho]; exact ku_X11_256_X5) (c_X3_toils E K N Rf I L ht hh (by decide) (by omega) x) rfl rfl hks rfl hd (by omega) (by decide) hc hs hrm ?_
    rintro _ _ ⟨I1, rfl, rfl, y1, y2⟩
    exact kk I1 y1 y2
  · refine z_callU hX (by rw [ho]; exact ku_X11_256_X9) (c_X9_toils E K N Rf I L ht hh (by omega) x) rfl rfl hks rfl hd (by omega) (by decide) hc hs hrm ?_
    rintro _ _ ⟨I1, rfl, rfl, y1, y2⟩
    exact kk I1 y1 y2
end
theorem c_X2_minds (E : zE) (K N : Nat → Nat) (Rf : Nat → Nat → Option Nat) (I : Nat → Nat → Int32) (L : Nat → Nat → Int64) {t : List Nat} (ht : xTr t I) {h k i v : Nat} (hh : xHd K I h k i v) (hk6 : k ≤ 6) (hl : t.length ≤ 13) (x : Int32) : zCt E mX2_minds 5 0 0 (sg K N Rf I L) [.ref h, .ref 208, .int x] (fun r σ' => ∃ I', σ' = sg K N Rf I' L ∧ r = some (.int ((hmA k v i x).1)) ∧ xTr (t ++ (hmA k v i x).2) I' ∧ frB I I') := by
  have hks : kF K h = hci k + 1 := by rw [← hh.2.1]; exact kF_hi K hh.1
  refine z_intro (by decide) (Nat.le_of_ble_eq_true rfl) (fun X hX => ?_)
  refine bk hX lkX2_ok (pc' := 3) [.aload_n 1, .bipush 11] (by decide +kernel) (And.intro trivial ?_)
  refine z_callV hX kw_X2_18 (c_J4_append E K N Rf I L ht (by omega) (x := 11) (by decide)) rfl rfl rfl rfl rfl (by decide +kernel) (by decide) (by decide) (by decide) (by decide) (Nat.le_of_ble_eq_true rfl) ?_
  rintro _ _ ⟨I1, rfl, rfl, y1, y2⟩
  have hh1 := xHd_I hh (frB_hi y2)
  refine bk hX lkX2_ok (pc' := 10) [.pop, .aload_n 0, .aload_n 1, .iload_n 2] (by decide +kernel) (And.intro trivial ?_)
  refine va_toils_X2 hX rfl y1 hh1 hk6 (by simp; omega) x (by decide +kernel) (by decide) (by decide) (by decide) (Nat.le_of_ble_eq_true rfl) (fun I2 z1 z2 => ?_)
  have hh2 := xHd_I hh1 (frB_hi z2)
  refine bk hX lkX2_ok (pc' := 14) [.aload_n 0] (by decide +kernel) (And.intro trivial ?_)
  refine z_gIe hX (fh_X2_15 k hk6) (hks) (by decide +kernel) ?_
  refine bk hX lkX2_ok (pc' := 18) [.isub] (by decide +kernel) (And.intro trivial ?_)
  exact z_iret hX (by decide +kernel) rfl (rfl) (by decide) (by decide) (⟨I2, rfl, congrArg (fun z => some (Value.int ((wkA k v i x).1 - z))) hh2.2.2.2, by rw [List.append_assoc] at z1; exact z1, frB_tr y2 z2⟩)
theorem c_X4_minds (E : zE) (K N : Nat → Nat) (Rf : Nat → Nat → Option Nat) (I : Nat → Nat → Int32) (L : Nat → Nat → Int64) {t : List Nat} (ht : xTr t I) {h k i v : Nat} (hh : xHd K I h k i v) (hk6 : k ≤ 6) (hl : t.length ≤ 12) (x : Int32) : zCt E mX4_minds 6 0 0 (sg K N Rf I L) [.ref h, .ref 208, .int x] (fun r σ' => ∃ I', σ' = sg K N Rf I' L ∧ r = some (.int ((lmA k v i x).1)) ∧ xTr (t ++ (lmA k v i x).2) I' ∧ frB I I') := by
  have hks : kF K h = hci k + 1 := by rw [← hh.2.1]; exact kF_hi K hh.1
  obtain ⟨cq, hcq⟩ := hci_cl k hk6
  refine z_intro (by decide) (Nat.le_of_ble_eq_true rfl) (fun X hX => ?_)
  refine bk hX lkX4_ok (pc' := 3) [.aload_n 1, .bipush 20] (by decide +kernel) (And.intro trivial ?_)
  refine z_callV hX kw_X4_13 (c_J4_append E K N Rf I L ht (by omega) (x := 20) (by decide)) rfl rfl rfl rfl rfl (by decide +kernel) (by decide) (by decide) (by decide) (by decide) (Nat.le_of_ble_eq_true rfl) ?_
  rintro _ _ ⟨I1, rfl, rfl, y1, y2⟩
  have hh1 := xHd_I hh (frB_hi y2)
  refine bk hX lkX4_ok (pc' := 10) [.pop, .aload_n 0, .aload_n 1, .iload_n 2] (by decide +kernel) (And.intro trivial ?_)
  refine z_callSU hX ks_X4_19 (c_X2_minds E K N Rf I1 L y1 hh1 hk6 (by simp; omega) x) rfl rfl hks hcq (by decide +kernel) (by decide) (by decide) (by decide) (by decide) (Nat.le_of_ble_eq_true rfl) ?_
  rintro _ _ ⟨I2, rfl, rfl, z1, z2⟩
  refine bk hX lkX4_ok (pc' := 16) [.bipush 6, .ixor] (by decide +kernel) (And.intro trivial ?_)
  exact z_iret hX (by decide +kernel) rfl (rfl) (by decide) (by decide) (⟨I2, rfl, rfl, by rw [List.append_assoc] at z1; exact z1, frB_tr y2 z2⟩)
theorem c_X0_minds (E : zE) (K N : Nat → Nat) (Rf : Nat → Nat → Option Nat) (I : Nat → Nat → Int32) (L : Nat → Nat → Int64) {t : List Nat} (ht : xTr t I) {h i v : Nat} (hh : xHd K I h 4 i v) (hl : t.length ≤ 11) (x : Int32) : zCt E mX0_minds 7 0 0 (sg K N Rf I L) [.ref h, .ref 208, .int x] (fun r σ' => ∃ I', σ' = sg K N Rf I' L ∧ r = some (.int ((mdA 4 v i x).1)) ∧ xTr (t ++ (mdA 4 v i x).2) I' ∧ frB I I') := by
  have hks : kF K h = hci 4 + 1 := by rw [← hh.2.1]; exact kF_hi K hh.1
  refine z_intro (by decide) (Nat.le_of_ble_eq_true rfl) (fun X hX => ?_)
  refine bk hX lkX0_ok (pc' := 3) [.aload_n 1, .bipush 51] (by decide +kernel) (And.intro trivial ?_)
  refine z_callV hX kw_X0_19 (c_J4_append E K N Rf I L ht (by omega) (x := 51) (by decide)) rfl rfl rfl rfl rfl (by decide +kernel) (by decide) (by decide) (by decide) (by decide) (Nat.le_of_ble_eq_true rfl) ?_
  rintro _ _ ⟨I1, rfl, rfl, y1, y2⟩
  have hh1 := xHd_I hh (frB_hi y2)
  refine bk hX lkX0_ok (pc' := 12) [.pop, .aload_n 0, .aload_n 1, .iload_n 2, .iconst 1, .iadd] (by decide +kernel) (And.intro trivial ?_)
  refine z_callSU hX ks_X0_29 (c_X4_minds E K N Rf I1 L y1 hh1 (by decide) (by simp; omega) _) rfl rfl hks rfl (by decide +kernel) (by decide) (by decide) (by decide) (by decide) (Nat.le_of_ble_eq_true rfl) ?_
  rintro _ _ ⟨I2, rfl, rfl, z1, z2⟩
  exact z_iret hX (by decide +kernel) rfl (rfl) (by decide) (by decide) (⟨I2, rfl, rfl, by rw [List.append_assoc] at z1; exact z1, frB_tr y2 z2⟩)
theorem c_X9_minds (E : zE) (K N : Nat → Nat) (Rf : Nat → Nat → Option Nat) (I : Nat → Nat → Int32) (L : Nat → Nat → Int64) {t : List Nat} (ht : xTr t I) {h i v : Nat} (hh : xHd K I h 6 i v) (hl : t.length ≤ 11) (x : Int32) : zCt E mX9_minds 6 0 0 (sg K N Rf I L) [.ref h, .ref 208, .int x] (fun r σ' => ∃ I', σ' = sg K N Rf I' L ∧ r = some (.int ((mdA 6 v i x).1)) ∧ xTr (t ++ (mdA 6 v i x).2) I' ∧ frB I I') := by
  have hks : kF K h = hci 6 + 1 := by rw [← hh.2.1]; exact kF_hi K hh.1
  refine z_intro (by decide) (Nat.le_of_ble_eq_true rfl) (fun X hX => ?_)
  refine bk hX lkX9_ok (pc' := 3) [.aload_n 1, .bipush 70] (by decide +kernel) (And.intro trivial ?_)
  refine z_callV hX kw_X9_13 (c_J4_append E K N Rf I L ht (by omega) (x := 70) (by decide)) rfl rfl rfl rfl rfl (by decide +kernel) (by decide) (by decide) (by decide) (by decide) (Nat.le_of_ble_eq_true rfl) ?_
  rintro _ _ ⟨I1, rfl, rfl, y1, y2⟩
  have hh1 := xHd_I hh (frB_hi y2)
  refine bk hX lkX9_ok (pc' := 10) [.pop, .aload_n 0, .aload_n 1, .iload_n 2] (by decide +kernel) (And.intro trivial ?_)
  refine z_callUp hX kp_X9_19 (c_X2_minds E K N Rf I1 L y1 hh1 (by decide) (by simp; omega) x) rfl rfl hks rfl (by decide +kernel) (by decide) (by decide) (by decide) (by decide) (Nat.le_of_ble_eq_true rfl) ?_
  rintro _ _ ⟨I2, rfl, rfl, z1, z2⟩
  have hh2 := xHd_I hh1 (frB_hi z2)
  have hll : (t ++ [70] ++ (hmA 6 v i x).2).length ≤ 15 := by
    rw [show (hmA 6 v i x).2 = [11, 71, 10] from rfl]; simp; omega
  refine bk hX lkX9_ok (pc' := 16) [.aload_n 0, .aload_n 1, .iconst 2] (by decide +kernel) (And.intro trivial ?_)
  refine z_callUp hX kp_X9_23 (c_X2_toils E K N Rf I2 L z1 hh2 (by decide) hll _) rfl rfl hks rfl (by decide +kernel) (by decide) (by decide) (by decide) (by decide) (Nat.le_of_ble_eq_true rfl) ?_
  rintro _ _ ⟨I3, rfl, rfl, u1, u2⟩
  refine bk hX lkX9_ok (pc' := 20) [.iadd] (by decide +kernel) (And.intro trivial ?_)
  exact z_iret hX (by decide +kernel) rfl (rfl) (by decide) (by decide) (⟨I3, rfl, rfl, by rw [List.append_assoc, List.append_assoc] at u1; exact u1, frB_tr (frB_tr y2 z2) u2⟩)
section
variable {X : zX} {E : zE} {M : zM} {d mc ms : Nat} {Po : Option Value → Sg → Prop} {cells slots pc : Nat} {lv : List (Nat × Value)} {st : List Value} {K N : Nat → Nat} {Rf : Nat → Nat → Option Nat} {I : Nat → Nat → Int32} {L : Nat → Nat → Int64}
theorem va_minds_X2 (hX : zD X E M d mc ms Po) (ho : M.1.cls = RX2) {t : List Nat} (ht : xTr t I) {h k i v : Nat} (hh : xHd K I h k i v) (hk6 : k ≤ 6) (hl : t.length ≤ 11) (x : Int32) (hd : decode M.2.1 pc = .ok (.invokevirtual 28, 3)) (hdep : 8 ≤ d) (hc : cells ≤ mc) (hs : slots ≤ ms) (hrm : (st.map fun v => v.category).sum ≤ 8) (kk : ∀ I', xTr (t ++ (mdA k v i x).2) I' → frB I I' → zS X (sg K N Rf I' L) cells slots (pc + 3) lv (.int (mdA k v i x).1 :: st)) : zS X (sg K N Rf I L) cells slots pc lv (.int x :: .ref 208 :: .ref h :: st) := by
  have hks : kF K h = hci k + 1 := by rw [← hh.2.1]; exact kF_hi K hh.1
  rcases (show k = 0 ∨ k = 1 ∨ k = 2 ∨ k = 3 ∨ k = 4 ∨ k = 5 ∨ k = 6 by omega) with rfl | rfl | rfl | rfl | rfl | rfl | rfl
  · refine z_callU hX (by rw [ho]; exact ku_X2_28_X2) (c_X2_minds E K N Rf I L ht hh (by decide) (by omega) x) rfl rfl hks rfl hd (by omega) (by decide) hc hs hrm ?_
    rintro _ _ ⟨I1, rfl, rfl, y1, y2⟩
    exact kk I1 y1 y2
  · refine z_callU hX (by rw [ho]; exact ku_X2_28_X4) (c_X4_minds E K N Rf I L ht hh (by decide) (by omega) x) rfl rfl hks rfl hd (by omega) (by decide) hc hs hrm ?_
    rintro _ _ ⟨I1, rfl, rfl, y1, y2⟩
    exact kk I1 y1 y2
  · refine z_callU hX (by rw [ho]; exact ku_X2_28_X3) (c_X2_minds E K N Rf I L ht hh (by decide) (by omega) x) rfl rfl hks rfl hd (by omega) (by decide) hc hs hrm ?_
    rintro _ _ ⟨I1, rfl, rfl, y1, y2⟩
    exact kk I1 y1 y2
  · refine z_callU hX (by rw [ho]; exact ku_X2_28_X6) (c_X2_minds E K N Rf I L ht hh (by decide) (by omega) x) rfl rfl hks rfl hd (by omega) (by decide) hc hs hrm ?_
    rintro _ _ ⟨I1, rfl, rfl, y1, y2⟩
    exact kk I1 y1 y2
  · refine z_callU hX (by rw [ho]; exact ku_X2_28_X0) (c_X0_minds E K N Rf I L ht hh (by omega) x) rfl rfl hks rfl hd (by omega) (by decide) hc hs hrm ?_
    rintro _ _ ⟨I1, rfl, rfl, y1, y2⟩
    exact kk I1 y1 y2
  · refine z_callU hX (by rw [ho]; exact ku_X2_28_X5) (c_X2_minds E K N Rf I L ht hh (by decide) (by omega) x) rfl rfl hks rfl hd (by omega) (by decide) hc hs hrm ?_
    rintro _ _ ⟨I1, rfl, rfl, y1, y2⟩
    exact kk I1 y1 y2
  · refine z_callU hX (by rw [ho]; exact ku_X2_28_X9) (c_X9_minds E K N Rf I L ht hh (by omega) x) rfl rfl hks rfl hd (by omega) (by decide) hc hs hrm ?_
    rintro _ _ ⟨I1, rfl, rfl, y1, y2⟩
    exact kk I1 y1 y2
theorem va_minds_X11 (hX : zD X E M d mc ms Po) (ho : M.1.cls = RX11) {t : List Nat} (ht : xTr t I) {h k i v : Nat} (hh : xHd K I h k i v) (hk6 : k ≤ 6) (hl : t.length ≤ 11) (x : Int32) (hd : decode M.2.1 pc = .ok (.invokevirtual 260, 3)) (hdep : 8 ≤ d) (hc : cells ≤ mc) (hs : slots ≤ ms) (hrm : (st.map fun v => v.category).sum ≤ 8) (kk : ∀ I', xTr (t ++ (mdA k v i x).2) I' → frB I I' → zS X (sg K N Rf I' L) cells slots (pc + 3) lv (.int (mdA k v i x).1 :: st)) : zS X (sg K N Rf I L) cells slots pc lv (.int x :: .ref 208 :: .ref h :: st) := by
  have hks : kF K h = hci k + 1 := by rw [← hh.2.1]; exact kF_hi K hh.1
  rcases (show k = 0 ∨ k = 1 ∨ k = 2 ∨ k = 3 ∨ k = 4 ∨ k = 5 ∨ k = 6 by omega) with rfl | rfl | rfl | rfl | rfl | rfl | rfl
  · refine z_callU hX (by rw [ho]; exact ku_X11_260_X2) (c_X2_minds E K N Rf I L ht hh (by decide) (by omega) x) rfl rfl hks rfl hd (by omega) (by decide) hc hs hrm ?_
    rintro _ _ ⟨I1, rfl, rfl, y1, y2⟩
    exact kk I1 y1 y2
  · refine z_callU hX (by rw [ho]; exact ku_X11_260_X4) (c_X4_minds E K N Rf I L ht hh (by decide) (by omega) x) rfl rfl hks rfl hd (by omega) (by decide) hc hs hrm ?_
    rintro _ _ ⟨I1, rfl, rfl, y1, y2⟩
    exact kk I1 y1 y2
  · refine z_callU hX (by rw [ho]; exact ku_X11_260_X3) (c_X2_minds E K N Rf I L ht hh (by decide) (by omega) x) rfl rfl hks rfl hd (by omega) (by decide) hc hs hrm ?_
    rintro _ _ ⟨I1, rfl, rfl, y1, y2⟩
    exact kk I1 y1 y2
  · refine z_callU hX (by rw [ho]; exact ku_X11_260_X6) (c_X2_minds E K N Rf I L ht hh (by decide) (by omega) x) rfl rfl hks rfl hd (by omega) (by decide) hc hs hrm ?_
    rintro _ _ ⟨I1, rfl, rfl, y1, y2⟩
    exact kk I1 y1 y2
  · refine z_callU hX (by rw [ho]; exact ku_X11_260_X0) (c_X0_minds E K N Rf I L ht hh (by omega) x) rfl rfl hks rfl hd (by omega) (by decide) hc hs hrm ?_
    rintro _ _ ⟨I1, rfl, rfl, y1, y2⟩
    exact kk I1 y1 y2
  · refine z_callU hX (by rw [ho]; exact ku_X11_260_X5) (c_X2_minds E K N Rf I L ht hh (by decide) (by omega) x) rfl rfl hks rfl hd (by omega) (by decide) hc hs hrm ?_
    rintro _ _ ⟨I1, rfl, rfl, y1, y2⟩
    exact kk I1 y1 y2
  · refine z_callU hX (by rw [ho]; exact ku_X11_260_X9) (c_X9_minds E K N Rf I L ht hh (by omega) x) rfl rfl hks rfl hd (by omega) (by decide) hc hs hrm ?_
    rintro _ _ ⟨I1, rfl, rfl, y1, y2⟩
    exact kk I1 y1 y2
theorem va_minds_X6 (hX : zD X E M d mc ms Po) (ho : M.1.cls = RX6) {t : List Nat} (ht : xTr t I) {h k i v : Nat} (hh : xHd K I h k i v) (hk6 : k ≤ 6) (hl : t.length ≤ 11) (x : Int32) (hk36 : k = 3 ∨ k = 6) (hd : decode M.2.1 pc = .ok (.invokevirtual 19, 3)) (hdep : 8 ≤ d) (hc : cells ≤ mc) (hs : slots ≤ ms) (hrm : (st.map fun v => v.category).sum ≤ 8) (kk : ∀ I', xTr (t ++ (mdA k v i x).2) I' → frB I I' → zS X (sg K N Rf I' L) cells slots (pc + 3) lv (.int (mdA k v i x).1 :: st)) : zS X (sg K N Rf I L) cells slots pc lv (.int x :: .ref 208 :: .ref h :: st) := by
  have hks : kF K h = hci k + 1 := by rw [← hh.2.1]; exact kF_hi K hh.1
  rcases hk36 with rfl | rfl
  · refine z_callU hX (by rw [ho]; exact ku_X6_19_X6) (c_X2_minds E K N Rf I L ht hh (by decide) (by omega) x) rfl rfl hks rfl hd (by omega) (by decide) hc hs hrm ?_
    rintro _ _ ⟨I1, rfl, rfl, y1, y2⟩
    exact kk I1 y1 y2
  · refine z_callU hX (by rw [ho]; exact ku_X6_19_X9) (c_X9_minds E K N Rf I L ht hh (by omega) x) rfl rfl hks rfl hd (by omega) (by decide) hc hs hrm ?_
    rintro _ _ ⟨I1, rfl, rfl, y1, y2⟩
    exact kk I1 y1 y2
end
theorem c_X2_tells (E : zE) (K N : Nat → Nat) (Rf : Nat → Nat → Option Nat) (I : Nat → Nat → Int32) (L : Nat → Nat → Int64) {t : List Nat} (ht : xTr t I) {h k i v : Nat} (hh : xHd K I h k i v) (hk6 : k ≤ 6) (hl : t.length ≤ 10) (x : Int32) : zCt E mX2_tells 8 0 0 (sg K N Rf I L) [.ref h, .ref 208, .int x] (fun r σ' => ∃ I', σ' = sg K N Rf I' L ∧ r = some (.int ((htA k v i x).1)) ∧ xTr (t ++ (htA k v i x).2) I' ∧ frB I I') := by
  have hks : kF K h = hci k + 1 := by rw [← hh.2.1]; exact kF_hi K hh.1
  refine z_intro (by decide) (Nat.le_of_ble_eq_true rfl) (fun X hX => ?_)
  refine bk hX lkX2_ok (pc' := 3) [.aload_n 1, .bipush 12] (by decide +kernel) (And.intro trivial ?_)
  refine z_callV hX kw_X2_18 (c_J4_append E K N Rf I L ht (by omega) (x := 12) (by decide)) rfl rfl rfl rfl rfl (by decide +kernel) (by decide) (by decide) (by decide) (by decide) (Nat.le_of_ble_eq_true rfl) ?_
  rintro _ _ ⟨I1, rfl, rfl, y1, y2⟩
  have hh1 := xHd_I hh (frB_hi y2)
  refine bk hX lkX2_ok (pc' := 10) [.pop, .aload_n 0, .aload_n 1, .iload_n 2] (by decide +kernel) (And.intro trivial ?_)
  refine va_minds_X2 hX rfl y1 hh1 hk6 (by simp; omega) x (by decide +kernel) (by decide) (by decide) (by decide) (Nat.le_of_ble_eq_true rfl) (fun I2 z1 z2 => ?_)
  refine bk hX lkX2_ok (pc' := 15) [.iconst 2, .imul] (by decide +kernel) (And.intro trivial ?_)
  exact z_iret hX (by decide +kernel) rfl (rfl) (by decide) (by decide) (⟨I2, rfl, rfl, by rw [List.append_assoc] at z1; exact z1, frB_tr y2 z2⟩)
theorem c_X5_tells (E : zE) (K N : Nat → Nat) (Rf : Nat → Nat → Option Nat) (I : Nat → Nat → Int32) (L : Nat → Nat → Int64) {t : List Nat} (ht : xTr t I) {h i v : Nat} (hh : xHd K I h 5 i v) (hl : t.length ≤ 9) (x : Int32) : zCt E mX5_tells 9 0 0 (sg K N Rf I L) [.ref h, .ref 208, .int x] (fun r σ' => ∃ I', σ' = sg K N Rf I' L ∧ r = some (.int ((tlA 5 v i x).1)) ∧ xTr (t ++ (tlA 5 v i x).2) I' ∧ frB I I') := by
  have hks : kF K h = hci 5 + 1 := by rw [← hh.2.1]; exact kF_hi K hh.1
  refine z_intro (by decide) (Nat.le_of_ble_eq_true rfl) (fun X hX => ?_)
  refine bk hX lkX5_ok (pc' := 3) [.aload_n 1, .bipush 60] (by decide +kernel) (And.intro trivial ?_)
  refine z_callV hX kw_X5_19 (c_J4_append E K N Rf I L ht (by omega) (x := 60) (by decide)) rfl rfl rfl rfl rfl (by decide +kernel) (by decide) (by decide) (by decide) (by decide) (Nat.le_of_ble_eq_true rfl) ?_
  rintro _ _ ⟨I1, rfl, rfl, y1, y2⟩
  have hh1 := xHd_I hh (frB_hi y2)
  refine bk hX lkX5_ok (pc' := 11) [.pop, .aload_n 0, .aload_n 1, .iload_n 2, .aload_n 0] (by decide +kernel) (And.intro trivial ?_)
  refine z_gI hX lkX5_ok 25 6 0 (fun k h => h) (by decide) (hks) (by decide +kernel) ?_
  rw [show (sg K N Rf I1 L).2.2.1 h 0 = nI i from hh1.2.2.1]
  refine bk hX lkX5_ok (pc' := 15) [.isub] (by decide +kernel) (And.intro trivial ?_)
  refine z_callUp hX kp_X5_29 (c_X2_tells E K N Rf I1 L y1 hh1 (by decide) (by simp; omega) _) rfl rfl hks rfl (by decide +kernel) (by decide) (by decide) (by decide) (by decide) (Nat.le_of_ble_eq_true rfl) ?_
  rintro _ _ ⟨I2, rfl, rfl, z1, z2⟩
  exact z_iret hX (by decide +kernel) rfl (rfl) (by decide) (by decide) (⟨I2, rfl, rfl, by rw [List.append_assoc] at z1; exact z1, frB_tr y2 z2⟩)
theorem md_len (k v i : Nat) (x : Int32) : (mdA k v i x).2.length ≤ 5 := by
  have hw : (wkA k v i x).2.length ≤ 2 := by
    unfold wkA; repeat' split
    all_goals exact Nat.le_of_ble_eq_true rfl
  have hw2 : (wkA k v i (x + nI 1)).2.length ≤ 2 := by
    unfold wkA; repeat' split
    all_goals exact Nat.le_of_ble_eq_true rfl
  unfold mdA lmA hmA
  repeat' split
  all_goals simp only [List.length_cons, List.length_append, List.length_nil]
  all_goals omega
theorem tl_6 {k : Nat} (h : k = 3 ∨ k = 6) (v i : Nat) (x : Int32) : tlA k v i x = ((htA k v i x).1 + (mdA k v i (nI 1)).1, 40 :: ((htA k v i x).2 ++ (mdA k v i (nI 1)).2)) := by rw [tlA, if_pos h]
theorem c_X6_tells (E : zE) (K N : Nat → Nat) (Rf : Nat → Nat → Option Nat) (I : Nat → Nat → Int32) (L : Nat → Nat → Int64) {t : List Nat} (ht : xTr t I) {h k i v : Nat} (hh : xHd K I h k i v) (hk6 : k ≤ 6) (hk36 : k = 3 ∨ k = 6) (hl : t.length ≤ 4) (x : Int32) : zCt E mX6_tells 9 0 0 (sg K N Rf I L) [.ref h, .ref 208, .int x] (fun r σ' => ∃ I', σ' = sg K N Rf I' L ∧ r = some (.int ((tlA k v i x).1)) ∧ xTr (t ++ (tlA k v i x).2) I' ∧ frB I I') := by
  rw [tl_6 hk36]
  have hks : kF K h = hci k + 1 := by rw [← hh.2.1]; exact kF_hi K hh.1
  obtain ⟨cq, hcq⟩ := hci_cl k hk6
  refine z_intro (by decide) (Nat.le_of_ble_eq_true rfl) (fun X hX => ?_)
  refine bk hX lkX6_ok (pc' := 3) [.aload_n 1, .bipush 40] (by decide +kernel) (And.intro trivial ?_)
  refine z_callV hX kw_X6_9 (c_J4_append E K N Rf I L ht (by omega) (x := 40) (by decide)) rfl rfl rfl rfl rfl (by decide +kernel) (by decide) (by decide) (by decide) (by decide) (Nat.le_of_ble_eq_true rfl) ?_
  rintro _ _ ⟨I1, rfl, rfl, y1, y2⟩
  have hh1 := xHd_I hh (frB_hi y2)
  refine bk hX lkX6_ok (pc' := 10) [.pop, .aload_n 0, .aload_n 1, .iload_n 2] (by decide +kernel) (And.intro trivial ?_)
  refine z_callSU hX ks_X6_15 (c_X2_tells E K N Rf I1 L y1 hh1 hk6 (by simp; omega) x) rfl rfl hks hcq (by decide +kernel) (by decide) (by decide) (by decide) (by decide) (Nat.le_of_ble_eq_true rfl) ?_
  rintro _ _ ⟨I2, rfl, rfl, z1, z2⟩
  have hh2 := xHd_I hh1 (frB_hi z2)
  have hml := md_len k v i x
  have hll : (t ++ [40] ++ (htA k v i x).2).length ≤ 11 := by
    rw [show (htA k v i x).2 = 12 :: (mdA k v i x).2 from rfl]; simp; omega
  refine bk hX lkX6_ok (pc' := 16) [.aload_n 0, .aload_n 1, .iconst 1] (by decide +kernel) (And.intro trivial ?_)
  refine va_minds_X6 hX rfl z1 hh2 hk6 hll (nI 1) hk36 (by decide +kernel) (by decide) (by decide) (by decide) (Nat.le_of_ble_eq_true rfl) (fun I3 u1 u2 => ?_)
  refine bk hX lkX6_ok (pc' := 20) [.iadd] (by decide +kernel) (And.intro trivial ?_)
  exact z_iret hX (by decide +kernel) rfl (rfl) (by decide) (by decide) (⟨I3, rfl, rfl, by rw [List.append_assoc, List.append_assoc] at u1; exact u1, frB_tr (frB_tr y2 z2) u2⟩)
section
variable {X : zX} {E : zE} {M : zM} {d mc ms : Nat} {Po : Option Value → Sg → Prop} {cells slots pc : Nat} {lv : List (Nat × Value)} {st : List Value} {K N : Nat → Nat} {Rf : Nat → Nat → Option Nat} {I : Nat → Nat → Int32} {L : Nat → Nat → Int64}
theorem va_tells_X11 (hX : zD X E M d mc ms Po) (ho : M.1.cls = RX11) {t : List Nat} (ht : xTr t I) {h k i v : Nat} (hh : xHd K I h k i v) (hk6 : k ≤ 6) (hl : t.length ≤ 4) (x : Int32) (hd : decode M.2.1 pc = .ok (.invokevirtual 263, 3)) (hdep : 10 ≤ d) (hc : cells ≤ mc) (hs : slots ≤ ms) (hrm : (st.map fun v => v.category).sum ≤ 8) (kk : ∀ I', xTr (t ++ (tlA k v i x).2) I' → frB I I' → zS X (sg K N Rf I' L) cells slots (pc + 3) lv (.int (tlA k v i x).1 :: st)) : zS X (sg K N Rf I L) cells slots pc lv (.int x :: .ref 208 :: .ref h :: st) := by
  have hks : kF K h = hci k + 1 := by rw [← hh.2.1]; exact kF_hi K hh.1
  rcases (show k = 0 ∨ k = 1 ∨ k = 2 ∨ k = 3 ∨ k = 4 ∨ k = 5 ∨ k = 6 by omega) with rfl | rfl | rfl | rfl | rfl | rfl | rfl
  · refine z_callU hX (by rw [ho]; exact ku_X11_263_X2) (c_X2_tells E K N Rf I L ht hh (by decide) (by omega) x) rfl rfl hks rfl hd (by omega) (by decide) hc hs hrm ?_
    rintro _ _ ⟨I1, rfl, rfl, y1, y2⟩
    exact kk I1 y1 y2
  · refine z_callU hX (by rw [ho]; exact ku_X11_263_X4) (c_X2_tells E K N Rf I L ht hh (by decide) (by omega) x) rfl rfl hks rfl hd (by omega) (by decide) hc hs hrm ?_
    rintro _ _ ⟨I1, rfl, rfl, y1, y2⟩
    exact kk I1 y1 y2
  · refine z_callU hX (by rw [ho]; exact ku_X11_263_X3) (c_X2_tells E K N Rf I L ht hh (by decide) (by omega) x) rfl rfl hks rfl hd (by omega) (by decide) hc hs hrm ?_
    rintro _ _ ⟨I1, rfl, rfl, y1, y2⟩
    exact kk I1 y1 y2
  · refine z_callU hX (by rw [ho]; exact ku_X11_263_X6) (c_X6_tells E K N Rf I L ht hh (by decide) (Or.inl rfl) (by omega) x) rfl rfl hks rfl hd (by omega) (by decide) hc hs hrm ?_
    rintro _ _ ⟨I1, rfl, rfl, y1, y2⟩
    exact kk I1 y1 y2
  · refine z_callU hX (by rw [ho]; exact ku_X11_263_X0) (c_X2_tells E K N Rf I L ht hh (by decide) (by omega) x) rfl rfl hks rfl hd (by omega) (by decide) hc hs hrm ?_
    rintro _ _ ⟨I1, rfl, rfl, y1, y2⟩
    exact kk I1 y1 y2
  · refine z_callU hX (by rw [ho]; exact ku_X11_263_X5) (c_X5_tells E K N Rf I L ht hh (by omega) x) rfl rfl hks rfl hd (by omega) (by decide) hc hs hrm ?_
    rintro _ _ ⟨I1, rfl, rfl, y1, y2⟩
    exact kk I1 y1 y2
  · refine z_callU hX (by rw [ho]; exact ku_X11_263_X9) (c_X6_tells E K N Rf I L ht hh (by decide) (Or.inr rfl) (by omega) x) rfl rfl hks rfl hd (by omega) (by decide) hc hs hrm ?_
    rintro _ _ ⟨I1, rfl, rfl, y1, y2⟩
    exact kk I1 y1 y2
end
theorem c_X_act (E : zE) (K N : Nat → Nat) (Rf : Nat → Nat → Option Nat) (I : Nat → Nat → Int32) (L : Nat → Nat → Int64) {g : Gv} (hg : gwf g) (hG : xG 300 g K Rf I) {t : List Nat} (ht : xTr t I) (x a y : Int32) : zCt E mX11_act 10 0 0 (sg K N Rf I L) [.ref 200, .int x, .int a, .int y] (fun r σ' => ∃ I', σ' = sg K N Rf I' L ∧ r = some (.int (actS g x a y).1) ∧ xTr (actS g x a y).2 I' ∧ frB I I') := by
  have h6 := hg.1
  refine z_intro (by decide) (Nat.le_of_ble_eq_true rfl) (fun X hX => ?_)
  refine bk hX lkX11_ok (pc' := 5) [.aload_n 0, .getfield 31, .iconst 0] (by decide +kernel) (And.intro trivial ?_)
  refine z_callV hX kw_X11_253 (c_J4_setLength E K N Rf I L ht) rfl rfl rfl rfl rfl (by decide +kernel) (by decide) (by decide) (by decide) (by decide) (Nat.le_of_ble_eq_true rfl) ?_
  rintro _ _ ⟨I0, rfl, rfl, y1, y2⟩
  have h04 : I0 300 4 = nI (gn g) := by rw [y2 300 (by decide) (by decide)]; exact hG.1
  refine bk hX lkX11_ok (pc' := 10) [.aload_n 0, .iload_n 1] (by decide +kernel) (And.intro trivial ?_)
  refine z_callV hX kw_X11_77 (c_X_isWorker E K N _ _ L _ hg.1 h04) rfl rfl rfl rfl rfl (by decide +kernel) (by decide) (by decide) (by decide) (by decide) (Nat.le_of_ble_eq_true rfl) ?_
  rintro _ _ ⟨rfl, hh⟩
  rcases hh with ⟨hw, rfl⟩ | ⟨hw, rfl⟩
  · refine if_ne hX (5) 18 (by decide +kernel) (by decide) (fun c_13 => ?_) (fun c => absurd c (by decide))
    obtain ⟨i, hi, rfl⟩ := isIn_ex hw (by omega)
    have ci : (nI i).toNatClampNeg = i := cl (by omega)
    obtain ⟨⟨h, hr, hh⟩, -⟩ := hG.2.2.2 i hi
    have hk6 := (hg.2.1 i hi).1
    have hh1 := xHd_I hh (frB_hi y2)
    have ji : jx (nI i) = i := jx_nI (by omega)
    refine bk hX lkX11_ok (pc' := 26) [.aload_n 0, .getfield 12, .getfield 80, .iload_n 1] (by decide +kernel) (And.intro trivial ?_)
    refine z_aald hX (q := h) (rfl) (vin 6 (by omega)) (by rw [ci]; exact hr) (by decide +kernel) ?_
    refine bk hX lkX11_ok (pc' := 30) [.astore 4, .iload_n 2] (by decide +kernel) (And.intro trivial ?_)
    rcases sw3 a with rfl | rfl | rfl | h7
    · refine z_tsw hX 56 (dflt := 59) (lo := 0) (hi := 2) (offs := #[26, 37, 48]) (len := 26) (off := 26) (by decide +kernel) (by decide) (by decide) ?_
      refine bk hX lkX11_ok (pc' := 63) [.aload 4, .aload_n 0, .getfield 31, .iload_n 3] (by decide +kernel) (And.intro trivial ?_)
      refine va_toils_X11 hX rfl y1 hh1 hk6 (by decide) y (by decide +kernel) (by decide) (by decide) (by decide) (Nat.le_of_ble_eq_true rfl) (fun I2 z1 z2 => ?_)
      exact z_iret hX (by decide +kernel) rfl (rfl) (by decide) (by decide) (by
  rw [show actS g (nI i) (nI 0) y = wkA (gk g i) (gv g i) i y by rw [actS, if_pos ⟨hw, by decide⟩, if_pos (show nI 0 = 0 from rfl), ji]]
  exact ⟨I2, rfl, rfl, z1, frB_tr y2 z2⟩)
    · refine z_tsw hX 67 (dflt := 59) (lo := 0) (hi := 2) (offs := #[26, 37, 48]) (len := 26) (off := 37) (by decide +kernel) (by decide) (by decide) ?_
      refine bk hX lkX11_ok (pc' := 74) [.aload 4, .aload_n 0, .getfield 31, .iload_n 3] (by decide +kernel) (And.intro trivial ?_)
      refine va_minds_X11 hX rfl y1 hh1 hk6 (by decide) y (by decide +kernel) (by decide) (by decide) (by decide) (Nat.le_of_ble_eq_true rfl) (fun I2 z1 z2 => ?_)
      exact z_iret hX (by decide +kernel) rfl (rfl) (by decide) (by decide) (by
  rw [show actS g (nI i) (nI 1) y = mdA (gk g i) (gv g i) i y by rw [actS, if_pos ⟨hw, by decide⟩, if_neg (by decide), if_pos rfl, ji]]
  exact ⟨I2, rfl, rfl, z1, frB_tr y2 z2⟩)
    · refine z_tsw hX 78 (dflt := 59) (lo := 0) (hi := 2) (offs := #[26, 37, 48]) (len := 26) (off := 48) (by decide +kernel) (by decide) (by decide) ?_
      refine bk hX lkX11_ok (pc' := 85) [.aload 4, .aload_n 0, .getfield 31, .iload_n 3] (by decide +kernel) (And.intro trivial ?_)
      refine va_tells_X11 hX rfl y1 hh1 hk6 (by decide) y (by decide +kernel) (by decide) (by decide) (by decide) (Nat.le_of_ble_eq_true rfl) (fun I2 z1 z2 => ?_)
      exact z_iret hX (by decide +kernel) rfl (rfl) (by decide) (by decide) (by
  rw [show actS g (nI i) (nI 2) y = tlA (gk g i) (gv g i) i y by rw [actS, if_pos ⟨hw, by decide⟩, if_neg (by decide), if_neg (by decide), ji]]
  exact ⟨I2, rfl, rfl, z1, frB_tr y2 z2⟩)
    · refine z_tsw hX 89 (dflt := 59) (lo := 0) (hi := 2) (offs := #[26, 37, 48]) (len := 26) (off := 59) (by decide +kernel) (Or.inl ⟨isIn_out (n := 2) h7, rfl⟩) (by decide) ?_
      refine bk hX lkX11_ok (pc' := 90) [.iconst 0] (by decide +kernel) (And.intro trivial ?_)
      exact z_iret hX (by decide +kernel) rfl (rfl) (by decide) (by decide) (⟨I0, rfl, by rw [actS, if_neg (fun z => h7 z.2)]; rfl, by rw [actS, if_neg (fun z => h7 z.2)]; exact y1, y2⟩)
  · refine if_ne hX (5) 18 (by decide +kernel) (by decide) (fun c => absurd (by decide) c) (fun c_13 => ?_)
    refine bk hX lkX11_ok (pc' := 17) [.iconst 0] (by decide +kernel) (And.intro trivial ?_)
    exact z_iret hX (by decide +kernel) rfl (rfl) (by decide) (by decide) (⟨I0, rfl, by rw [actS, if_neg (fun z => hw z.1)]; rfl, by rw [actS, if_neg (fun z => hw z.1)]; exact y1, y2⟩)
