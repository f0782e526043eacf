/-! ===== the reader of works: what it holds ===== -/
section
variable {X : zX} {E : zE} {M : zM} {d mc ms : Nat} {Po : Option Value → Sg → Prop} {σ : Sg} {cells slots pc : Nat} {lv : List (Nat × Value)} {st : List Value}
theorem z_gIv (hX : zD X E M d mc ms Po) {lk : zLk} (hlk : zlkOK M.1.cls lk) (idx ci j : Nat) {tc : Nat} {fin : Bool} (hz : ∀ k : Nat → Nat → Nat → Bool → Prop, k ci j tc fin → zlkF lk.1 idx k) (ht : tc ≠ 1) {p : Nat} (hk : σ.1 p = ci + 1) (hd : decode M.2.1 pc = .ok (.getfield idx, 3)) {v : Int32} (hv : σ.2.2.1 p j = v) (kk : zS X σ cells slots (pc + 3) lv (.int v :: st)) : zS X σ cells slots pc lv (.ref p :: st) := by
  refine z_gI hX hlk idx ci j hz ht hk hd ?_
  rw [hv]
  exact kk
end
def rdF (rd wo a b c : Nat) (t : List Nat) (K N : Nat → Nat) (R : Nat → Nat → Option Nat) : Prop := (1000 ≤ rd ∧ K rd = 9 ∧ R rd 0 = some 205 ∧ R rd 2 = some wo) ∧ (1000 ≤ wo ∧ K wo = 12) ∧ (1000 ≤ a ∧ K a = 22 ∧ N a = t.length ∧ R wo 0 = some a) ∧ (1000 ≤ b ∧ K b = 22 ∧ N b = t.length ∧ R wo 1 = some b) ∧ (1000 ≤ c ∧ K c = 22 ∧ N c = t.length ∧ R wo 2 = some c) ∧ (a ≠ b ∧ a ≠ c ∧ b ≠ c)
def rdI (rd wo a b c : Nat) (t : List Nat) (I0 I : Nat → Nat → Int32) (p : Nat) (ss : List Spt) (r : Nat) : Prop := (∀ q, q ≠ rd → q ≠ wo → q ≠ a → q ≠ b → q ≠ c → I q = I0 q) ∧ I rd 1 = nI t.length ∧ I rd 3 = nI p ∧ I wo 3 = nI ss.length ∧ I wo 4 = nI r ∧ ∀ j, j < ss.length → I a j = nI (ss.getD j (0, 0, 0)).1 ∧ I b j = nI (ss.getD j (0, 0, 0)).2.1 ∧ I c j = nI (ss.getD j (0, 0, 0)).2.2
theorem rd_k {rd wo a b c : Nat} {t : List Nat} {K N : Nat → Nat} {R : Nat → Nat → Option Nat} (hF : rdF rd wo a b c t K N R) (I : Nat → Nat → Int32) (L : Nat → Nat → Int64) : (sg K N R I L).1 rd = 8 + 1 := (kF_hi K hF.1.1).trans hF.1.2.1
theorem rd_0 {rd wo a b c : Nat} {t : List Nat} {K N : Nat → Nat} {R : Nat → Nat → Option Nat} (hF : rdF rd wo a b c t K N R) (I : Nat → Nat → Int32) (L : Nat → Nat → Int64) : (sg K N R I L).2.2.2.2 rd 0 = some 205 := (rF_hi R hF.1.1 0).trans hF.1.2.2.1
theorem rd_2 {rd wo a b c : Nat} {t : List Nat} {K N : Nat → Nat} {R : Nat → Nat → Option Nat} (hF : rdF rd wo a b c t K N R) (I : Nat → Nat → Int32) (L : Nat → Nat → Int64) : (sg K N R I L).2.2.2.2 rd 2 = some wo := (rF_hi R hF.1.1 2).trans hF.1.2.2.2
theorem wo_k {rd wo a b c : Nat} {t : List Nat} {K N : Nat → Nat} {R : Nat → Nat → Option Nat} (hF : rdF rd wo a b c t K N R) (I : Nat → Nat → Int32) (L : Nat → Nat → Int64) : (sg K N R I L).1 wo = 11 + 1 := (kF_hi K hF.2.1.1).trans hF.2.1.2
theorem wo_0 {rd wo a b c : Nat} {t : List Nat} {K N : Nat → Nat} {R : Nat → Nat → Option Nat} (hF : rdF rd wo a b c t K N R) (I : Nat → Nat → Int32) (L : Nat → Nat → Int64) : (sg K N R I L).2.2.2.2 wo 0 = some a := (rF_hi R hF.2.1.1 0).trans hF.2.2.1.2.2.2
theorem wo_1 {rd wo a b c : Nat} {t : List Nat} {K N : Nat → Nat} {R : Nat → Nat → Option Nat} (hF : rdF rd wo a b c t K N R) (I : Nat → Nat → Int32) (L : Nat → Nat → Int64) : (sg K N R I L).2.2.2.2 wo 1 = some b := (rF_hi R hF.2.1.1 1).trans hF.2.2.2.1.2.2.2
theorem wo_2 {rd wo a b c : Nat} {t : List Nat} {K N : Nat → Nat} {R : Nat → Nat → Option Nat} (hF : rdF rd wo a b c t K N R) (I : Nat → Nat → Int32) (L : Nat → Nat → Int64) : (sg K N R I L).2.2.2.2 wo 2 = some c := (rF_hi R hF.2.1.1 2).trans hF.2.2.2.2.1.2.2.2
theorem wa_k {rd wo a b c : Nat} {t : List Nat} {K N : Nat → Nat} {R : Nat → Nat → Option Nat} (hF : rdF rd wo a b c t K N R) (I : Nat → Nat → Int32) (L : Nat → Nat → Int64) : (sg K N R I L).1 a = 22 := (kF_hi K hF.2.2.1.1).trans hF.2.2.1.2.1
theorem wb_k {rd wo a b c : Nat} {t : List Nat} {K N : Nat → Nat} {R : Nat → Nat → Option Nat} (hF : rdF rd wo a b c t K N R) (I : Nat → Nat → Int32) (L : Nat → Nat → Int64) : (sg K N R I L).1 b = 22 := (kF_hi K hF.2.2.2.1.1).trans hF.2.2.2.1.2.1
theorem wc_k {rd wo a b c : Nat} {t : List Nat} {K N : Nat → Nat} {R : Nat → Nat → Option Nat} (hF : rdF rd wo a b c t K N R) (I : Nat → Nat → Int32) (L : Nat → Nat → Int64) : (sg K N R I L).1 c = 22 := (kF_hi K hF.2.2.2.2.1.1).trans hF.2.2.2.2.1.2.1
theorem wa_n {rd wo a b c : Nat} {t : List Nat} {K N : Nat → Nat} {R : Nat → Nat → Option Nat} (hF : rdF rd wo a b c t K N R) (I : Nat → Nat → Int32) (L : Nat → Nat → Int64) : (sg K N R I L).2.1 a = t.length := (nF_hi N hF.2.2.1.1).trans hF.2.2.1.2.2.1
theorem wb_n {rd wo a b c : Nat} {t : List Nat} {K N : Nat → Nat} {R : Nat → Nat → Option Nat} (hF : rdF rd wo a b c t K N R) (I : Nat → Nat → Int32) (L : Nat → Nat → Int64) : (sg K N R I L).2.1 b = t.length := (nF_hi N hF.2.2.2.1.1).trans hF.2.2.2.1.2.2.1
theorem wc_n {rd wo a b c : Nat} {t : List Nat} {K N : Nat → Nat} {R : Nat → Nat → Option Nat} (hF : rdF rd wo a b c t K N R) (I : Nat → Nat → Int32) (L : Nat → Nat → Int64) : (sg K N R I L).2.1 c = t.length := (nF_hi N hF.2.2.2.2.1.1).trans hF.2.2.2.2.1.2.2.1
theorem rd_ne {rd wo a b c : Nat} {t : List Nat} {K N : Nat → Nat} {R : Nat → Nat → Option Nat} (hF : rdF rd wo a b c t K N R) : wo ≠ rd ∧ a ≠ rd ∧ b ≠ rd ∧ c ≠ rd ∧ a ≠ wo ∧ b ≠ wo ∧ c ≠ wo := by
  obtain ⟨⟨-, h1, -, -⟩, ⟨-, h2⟩, ⟨-, h3, -, -⟩, ⟨-, h4, -, -⟩, ⟨-, h5, -, -⟩, -⟩ := hF
  refine ⟨?_, ?_, ?_, ?_, ?_, ?_, ?_⟩ <;> (intro e; subst e; omega)
theorem rdI_at {rd wo a b c : Nat} {t : List Nat} {K N : Nat → Nat} {R : Nat → Nat → Option Nat} (hF : rdF rd wo a b c t K N R) {I0 I : Nat → Nat → Int32} {p r : Nat} {ss : List Spt} (h : rdI rd wo a b c t I0 I p ss r) (p' : Nat) : rdI rd wo a b c t I0 (up2 I rd 3 (nI p')) p' ss r := by
  obtain ⟨n1, n2, n3, n4, n5, n6, n7⟩ := rd_ne hF
  obtain ⟨h1, h2, h3, h4, h5, h6⟩ := h
  refine ⟨fun q q1 q2 q3 q4 q5 => by rw [up2_ne _ _ _ q1]; exact h1 q q1 q2 q3 q4 q5, by rw [up2_at, if_neg (by decide)]; exact h2, up2_self _ _ _ _, by rw [up2_ne _ _ _ n1]; exact h4, by rw [up2_ne _ _ _ n1]; exact h5, fun j hj => ?_⟩
  rw [up2_ne _ _ _ n2, up2_ne _ _ _ n3, up2_ne _ _ _ n4]
  exact h6 j hj
theorem rdI_rd {rd wo a b c : Nat} {t : List Nat} {K N : Nat → Nat} {R : Nat → Nat → Option Nat} (hF : rdF rd wo a b c t K N R) {I0 I : Nat → Nat → Int32} {p r : Nat} {ss : List Spt} (h : rdI rd wo a b c t I0 I p ss r) (n : Nat) : rdI rd wo a b c t I0 (up2 I wo 4 (nI n)) p ss n := by
  obtain ⟨n1, n2, n3, n4, n5, n6, n7⟩ := rd_ne hF
  obtain ⟨h1, h2, h3, h4, h5, h6⟩ := h
  refine ⟨fun q q1 q2 q3 q4 q5 => by rw [up2_ne _ _ _ q2]; exact h1 q q1 q2 q3 q4 q5, by rw [up2_ne _ _ _ n1.symm]; exact h2, by rw [up2_ne _ _ _ n1.symm]; exact h3, by rw [up2_at, if_neg (by decide)]; exact h4, up2_self _ _ _ _, fun j hj => ?_⟩
  rw [up2_ne _ _ _ n5, up2_ne _ _ _ n6, up2_ne _ _ _ n7]
  exact h6 j hj
theorem rdI_add {rd wo a b c : Nat} {t : List Nat} {K N : Nat → Nat} {R : Nat → Nat → Option Nat} (hF : rdF rd wo a b c t K N R) {I0 I : Nat → Nat → Int32} {p r : Nat} {ss : List Spt} (h : rdI rd wo a b c t I0 I p ss r) (x y z : Nat) : rdI rd wo a b c t I0 (up2 (up2 (up2 (up2 I a ss.length (nI x)) b ss.length (nI y)) c ss.length (nI z)) wo 3 (nI (ss.length + 1))) p (ss ++ [(x, y, z)]) r := by
  obtain ⟨n1, n2, n3, n4, n5, n6, n7⟩ := rd_ne hF
  obtain ⟨m1, m2, m3⟩ := hF.2.2.2.2.2
  obtain ⟨h1, h2, h3, h4, h5, h6⟩ := h
  have e3 : ∀ q, q ≠ a → q ≠ b → q ≠ c → (up2 (up2 (up2 I a ss.length (nI x)) b ss.length (nI y)) c ss.length (nI z)) q = I q := fun q q1 q2 q3 => by rw [up2_ne _ _ _ q3, up2_ne _ _ _ q2, up2_ne _ _ _ q1]
  refine ⟨fun q q1 q2 q3 q4 q5 => by rw [up2_ne _ _ _ q2, e3 q q3 q4 q5]; exact h1 q q1 q2 q3 q4 q5, by rw [up2_ne _ _ _ n1.symm, e3 _ n2.symm n3.symm n4.symm]; exact h2, by rw [up2_ne _ _ _ n1.symm, e3 _ n2.symm n3.symm n4.symm]; exact h3, by rw [up2_self, List.length_append]; rfl, by rw [up2_at, if_neg (by decide), e3 _ n5.symm n6.symm n7.symm]; exact h5, fun j hj => ?_⟩
  rw [List.length_append, List.length_singleton] at hj
  rw [up2_ne _ _ _ n5, up2_ne _ _ _ n6, up2_ne _ _ _ n7, up2_ne _ _ _ m2, up2_ne _ _ _ m1, up2_ne _ _ _ m3, up2_at, up2_at, up2_ne _ _ _ m1.symm, up2_at, up2_ne _ _ _ m3.symm, up2_ne _ _ _ m2.symm]
  by_cases e : j = ss.length
  · subst e
    rw [if_pos rfl, if_pos rfl, if_pos rfl, getD_app]
    exact ⟨rfl, rfl, rfl⟩
  · rw [if_neg e, if_neg e, if_neg e, List.getD_eq_getElem?_getD, List.getElem?_append_left (by omega), ← List.getD_eq_getElem?_getD]
    exact h6 j (by omega)
theorem c_R_add (E : zE) (K N : Nat → Nat) (Rf : Nat → Nat → Option Nat) (I : Nat → Nat → Int32) (L : Nat → Nat → Int64) {I0 : Nat → Nat → Int32} {rd wo a b c : Nat} {t : List Nat} (ht : txw t) (hF : rdF rd wo a b c t K N Rf) {p r : Nat} {ss : List Spt} (h : rdI rd wo a b c t I0 I p ss r) (hl : ss.length < t.length) (x y z : Nat) : zCt E mX10_add 0 0 0 (sg K N Rf I L) [.ref wo, .int (nI x), .int (nI y), .int (nI z)] (fun v σ' => ∃ I', σ' = sg K N Rf I' L ∧ v = none ∧ rdI rd wo a b c t I0 I' p (ss ++ [(x, y, z)]) r) := by
  obtain ⟨n1, n2, n3, n4, n5, n6, n7⟩ := rd_ne hF
  have ht1 := ht.1
  have cs : (nI ss.length).toNatClampNeg = ss.length := cl (by omega)
  refine z_intro (by decide) (Nat.le_of_ble_eq_true rfl) (fun X hX => ?_)
  refine bk hX lkX10_ok (pc' := 1) [.aload_n 0] (by decide +kernel) (And.intro trivial ?_)
  refine z_gIv hX lkX10_ok 19 11 3 (fun k h => h) (by decide) (wo_k hF I L) (by decide +kernel) (h.2.2.2.1) ?_
  refine bk hX lkX10_ok (pc' := 5) [.aload_n 0] (by decide +kernel) (And.intro trivial ?_)
  refine z_gR hX lkX10_ok 7 11 0 (fun k h => h) (wo_k hF I L) (wo_0 hF I L) (by decide +kernel) ?_
  refine z_alen hX lkX10_ok (by rw [wa_k hF I L]; decide) (by decide +kernel) ?_
  rw [show (sg K N Rf I L).2.1 a = t.length from wa_n hF I L]
  refine ic_ge hX (43) 52 (by decide +kernel) (by decide) (fun c => absurd c (fun z => absurd ((nI_leI (by omega) (by omega)).mp z) (by omega))) (fun c_9 => ?_)
  refine bk hX lkX10_ok (pc' := 13) [.aload_n 0] (by decide +kernel) (And.intro trivial ?_)
  refine z_gR hX lkX10_ok 7 11 0 (fun k h => h) (wo_k hF I L) (wo_0 hF I L) (by decide +kernel) ?_
  refine bk hX lkX10_ok (pc' := 17) [.aload_n 0] (by decide +kernel) (And.intro trivial ?_)
  refine z_gIv hX lkX10_ok 19 11 3 (fun k h => h) (by decide) (wo_k hF I L) (by decide +kernel) (h.2.2.2.1) ?_
  refine bk hX lkX10_ok (pc' := 21) [.iload_n 1] (by decide +kernel) (And.intro trivial ?_)
  refine z_iast hX lkX10_ok (wa_k hF I L) (by rw [wa_n hF I L]; exact vp_in_nI hl (by omega)) (by decide +kernel) ?_
  show zS _ (sg K N Rf _ L) _ _ _ _ _
  refine bk hX lkX10_ok (pc' := 23) [.aload_n 0] (by decide +kernel) (And.intro trivial ?_)
  refine z_gR hX lkX10_ok 13 11 1 (fun k h => h) (wo_k hF _ L) (wo_1 hF _ L) (by decide +kernel) ?_
  refine bk hX lkX10_ok (pc' := 27) [.aload_n 0] (by decide +kernel) (And.intro trivial ?_)
  refine z_gIv hX lkX10_ok 19 11 3 (fun k h => h) (by decide) (wo_k hF _ L) (by decide +kernel) ((congrFun (up2_ne _ _ _ n5.symm) 3).trans h.2.2.2.1) ?_
  refine bk hX lkX10_ok (pc' := 31) [.iload_n 2] (by decide +kernel) (And.intro trivial ?_)
  refine z_iast hX lkX10_ok (wb_k hF _ L) (by rw [wb_n hF _ L]; exact vp_in_nI hl (by omega)) (by decide +kernel) ?_
  show zS _ (sg K N Rf _ L) _ _ _ _ _
  refine bk hX lkX10_ok (pc' := 33) [.aload_n 0] (by decide +kernel) (And.intro trivial ?_)
  refine z_gR hX lkX10_ok 16 11 2 (fun k h => h) (wo_k hF _ L) (wo_2 hF _ L) (by decide +kernel) ?_
  refine bk hX lkX10_ok (pc' := 37) [.aload_n 0] (by decide +kernel) (And.intro trivial ?_)
  refine z_gIv hX lkX10_ok 19 11 3 (fun k h => h) (by decide) (wo_k hF _ L) (by decide +kernel) ((congrFun ((up2_ne _ _ _ n6.symm).trans (up2_ne _ _ _ n5.symm)) 3).trans h.2.2.2.1) ?_
  refine bk hX lkX10_ok (pc' := 41) [.iload_n 3] (by decide +kernel) (And.intro trivial ?_)
  refine z_iast hX lkX10_ok (wc_k hF _ L) (by rw [wc_n hF _ L]; exact vp_in_nI hl (by omega)) (by decide +kernel) ?_
  show zS _ (sg K N Rf _ L) _ _ _ _ _
  refine bk hX lkX10_ok (pc' := 44) [.aload_n 0, .dup] (by decide +kernel) (And.intro trivial ?_)
  refine z_gIv hX lkX10_ok 19 11 3 (fun k h => h) (by decide) (wo_k hF _ L) (by decide +kernel) ((congrFun ((up2_ne _ _ _ n7.symm).trans ((up2_ne _ _ _ n6.symm).trans (up2_ne _ _ _ n5.symm))) 3).trans h.2.2.2.1) ?_
  refine bk hX lkX10_ok (pc' := 49) [.iconst 1, .iadd] (by decide +kernel) (And.intro trivial ?_)
  rw [nI_add]
  refine z_pI hX lkX10_ok (z_no _ _) 19 11 3 (fun k h => h) rfl (wo_k hF _ L) (by decide +kernel) ?_
  show zS _ (sg K N Rf _ L) _ _ _ _ _
  exact z_vret hX (by decide +kernel) rfl (by decide) (by decide) (by
  rw [cs]
  exact ⟨_, rfl, rfl, rdI_add hF h x y z⟩)
theorem c_R_sign (E : zE) (K N : Nat → Nat) (Rf : Nat → Nat → Option Nat) (I : Nat → Nat → Int32) (L : Nat → Nat → Int64) {I0 : Nat → Nat → Int32} {rd wo a b c : Nat} {t : List Nat} (ht : txw t) (hF : rdF rd wo a b c t K N Rf) (hT : ∀ k, k < t.length → I0 205 k = nI (t.getD k 0)) {p r : Nat} {ss : List Spt} (h : rdI rd wo a b c t I0 I p ss r) (hp : p ≤ t.length) : zCt E mX7_sign 0 0 0 (sg K N Rf I L) [.ref rd] (fun v σ' => σ' = (sg K N Rf I L) ∧ v = some (.int (nxI (nx t p)))) := by
  have ht1 := ht.1
  have f1 := hF.1.1
  have f2 := hF.2.1.1
  have f3 := hF.2.2.1.1
  have f4 := hF.2.2.2.1.1
  have f5 := hF.2.2.2.2.1.1
  refine z_intro (by decide) (Nat.le_of_ble_eq_true rfl) (fun X hX => ?_)
  refine bk hX lkX7_ok (pc' := 1) [.aload_n 0] (by decide +kernel) (And.intro trivial ?_)
  refine z_gIv hX lkX7_ok 32 8 3 (fun k h => h) (by decide) (rd_k hF I L) (by decide +kernel) (h.2.2.1) ?_
  refine bk hX lkX7_ok (pc' := 5) [.aload_n 0] (by decide +kernel) (And.intro trivial ?_)
  refine z_gIv hX lkX7_ok 15 8 1 (fun k h => h) (by decide) (rd_k hF I L) (by decide +kernel) (h.2.1) ?_
  refine ic_ge hX (15) 23 (by decide +kernel) (by decide) (fun c8 => ?_) (fun c8 => ?_)
  · refine bk hX lkX7_ok (pc' := 24) [.iconst (Int.negSucc 0)] (by decide +kernel) (And.intro trivial ?_)
    exact z_iret hX (by decide +kernel) rfl (rfl) (by decide) (by decide) (by
  first
    | exact ⟨rfl, congrArg some (congrArg Value.int (by rw [nx_end (show ¬ p < t.length from fun z => absurd ((nI_leI (by omega) (by omega)).mp c8) (by omega))]; rfl))⟩
    | (refine ⟨rfl, congrArg some (congrArg Value.int ?_)⟩
       have e : nxI (nx t p) = nI (nx t p) := if_neg (by have := nx_lt ht hp2; omega)
       rw [cl (by omega), e, nx_at hp2 0]
       exact (congrFun (h.1 205 (by omega) (by omega) (by omega) (by omega) (by omega)) p).trans (hT p hp2)))
  · refine bk hX lkX7_ok (pc' := 12) [.aload_n 0] (by decide +kernel) (And.intro trivial ?_)
    refine z_gR hX lkX7_ok 9 8 0 (fun k h => h) (rd_k hF I L) (rd_0 hF I L) (by decide +kernel) ?_
    refine bk hX lkX7_ok (pc' := 16) [.aload_n 0] (by decide +kernel) (And.intro trivial ?_)
    refine z_gIv hX lkX7_ok 32 8 3 (fun k h => h) (by decide) (rd_k hF I L) (by decide +kernel) (h.2.2.1) ?_
    have hp2 : p < t.length := Nat.lt_of_not_le (fun z => c8 ((nI_leI (by omega) (by omega)).mpr z))
    refine z_cald hX lkX7_ok (rfl) (vin 100 (by omega)) (by decide +kernel) ?_
    refine gt_ hX (4) 24 (by decide +kernel) (by decide) ?_
    exact z_iret hX (by decide +kernel) rfl (rfl) (by decide) (by decide) (by
  first
    | exact ⟨rfl, congrArg some (congrArg Value.int (by rw [nx_end (show ¬ p < t.length from fun z => absurd ((nI_leI (by omega) (by omega)).mp c8) (by omega))]; rfl))⟩
    | (refine ⟨rfl, congrArg some (congrArg Value.int ?_)⟩
       have e : nxI (nx t p) = nI (nx t p) := if_neg (by have := nx_lt ht hp2; omega)
       rw [cl (by omega), e, nx_at hp2 0]
       exact (congrFun (h.1 205 (by omega) (by omega) (by omega) (by omega) (by omega)) p).trans (hT p hp2)))
theorem c_R_takes (E : zE) (K N : Nat → Nat) (Rf : Nat → Nat → Option Nat) (I : Nat → Nat → Int32) (L : Nat → Nat → Int64) {I0 : Nat → Nat → Int32} {rd wo a b c : Nat} {t : List Nat} (ht : txw t) (hF : rdF rd wo a b c t K N Rf) (hT : ∀ k, k < t.length → I0 205 k = nI (t.getD k 0)) {p r : Nat} {ss : List Spt} (h : rdI rd wo a b c t I0 I p ss r) (hp : p ≤ t.length) {x : Nat} (hx : x < 128) : zCt E mX7_takes 1 0 0 (sg K N Rf I L) [.ref rd, .int (nI x)] (fun v σ' => (nx t p = x ∧ σ' = sg K N Rf (up2 I rd 3 (nI (p + 1))) L ∧ v = some (.int 1)) ∨ (¬ nx t p = x ∧ σ' = (sg K N Rf I L) ∧ v = some (.int 0))) := by
  refine z_intro (by decide) (Nat.le_of_ble_eq_true rfl) (fun X hX => ?_)
  refine bk hX lkX7_ok (pc' := 1) [.aload_n 0] (by decide +kernel) (And.intro trivial ?_)
  refine z_callV hX kw_X7_39 (c_R_sign E K N Rf I L ht hF hT h hp) rfl rfl (rd_k hF I L) rfl rfl (by decide +kernel) (by decide) (by decide) (by decide) (by decide) (Nat.le_of_ble_eq_true rfl) ?_
  rintro _ _ ⟨rfl, rfl⟩
  refine bk hX lkX7_ok (pc' := 5) [.iload_n 1] (by decide +kernel) (And.intro trivial ?_)
  refine ic_eq hX (5) 10 (by decide +kernel) (by decide) (fun c5 => ?_) (fun c5 => ?_)
  · refine bk hX lkX7_ok (pc' := 12) [.aload_n 0, .dup] (by decide +kernel) (And.intro trivial ?_)
    refine z_gIv hX lkX7_ok 32 8 3 (fun k h => h) (by decide) (rd_k hF I L) (by decide +kernel) (h.2.2.1) ?_
    refine bk hX lkX7_ok (pc' := 17) [.iconst 1, .iadd] (by decide +kernel) (And.intro trivial ?_)
    rw [nI_add]
    refine z_pI hX lkX7_ok (z_no _ _) 32 8 3 (fun k h => h) rfl (rd_k hF I L) (by decide +kernel) ?_
    show zS _ (sg K N Rf _ L) _ _ _ _ _
    refine bk hX lkX7_ok (pc' := 21) [.iconst 1] (by decide +kernel) (And.intro trivial ?_)
    exact z_iret hX (by decide +kernel) rfl (rfl) (by decide) (by decide) (Or.inl ⟨(nxI_eq (nx_le ht p) hx).mp c5, rfl, rfl⟩)
  · refine bk hX lkX7_ok (pc' := 9) [.iconst 0] (by decide +kernel) (And.intro trivial ?_)
    exact z_iret hX (by decide +kernel) rfl (rfl) (by decide) (by decide) (Or.inr ⟨fun z => c5 ((nxI_eq (nx_le ht p) hx).mpr z), rfl, rfl⟩)
theorem dgx_in0 : ∀ c, c < 201 → isIn (nxI c - nI 48) 10 = dgB c := by decide +kernel
theorem dgx_in {c : Nat} (h : c ≤ 200) : isIn (nxI c - nI 48) 10 = dgB c := dgx_in0 c (by omega)
theorem dg_sub0 : ∀ c, c < 201 → dgB c = true → nxI c - nI 48 = nI (c - 48) := by decide +kernel
theorem dg_sub {c : Nat} (h : c ≤ 200) (hd : dgB c = true) : nxI c - nI 48 = nI (c - 48) := dg_sub0 c (by omega) hd
def nmI : Option Nat → Int32
  | none => -nI 1
  | some n => nI n
theorem c_R_number (E : zE) (K N : Nat → Nat) (Rf : Nat → Nat → Option Nat) (I : Nat → Nat → Int32) (L : Nat → Nat → Int64) {I0 : Nat → Nat → Int32} {rd wo a b c : Nat} {t : List Nat} (ht : txw t) (hF : rdF rd wo a b c t K N Rf) (hT : ∀ k, k < t.length → I0 205 k = nI (t.getD k 0)) {p r : Nat} {ss : List Spt} (h : rdI rd wo a b c t I0 I p ss r) (hp : p ≤ t.length) : zCt E mX7_number 1 0 0 (sg K N Rf I L) [.ref rd] (fun v σ' => ∃ I', σ' = sg K N Rf I' L ∧ v = some (.int (nmI (pNm t p).1)) ∧ rdI rd wo a b c t I0 I' (pNm t p).2 ss r) := by
  refine z_intro (by decide) (Nat.le_of_ble_eq_true rfl) (fun X hX => ?_)
  refine bk hX lkX7_ok (pc' := 1) [.aload_n 0] (by decide +kernel) (And.intro trivial ?_)
  refine z_callV hX kw_X7_39 (c_R_sign E K N Rf I L ht hF hT h hp) rfl rfl (rd_k hF I L) rfl rfl (by decide +kernel) (by decide) (by decide) (by decide) (by decide) (Nat.le_of_ble_eq_true rfl) ?_
  rintro _ _ ⟨rfl, rfl⟩
  refine bk hX lkX7_ok (pc' := 9) [.bipush 48, .isub, .istore_n 1, .iload_n 1] (by decide +kernel) (And.intro trivial ?_)
  refine z_callSN hX rfl rfl ⟨kw_X11_62.1, kw_X11_62.2.2.1, kw_X11_62.2.2.2.1⟩ (c_X_isDigit E _ _) rfl (by decide +kernel) (by decide) (by decide) (by decide) (by decide) (Nat.le_of_ble_eq_true rfl) ?_
  rintro _ _ ⟨rfl, hh⟩
  rcases hh with ⟨hd1, rfl⟩ | ⟨hd1, rfl⟩
  · refine if_ne hX (5) 17 (by decide +kernel) (by decide) (fun c_12 => ?_) (fun c => absurd c (by decide))
    have hd : dgB (nx t p) = true := (dgx_in (nx_le ht p)).symm.trans hd1
    have hp2 : p < t.length := nx_in (c := nx t p) rfl (by have := dgB_iff.mp hd; omega)
    have h2 := rdI_at hF h (p + 1)
    have e1 : nxI (nx t p) - nI 48 = nI (nx t p - 48) := dg_sub (nx_le ht p) hd
    refine bk hX lkX7_ok (pc' := 19) [.aload_n 0, .dup] (by decide +kernel) (And.intro trivial ?_)
    refine z_gIv hX lkX7_ok 32 8 3 (fun k h => h) (by decide) (rd_k hF I L) (by decide +kernel) (h.2.2.1) ?_
    refine bk hX lkX7_ok (pc' := 24) [.iconst 1, .iadd] (by decide +kernel) (And.intro trivial ?_)
    rw [nI_add]
    refine z_pI hX lkX7_ok (z_no _ _) 32 8 3 (fun k h => h) rfl (rd_k hF I L) (by decide +kernel) ?_
    show zS _ (sg K N Rf _ L) _ _ _ _ _
    refine bk hX lkX7_ok (pc' := 28) [.aload_n 0] (by decide +kernel) (And.intro trivial ?_)
    refine z_callV hX kw_X7_39 (c_R_sign E K N Rf _ L ht hF hT h2 hp2) rfl rfl (rd_k hF _ L) rfl rfl (by decide +kernel) (by decide) (by decide) (by decide) (by decide) (Nat.le_of_ble_eq_true rfl) ?_
    rintro _ _ ⟨rfl, rfl⟩
    refine bk hX lkX7_ok (pc' := 36) [.bipush 48, .isub, .istore_n 2, .iload_n 2] (by decide +kernel) (And.intro trivial ?_)
    refine z_callSN hX rfl rfl ⟨kw_X11_62.1, kw_X11_62.2.2.1, kw_X11_62.2.2.2.1⟩ (c_X_isDigit E _ _) rfl (by decide +kernel) (by decide) (by decide) (by decide) (by decide) (Nat.le_of_ble_eq_true rfl) ?_
    rintro _ _ ⟨rfl, hh⟩
    rcases hh with ⟨hd2, rfl⟩ | ⟨hd2, rfl⟩
    · refine if_ne hX (5) 44 (by decide +kernel) (by decide) (fun c_39 => ?_) (fun c => absurd c (by decide))
      have hdd : dgB (nx t (p + 1)) = true := (dgx_in (nx_le ht (p + 1))).symm.trans hd2
      have e2 : nxI (nx t (p + 1)) - nI 48 = nI (nx t (p + 1) - 48) := dg_sub (nx_le ht (p + 1)) hdd
      have h3 := rdI_at hF h2 (p + 2)
      refine bk hX lkX7_ok (pc' := 46) [.aload_n 0, .dup] (by decide +kernel) (And.intro trivial ?_)
      refine z_gIv hX lkX7_ok 32 8 3 (fun k h => h) (by decide) (rd_k hF _ L) (by decide +kernel) (h2.2.2.1) ?_
      refine bk hX lkX7_ok (pc' := 51) [.iconst 1, .iadd] (by decide +kernel) (And.intro trivial ?_)
      rw [nI_add]
      refine z_pI hX lkX7_ok (z_no _ _) 32 8 3 (fun k h => h) rfl (rd_k hF _ L) (by decide +kernel) ?_
      show zS _ (sg K N Rf _ L) _ _ _ _ _
      refine bk hX lkX7_ok (pc' := 60) [.bipush 10, .iload_n 1, .imul, .iload_n 2, .iadd] (by decide +kernel) (And.intro trivial ?_)
      exact z_iret hX (by decide +kernel) rfl (rfl) (by decide) (by decide) (by
  have e : pNm t p = (some (10 * (nx t p - 48) + (nx t (p + 1) - 48)), p + 2) := by rw [pNm, if_pos hd, if_pos hdd]
  rw [e]
  refine ⟨_, rfl, congrArg some (congrArg Value.int ?_), h3⟩
  rw [e1, e2, pk_mul, nI_add]
  rfl)
    · refine if_ne hX (5) 44 (by decide +kernel) (by decide) (fun c => absurd (by decide) c) (fun c_39 => ?_)
      refine bk hX lkX7_ok (pc' := 43) [.iload_n 1] (by decide +kernel) (And.intro trivial ?_)
      exact z_iret hX (by decide +kernel) rfl (rfl) (by decide) (by decide) (by
  have e : pNm t p = (some (nx t p - 48), p + 1) := by rw [pNm, if_pos hd, if_neg (fun z => hd2 ((dgx_in (nx_le ht (p + 1))).trans z))]
  rw [e]
  exact ⟨_, rfl, congrArg some (congrArg Value.int e1), h2⟩)
  · refine if_ne hX (5) 17 (by decide +kernel) (by decide) (fun c => absurd (by decide) c) (fun c_12 => ?_)
    refine bk hX lkX7_ok (pc' := 16) [.iconst (Int.negSucc 0)] (by decide +kernel) (And.intro trivial ?_)
    exact z_iret hX (by decide +kernel) rfl (rfl) (by decide) (by decide) (by
  have e : pNm t p = (none, p) := by rw [pNm, if_neg (fun z => hd1 ((dgx_in (nx_le ht p)).trans z))]
  rw [e]
  exact ⟨I, rfl, rfl, h⟩)
theorem c_R_spells (E : zE) (K N : Nat → Nat) (Rf : Nat → Nat → Option Nat) (I : Nat → Nat → Int32) (L : Nat → Nat → Int64) {I0 : Nat → Nat → Int32} {rd wo a b c : Nat} {t : List Nat} (ht : txw t) (hF : rdF rd wo a b c t K N Rf) (hT : ∀ k, k < t.length → I0 205 k = nI (t.getD k 0)) {p r : Nat} {ss : List Spt} (h : rdI rd wo a b c t I0 I p ss r) (hp : p ≤ t.length) {i : Nat} (hi : i < 3) : zCt E mX7_spells 4 0 0 (sg K N Rf I L) [.ref rd, .ref (900 + i)] (fun v σ' => ∃ I', σ' = sg K N Rf I' L ∧ rdI rd wo a b c t I0 I' (pWd t (wsL i) p).2 ss r ∧ (((pWd t (wsL i) p).1 = true ∧ v = some (.int 1)) ∨ (¬ ((pWd t (wsL i) p).1 = true) ∧ v = some (.int 0)))) := by
  have hn := (wsL_n i (by omega)).2
  refine z_intro (by decide) (Nat.le_of_ble_eq_true rfl) (fun X hX => ?_)
  have hl : ∀ m j I q, j + m = (wsL i).length → rdI rd wo a b c t I0 I q ss r → q ≤ t.length → pWd t ((wsL i).drop j) q = pWd t (wsL i) p → zS X (sg K N Rf I L) 0 0 2 [(0, .ref rd), (1, .ref (900 + i)), (2, .int (nI j))] [] := by
    clear h hp
    intro m
    induction m with
    | zero =>
      intro j I q hj h hp hw
      refine bk hX lkX7_ok (pc' := 4) [.iload_n 2, .aload_n 1] (by decide +kernel) (And.intro trivial ?_)
      refine z_callK hX (i := i) (by omega) kw_X7_84 (c_J0_length E _ (i := i) (by omega)) rfl rfl rfl (by decide +kernel) (by decide) (by decide) (by decide) (by decide) (Nat.le_of_ble_eq_true rfl) ?_
      rintro _ _ ⟨rfl, rfl⟩
      rw [show j = (wsL i).length by omega]
      refine ic_ge hX (23) 30 (by decide +kernel) (by decide) (fun c_7 => ?_) (fun c => absurd (Int32.le_refl _) c)
      refine bk hX lkX7_ok (pc' := 31) [.iconst 1] (by decide +kernel) (And.intro trivial ?_)
      exact z_iret hX (by decide +kernel) rfl (rfl) (by decide) (by decide) (by
  rw [← hw, List.drop_of_length_le (by omega)]
  exact ⟨I, rfl, h, Or.inl ⟨rfl, rfl⟩⟩)
    | succ m ih =>
      intro j I q hj h hp hw
      have ed : (wsL i).drop j = (wsL i).getD j 0 :: (wsL i).drop (j + 1) := by
        rw [List.drop_eq_getElem_cons (show j < (wsL i).length by omega), List.getD_eq_getElem?_getD, List.getElem?_eq_getElem (show j < (wsL i).length by omega)]
        rfl
      refine bk hX lkX7_ok (pc' := 4) [.iload_n 2, .aload_n 1] (by decide +kernel) (And.intro trivial ?_)
      refine z_callK hX (i := i) (by omega) kw_X7_84 (c_J0_length E _ (i := i) (by omega)) rfl rfl rfl (by decide +kernel) (by decide) (by decide) (by decide) (by decide) (Nat.le_of_ble_eq_true rfl) ?_
      rintro _ _ ⟨rfl, rfl⟩
      refine ic_ge hX (23) 30 (by decide +kernel) (by decide) (fun c => absurd c (fun z => absurd ((nI_leI (by omega) (by omega)).mp z) (by omega))) (fun c_7 => ?_)
      refine bk hX lkX7_ok (pc' := 13) [.aload_n 0, .aload_n 1, .iload_n 2] (by decide +kernel) (And.intro trivial ?_)
      refine z_callK hX (i := i) (by omega) kw_X7_87 (c_J0_charAt E _ (i := i) (j := j) (by omega) (by omega)) rfl rfl rfl (by decide +kernel) (by decide) (by decide) (by decide) (by decide) (Nat.le_of_ble_eq_true rfl) ?_
      rintro _ _ ⟨rfl, rfl⟩
      refine z_callV hX kw_X7_35 (c_R_takes E K N Rf I L ht hF hT h hp (x := (wsL i).getD j 0) (wsL_b i (by omega) j (by rw [(wsL_n i (by omega)).1]; omega)).2) rfl rfl (rd_k hF I L) rfl rfl (by decide +kernel) (by decide) (by decide) (by decide) (by decide) (Nat.le_of_ble_eq_true rfl) ?_
      rintro _ _ (⟨z1, rfl, rfl⟩ | ⟨z1, rfl, rfl⟩)
      · refine if_ne hX (5) 24 (by decide +kernel) (by decide) (fun c_19 => ?_) (fun c => absurd c (by decide))
        refine bk hX lkX7_ok (pc' := 27) [.iinc 2 1] (by decide +kernel) (And.intro trivial ?_)
        refine gt_ hX (-25) 2 (by decide +kernel) (by decide) ?_
        refine z_lvk (lv' := [(0, _), (1, _), (2, _)]) [1, 2, 0] rfl ?_
        rw [nI_add]
        exact ih (j + 1) _ (q + 1) (by omega) (rdI_at hF h (q + 1)) (nx_in z1 (wsL_b i (by omega) j (by rw [(wsL_n i (by omega)).1]; omega)).2) (by rw [← hw, ed, pWd, if_pos z1])
      · refine if_ne hX (5) 24 (by decide +kernel) (by decide) (fun c => absurd (by decide) c) (fun c_19 => ?_)
        refine bk hX lkX7_ok (pc' := 23) [.iconst 0] (by decide +kernel) (And.intro trivial ?_)
        exact z_iret hX (by decide +kernel) rfl (rfl) (by decide) (by decide) (by
  rw [← hw, ed, pWd, if_neg z1]
  exact ⟨I, rfl, h, Or.inr ⟨Bool.false_ne_true, rfl⟩⟩)
  refine bk hX lkX7_ok (pc' := 2) [.iconst 0, .istore_n 2] (by decide +kernel) (And.intro trivial ?_)
  refine z_lvk (lv' := [(0, _), (1, _), (2, _)]) [1, 2, 0] rfl ?_
  exact hl _ 0 I p (Nat.zero_add _) h hp rfl
