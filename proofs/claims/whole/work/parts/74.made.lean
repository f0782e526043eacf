/-! ===== hands are made ===== -/
theorem kF_lo (K K' : Nat → Nat) {p : Nat} (h : p < 1000) : kF K p = kF K' p := by
  unfold kF
  rw [show Nat.blt p 1000 = true from Nat.ble_eq_true_of_le h]
  rfl
theorem nF_lo (N N' : Nat → Nat) {p : Nat} (h : p < 1000) : nF N p = nF N' p := by
  unfold nF
  rw [show Nat.blt p 1000 = true from Nat.ble_eq_true_of_le h]
  rfl
theorem kF_up (K : Nat → Nat) {n : Nat} (hn : 1000 ≤ n) (c : Nat) : upK (kF K) n c = kF (upK K n c) := by
  funext p
  by_cases hp : p = n
  · subst hp; rw [upK_at, kF_hi _ hn, upK_at]
  · rw [upK_ne _ _ hp]
    rcases Nat.lt_or_ge p 1000 with h | h
    · exact kF_lo _ _ h
    · rw [kF_hi _ h, kF_hi _ h, upK_ne _ _ hp]
theorem nF_up (N : Nat → Nat) {n : Nat} (hn : 1000 ≤ n) (c : Nat) : upK (nF N) n c = nF (upK N n c) := by
  funext p
  by_cases hp : p = n
  · subst hp; rw [upK_at, nF_hi _ hn, upK_at]
  · rw [upK_ne _ _ hp]
    rcases Nat.lt_or_ge p 1000 with h | h
    · exact nF_lo _ _ h
    · rw [nF_hi _ h, nF_hi _ h, upK_ne _ _ hp]
theorem rF_upW (R : Nat → Nat → Option Nat) {n : Nat} (hn : 1000 ≤ n) : upW (rF R) n none = rF (upW R n none) := by
  funext p k
  by_cases hp : p = n
  · subst hp; rw [upW_at, rF_hi _ hn, upW_at]
  · rw [upW_ne _ _ hp]
    exact congrFun (rF_at (upW_ne R none hp).symm) k
theorem rF_up2 (R : Nat → Nat → Option Nat) {n : Nat} (hn : 1000 ≤ n) (j : Nat) (x : Option Nat) : up2 (rF R) n j x = rF (up2 R n j x) := by
  funext p k
  by_cases hp : p = n
  · subst hp; rw [up2_at, rF_hi _ hn, rF_hi _ hn, up2_at]
  · rw [up2_ne _ _ _ hp]
    exact congrFun (rF_at (up2_ne R j x hp).symm) k
theorem zNewO_sg {K N : Nat → Nat} {Rf : Nat → Nat → Option Nat} {I : Nat → Nat → Int32} {L : Nat → Nat → Int64} {n : Nat} (hn : 1000 ≤ n) (ci : Nat) : zNewO (sg K N Rf I L) n ci = sg (upK K n (ci + 1)) N (upW Rf n none) (upW I n 0) L := by
  show ((upK (kF K) n (ci + 1), nF N, upW I n 0, L, upW (rF Rf) n none) : Sg) = _
  rw [kF_up K hn, rF_upW Rf hn]
theorem c_X2_init (E : zE) (σ : Sg) {h k : Nat} (hk6 : k ≤ 6) (hk : σ.1 h = hci k + 1) (x y : Int32) : zCt E mX2_init 1 0 0 σ [.ref h, .int x, .int y] (fun r σ' => σ' = (σ.1, σ.2.1, up2 (up2 σ.2.2.1 h 0 x) h 1 y, σ.2.2.2.1, σ.2.2.2.2) ∧ r = none) := by
  refine z_intro (by decide) (Nat.le_of_ble_eq_true rfl) (fun X hX => ?_)
  refine bk hX lkX2_ok (pc' := 1) [.aload_n 0] (by decide +kernel) (And.intro trivial ?_)
  refine z_obj hX ko_X2_3 (by decide +kernel) (by decide) (Nat.le_of_ble_eq_true rfl) (by decide) (by decide) ?_
  refine bk hX lkX2_ok (pc' := 6) [.aload_n 0, .iload_n 1] (by decide +kernel) (And.intro trivial ?_)
  refine z_pIe hX rfl (fh_X2_9 k hk6) (fun c hc => hci_decl k hk6 0 (by decide) c hc) hk (by decide +kernel) ?_
  refine bk hX lkX2_ok (pc' := 11) [.aload_n 0, .iload_n 2] (by decide +kernel) (And.intro trivial ?_)
  refine z_pIe hX rfl (fh_X2_15 k hk6) (fun c hc => hci_decl k hk6 1 (by decide) c hc) hk (by decide +kernel) ?_
  exact z_vret hX (by decide +kernel) rfl (by decide) (by decide) (⟨rfl, rfl⟩)
theorem c_X3_init (E : zE) (σ : Sg) {h k : Nat} (hk6 : k ≤ 6) (hk : σ.1 h = hci k + 1) (x y : Int32) : zCt E mX3_init 2 0 0 σ [.ref h, .int x, .int y] (fun r σ' => σ' = (σ.1, σ.2.1, up2 (up2 σ.2.2.1 h 0 x) h 1 y, σ.2.2.2.1, σ.2.2.2.2) ∧ r = none) := by
  refine z_intro (by decide) (Nat.le_of_ble_eq_true rfl) (fun X hX => ?_)
  refine bk hX lkX3_ok (pc' := 3) [.aload_n 0, .iload_n 1, .iload_n 2] (by decide +kernel) (And.intro trivial ?_)
  refine z_callI hX kw_X3_3 (c_X2_init E σ hk6 hk x y) rfl rfl (by decide +kernel) (by decide) (by decide) (by decide) (by decide) (Nat.le_of_ble_eq_true rfl) ?_
  rintro _ _ ⟨rfl, rfl⟩
  exact z_vret hX (by decide +kernel) rfl (by decide) (by decide) (⟨rfl, rfl⟩)
theorem c_X4_init (E : zE) (σ : Sg) {h k : Nat} (hk6 : k ≤ 6) (hk : σ.1 h = hci k + 1) (x y : Int32) : zCt E mX4_init 2 0 0 σ [.ref h, .int x, .int y] (fun r σ' => σ' = (σ.1, σ.2.1, up2 (up2 σ.2.2.1 h 0 x) h 1 y, σ.2.2.2.1, σ.2.2.2.2) ∧ r = none) := by
  refine z_intro (by decide) (Nat.le_of_ble_eq_true rfl) (fun X hX => ?_)
  refine bk hX lkX4_ok (pc' := 3) [.aload_n 0, .iload_n 1, .iload_n 2] (by decide +kernel) (And.intro trivial ?_)
  refine z_callI hX kw_X4_3 (c_X2_init E σ hk6 hk x y) rfl rfl (by decide +kernel) (by decide) (by decide) (by decide) (by decide) (Nat.le_of_ble_eq_true rfl) ?_
  rintro _ _ ⟨rfl, rfl⟩
  exact z_vret hX (by decide +kernel) rfl (by decide) (by decide) (⟨rfl, rfl⟩)
theorem c_X6_init (E : zE) (σ : Sg) {h k : Nat} (hk6 : k ≤ 6) (hk : σ.1 h = hci k + 1) (x y : Int32) : zCt E mX6_init 2 0 0 σ [.ref h, .int x, .int y] (fun r σ' => σ' = (σ.1, σ.2.1, up2 (up2 σ.2.2.1 h 0 x) h 1 y, σ.2.2.2.1, σ.2.2.2.2) ∧ r = none) := by
  refine z_intro (by decide) (Nat.le_of_ble_eq_true rfl) (fun X hX => ?_)
  refine bk hX lkX6_ok (pc' := 3) [.aload_n 0, .iload_n 1, .iload_n 2] (by decide +kernel) (And.intro trivial ?_)
  refine z_callI hX kw_X6_3 (c_X2_init E σ hk6 hk x y) rfl rfl (by decide +kernel) (by decide) (by decide) (by decide) (by decide) (Nat.le_of_ble_eq_true rfl) ?_
  rintro _ _ ⟨rfl, rfl⟩
  exact z_vret hX (by decide +kernel) rfl (by decide) (by decide) (⟨rfl, rfl⟩)
theorem c_X5_init (E : zE) (σ : Sg) {h k : Nat} (hk6 : k ≤ 6) (hk : σ.1 h = hci k + 1) (x y : Int32) : zCt E mX5_init 3 0 0 σ [.ref h, .int x, .int y] (fun r σ' => σ' = (σ.1, σ.2.1, up2 (up2 σ.2.2.1 h 0 x) h 1 y, σ.2.2.2.1, σ.2.2.2.2) ∧ r = none) := by
  refine z_intro (by decide) (Nat.le_of_ble_eq_true rfl) (fun X hX => ?_)
  refine bk hX lkX5_ok (pc' := 3) [.aload_n 0, .iload_n 1, .iload_n 2] (by decide +kernel) (And.intro trivial ?_)
  refine z_callI hX kw_X5_3 (c_X3_init E σ hk6 hk x y) rfl rfl (by decide +kernel) (by decide) (by decide) (by decide) (by decide) (Nat.le_of_ble_eq_true rfl) ?_
  rintro _ _ ⟨rfl, rfl⟩
  exact z_vret hX (by decide +kernel) rfl (by decide) (by decide) (⟨rfl, rfl⟩)
theorem c_X0_init (E : zE) (σ : Sg) {h k : Nat} (hk6 : k ≤ 6) (hk : σ.1 h = hci k + 1) (x y : Int32) : zCt E mX0_init 3 0 0 σ [.ref h, .int x, .int y] (fun r σ' => σ' = (σ.1, σ.2.1, up2 (up2 σ.2.2.1 h 0 x) h 1 y, σ.2.2.2.1, σ.2.2.2.2) ∧ r = none) := by
  refine z_intro (by decide) (Nat.le_of_ble_eq_true rfl) (fun X hX => ?_)
  refine bk hX lkX0_ok (pc' := 3) [.aload_n 0, .iload_n 1, .iload_n 2] (by decide +kernel) (And.intro trivial ?_)
  refine z_callI hX kw_X0_3 (c_X4_init E σ hk6 hk x y) rfl rfl (by decide +kernel) (by decide) (by decide) (by decide) (by decide) (Nat.le_of_ble_eq_true rfl) ?_
  rintro _ _ ⟨rfl, rfl⟩
  exact z_vret hX (by decide +kernel) rfl (by decide) (by decide) (⟨rfl, rfl⟩)
theorem c_X9_init (E : zE) (σ : Sg) {h k : Nat} (hk6 : k ≤ 6) (hk : σ.1 h = hci k + 1) (x y : Int32) : zCt E mX9_init 3 0 0 σ [.ref h, .int x, .int y] (fun r σ' => σ' = (σ.1, σ.2.1, up2 (up2 σ.2.2.1 h 0 x) h 1 y, σ.2.2.2.1, σ.2.2.2.2) ∧ r = none) := by
  refine z_intro (by decide) (Nat.le_of_ble_eq_true rfl) (fun X hX => ?_)
  refine bk hX lkX9_ok (pc' := 3) [.aload_n 0, .iload_n 1, .iload_n 2] (by decide +kernel) (And.intro trivial ?_)
  refine z_callI hX kw_X9_3 (c_X6_init E σ hk6 hk x y) rfl rfl (by decide +kernel) (by decide) (by decide) (by decide) (by decide) (Nat.le_of_ble_eq_true rfl) ?_
  rintro _ _ ⟨rfl, rfl⟩
  exact z_vret hX (by decide +kernel) rfl (by decide) (by decide) (⟨rfl, rfl⟩)
def mkI (n i v : Nat) (I : Nat → Nat → Int32) : Nat → Nat → Int32 := up2 (up2 (upW I n 0) n 0 (nI i)) n 1 (nI v)
theorem c_X_made (E : zE) (K N : Nat → Nat) (Rf : Nat → Nat → Option Nat) (I : Nat → Nat → Int32) (L : Nat → Nat → Int64) {n : Nat} (hn : 1000 ≤ n) (hK : K n = 0) {k i v : Nat} (hk6 : k ≤ 6) : zCt E mX11_made 4 1 2 (sg K N Rf I L) [.int (nI k), .int (nI i), .int (nI v)] (fun r σ' => σ' = sg (upK K n (hci k + 1)) N (upW Rf n none) (mkI n i v I) L ∧ r = some (.ref n)) := by
  have hfr : (sg K N Rf I L).1 n = 0 := by rw [show (sg K N Rf I L).1 n = K n from kF_hi K hn]; exact hK
  refine z_intro (by decide) (Nat.le_of_ble_eq_true rfl) (fun X hX => ?_)
  refine bk hX lkX11_ok (pc' := 1) [.iload_n 0] (by decide +kernel) (And.intro trivial ?_)
  rcases (show k = 0 ∨ k = 1 ∨ k = 2 ∨ k = 3 ∨ k = 4 ∨ k = 5 ∨ k = 6 by omega) with rfl | rfl | rfl | rfl | rfl | rfl | rfl
  · refine z_tsw hX 100 (dflt := 99) (lo := 1) (hi := 6) (offs := #[39, 49, 59, 69, 79, 89]) (len := 39) (off := 99) (by decide +kernel) (by decide) (by decide) ?_
    refine z_new hX nw_X11_88 n hfr (by decide +kernel) (by decide) (by decide) ?_
    refine bk hX lkX11_ok (pc' := 106) [.dup, .iload_n 1, .iload_n 2] (by decide +kernel) (And.intro trivial ?_)
    refine z_callI hX kw_X11_306 (c_X2_init E _ (k := 0) (by decide) (upK_at _ _ _) (nI i) (nI v)) rfl rfl (by decide +kernel) (by decide) (by decide) (by decide) (by decide) (Nat.le_of_ble_eq_true rfl) ?_
    rintro _ _ ⟨rfl, rfl⟩
    exact z_aret hX (by decide +kernel) rfl (Or.inl ⟨_, rfl⟩) (by decide) (by decide) (by
  refine ⟨?_, rfl⟩
  rw [zNewO_sg hn]
  rfl)
  · refine z_tsw hX 40 (dflt := 99) (lo := 1) (hi := 6) (offs := #[39, 49, 59, 69, 79, 89]) (len := 39) (off := 39) (by decide +kernel) (by decide) (by decide) ?_
    refine z_new hX nw_X11_287 n hfr (by decide +kernel) (by decide) (by decide) ?_
    refine bk hX lkX11_ok (pc' := 46) [.dup, .iload_n 1, .iload_n 2] (by decide +kernel) (And.intro trivial ?_)
    refine z_callI hX kw_X11_289 (c_X4_init E _ (k := 1) (by decide) (upK_at _ _ _) (nI i) (nI v)) rfl rfl (by decide +kernel) (by decide) (by decide) (by decide) (by decide) (Nat.le_of_ble_eq_true rfl) ?_
    rintro _ _ ⟨rfl, rfl⟩
    exact z_aret hX (by decide +kernel) rfl (Or.inl ⟨_, rfl⟩) (by decide) (by decide) (by
  refine ⟨?_, rfl⟩
  rw [zNewO_sg hn]
  rfl)
  · refine z_tsw hX 50 (dflt := 99) (lo := 1) (hi := 6) (offs := #[39, 49, 59, 69, 79, 89]) (len := 39) (off := 49) (by decide +kernel) (by decide) (by decide) ?_
    refine z_new hX nw_X11_291 n hfr (by decide +kernel) (by decide) (by decide) ?_
    refine bk hX lkX11_ok (pc' := 56) [.dup, .iload_n 1, .iload_n 2] (by decide +kernel) (And.intro trivial ?_)
    refine z_callI hX kw_X11_293 (c_X3_init E _ (k := 2) (by decide) (upK_at _ _ _) (nI i) (nI v)) rfl rfl (by decide +kernel) (by decide) (by decide) (by decide) (by decide) (Nat.le_of_ble_eq_true rfl) ?_
    rintro _ _ ⟨rfl, rfl⟩
    exact z_aret hX (by decide +kernel) rfl (Or.inl ⟨_, rfl⟩) (by decide) (by decide) (by
  refine ⟨?_, rfl⟩
  rw [zNewO_sg hn]
  rfl)
  · refine z_tsw hX 60 (dflt := 99) (lo := 1) (hi := 6) (offs := #[39, 49, 59, 69, 79, 89]) (len := 39) (off := 59) (by decide +kernel) (by decide) (by decide) ?_
    refine z_new hX nw_X11_294 n hfr (by decide +kernel) (by decide) (by decide) ?_
    refine bk hX lkX11_ok (pc' := 66) [.dup, .iload_n 1, .iload_n 2] (by decide +kernel) (And.intro trivial ?_)
    refine z_callI hX kw_X11_296 (c_X6_init E _ (k := 3) (by decide) (upK_at _ _ _) (nI i) (nI v)) rfl rfl (by decide +kernel) (by decide) (by decide) (by decide) (by decide) (Nat.le_of_ble_eq_true rfl) ?_
    rintro _ _ ⟨rfl, rfl⟩
    exact z_aret hX (by decide +kernel) rfl (Or.inl ⟨_, rfl⟩) (by decide) (by decide) (by
  refine ⟨?_, rfl⟩
  rw [zNewO_sg hn]
  rfl)
  · refine z_tsw hX 70 (dflt := 99) (lo := 1) (hi := 6) (offs := #[39, 49, 59, 69, 79, 89]) (len := 39) (off := 69) (by decide +kernel) (by decide) (by decide) ?_
    refine z_new hX nw_X11_297 n hfr (by decide +kernel) (by decide) (by decide) ?_
    refine bk hX lkX11_ok (pc' := 76) [.dup, .iload_n 1, .iload_n 2] (by decide +kernel) (And.intro trivial ?_)
    refine z_callI hX kw_X11_299 (c_X0_init E _ (k := 4) (by decide) (upK_at _ _ _) (nI i) (nI v)) rfl rfl (by decide +kernel) (by decide) (by decide) (by decide) (by decide) (Nat.le_of_ble_eq_true rfl) ?_
    rintro _ _ ⟨rfl, rfl⟩
    exact z_aret hX (by decide +kernel) rfl (Or.inl ⟨_, rfl⟩) (by decide) (by decide) (by
  refine ⟨?_, rfl⟩
  rw [zNewO_sg hn]
  rfl)
  · refine z_tsw hX 80 (dflt := 99) (lo := 1) (hi := 6) (offs := #[39, 49, 59, 69, 79, 89]) (len := 39) (off := 79) (by decide +kernel) (by decide) (by decide) ?_
    refine z_new hX nw_X11_300 n hfr (by decide +kernel) (by decide) (by decide) ?_
    refine bk hX lkX11_ok (pc' := 86) [.dup, .iload_n 1, .iload_n 2] (by decide +kernel) (And.intro trivial ?_)
    refine z_callI hX kw_X11_302 (c_X5_init E _ (k := 5) (by decide) (upK_at _ _ _) (nI i) (nI v)) rfl rfl (by decide +kernel) (by decide) (by decide) (by decide) (by decide) (Nat.le_of_ble_eq_true rfl) ?_
    rintro _ _ ⟨rfl, rfl⟩
    exact z_aret hX (by decide +kernel) rfl (Or.inl ⟨_, rfl⟩) (by decide) (by decide) (by
  refine ⟨?_, rfl⟩
  rw [zNewO_sg hn]
  rfl)
  · refine z_tsw hX 90 (dflt := 99) (lo := 1) (hi := 6) (offs := #[39, 49, 59, 69, 79, 89]) (len := 39) (off := 89) (by decide +kernel) (by decide) (by decide) ?_
    refine z_new hX nw_X11_303 n hfr (by decide +kernel) (by decide) (by decide) ?_
    refine bk hX lkX11_ok (pc' := 96) [.dup, .iload_n 1, .iload_n 2] (by decide +kernel) (And.intro trivial ?_)
    refine z_callI hX kw_X11_305 (c_X9_init E _ (k := 6) (by decide) (upK_at _ _ _) (nI i) (nI v)) rfl rfl (by decide +kernel) (by decide) (by decide) (by decide) (by decide) (Nat.le_of_ble_eq_true rfl) ?_
    rintro _ _ ⟨rfl, rfl⟩
    exact z_aret hX (by decide +kernel) rfl (Or.inl ⟨_, rfl⟩) (by decide) (by decide) (by
  refine ⟨?_, rfl⟩
  rw [zNewO_sg hn]
  rfl)
theorem mkI_ne {n i v q : Nat} {I : Nat → Nat → Int32} (h : q ≠ n) : mkI n i v I q = I q := by
  unfold mkI
  rw [up2_ne _ _ _ h, up2_ne _ _ _ h, upW_ne _ _ h]
theorem mkI_hd {n k i v : Nat} {K : Nat → Nat} {I : Nat → Nat → Int32} (hn : 1000 ≤ n) : xHd (upK K n (hci k + 1)) (mkI n i v I) n k i v := by
  refine ⟨hn, upK_at _ _ _, ?_, ?_⟩
  · unfold mkI; rw [up2_at, if_neg (by decide), up2_self]
  · unfold mkI; rw [up2_self]
/-- what lies from 1000 on and lives, stays -/
def grw (K N : Nat → Nat) (R : Nat → Nat → Option Nat) (I : Nat → Nat → Int32) (K' N' : Nat → Nat) (R' : Nat → Nat → Option Nat) (I' : Nat → Nat → Int32) : Prop := ∀ q, 1000 ≤ q → K q ≠ 0 → K' q = K q ∧ N' q = N q ∧ R' q = R q ∧ I' q = I q
def fre (K : Nat → Nat) : Prop := ∃ B, 1000 ≤ B ∧ ∀ q, B ≤ q → K q = 0
theorem fre_up {K : Nat → Nat} (h : fre K) (n c : Nat) : fre (upK K n c) := by
  obtain ⟨B, h1, h2⟩ := h
  exact ⟨B + n + 1, by omega, fun q hq => by rw [upK_ne _ _ (by omega)]; exact h2 q (by omega)⟩
theorem grw_rf (K N : Nat → Nat) (R : Nat → Nat → Option Nat) (I : Nat → Nat → Int32) : grw K N R I K N R I := fun _ _ _ => ⟨rfl, rfl, rfl, rfl⟩
theorem grw_tr {K N K1 N1 K2 N2 : Nat → Nat} {R R1 R2 : Nat → Nat → Option Nat} {I I1 I2 : Nat → Nat → Int32} (h1 : grw K N R I K1 N1 R1 I1) (h2 : grw K1 N1 R1 I1 K2 N2 R2 I2) : grw K N R I K2 N2 R2 I2 := by
  intro q hq hk
  obtain ⟨a1, a2, a3, a4⟩ := h1 q hq hk
  obtain ⟨b1, b2, b3, b4⟩ := h2 q hq (by rw [a1]; exact hk)
  exact ⟨b1.trans a1, b2.trans a2, b3.trans a3, b4.trans a4⟩
theorem xHd_g {K N K' N' : Nat → Nat} {R R' : Nat → Nat → Option Nat} {I I' : Nat → Nat → Int32} {h k p v : Nat} (hk6 : k ≤ 6) (hh : xHd K I h k p v) (g : grw K N R I K' N' R' I') : xHd K' I' h k p v := by
  obtain ⟨h1, h2, h3, h4⟩ := hh
  obtain ⟨a1, a2, a3, a4⟩ := g h h1 (by rw [h2]; exact Nat.succ_ne_zero _)
  exact ⟨h1, by rw [a1]; exact h2, by rw [a4]; exact h3, by rw [a4]; exact h4⟩
theorem xWs_g {K N K' N' : Nat → Nat} {R R' : Nat → Nat → Option Nat} {I I' : Nat → Nat → Int32} {o : Nat} {ss : List Spt} {r cap : Nat} (h : xWs o ss r cap K N R I) (g : grw K N R I K' N' R' I') : xWs o ss r cap K' N' R' I' := by
  obtain ⟨h1, h2, h3, h4, h5, h6, va, vb, vc, ⟨a1, a2, a3, a4⟩, ⟨b1, b2, b3, b4⟩, ⟨c1, c2, c3, c4⟩, hne, hs⟩ := h
  obtain ⟨o1, o2, o3, o4⟩ := g o h1 (by rw [h2]; decide)
  obtain ⟨p1, p2, p3, p4⟩ := g va a1 (by rw [a2]; decide)
  obtain ⟨q1, q2, q3, q4⟩ := g vb b1 (by rw [b2]; decide)
  obtain ⟨r1, r2, r3, r4⟩ := g vc c1 (by rw [c2]; decide)
  refine ⟨h1, by rw [o1]; exact h2, by rw [o4]; exact h3, by rw [o4]; exact h4, h5, h6, va, vb, vc, ⟨a1, by rw [p1]; exact a2, by rw [p2]; exact a3, by rw [o3]; exact a4⟩, ⟨b1, by rw [q1]; exact b2, by rw [q2]; exact b3, by rw [o3]; exact b4⟩, ⟨c1, by rw [r1]; exact c2, by rw [r2]; exact c3, by rw [o3]; exact c4⟩, hne, fun j hj => ?_⟩
  rw [p4, q4, r4]
  exact hs j hj
theorem xH_g {b : Nat} {w : Wk} {K N K' N' : Nat → Nat} {R R' : Nat → Nat → Option Nat} {I I' : Nat → Nat → Int32} (h : xH b w K N R I) (g : grw K N R I K' N' R' I') (e : R' b 7 = R b 7) : xH b w K' N' R' I' := by
  rcases h with h | ⟨o, cap, h1, h2⟩
  · exact Or.inl ⟨by rw [e]; exact h.1, h.2⟩
  · exact Or.inr ⟨o, cap, by rw [e]; exact h1, xWs_g h2 g⟩
theorem xG_g {b : Nat} {g0 : Gv} (hg : gwf g0) {K N K' N' : Nat → Nat} {R R' : Nat → Nat → Option Nat} {I I' : Nat → Nat → Int32} (h : xG b g0 K R I) (g : grw K N R I K' N' R' I') (e : R' (b + 1) = R (b + 1)) (e0 : I' b = I b) (e2 : I' (b + 2) = I (b + 2)) (e3 : I' (b + 3) = I (b + 3)) (e4 : I' (b + 4) = I (b + 4)) : xG b g0 K' R' I' := by
  obtain ⟨g1, g2, g3, g4⟩ := h
  refine ⟨by rw [e0]; exact g1, by rw [e0]; exact g2, by rw [e0]; exact g3, fun p hp => ?_⟩
  obtain ⟨⟨h, k1, k2⟩, k3, k4, k5⟩ := g4 p hp
  exact ⟨⟨h, by rw [e]; exact k1, xHd_g (hg.2.1 p hp).1 k2 g⟩, by rw [e3]; exact k3, by rw [e2]; exact k4, fun j hj => by rw [e4]; exact k5 j hj⟩
theorem xHs_g {b : Nat} {K N K' N' : Nat → Nat} {R R' : Nat → Nat → Option Nat} {I I' : Nat → Nat → Int32} (h : xHs b K R) (g : grw K N R I K' N' R' I') (e : R' (b + 1) = R (b + 1)) : xHs b K' R' := by
  intro p hp q hq
  rw [e] at hq
  obtain ⟨h1, k, h2, h3⟩ := h p hp q hq
  exact ⟨h1, k, h2, by rw [(g q h1 (by rw [h3]; exact Nat.succ_ne_zero _)).1]; exact h3⟩
theorem grw_mk {K N : Nat → Nat} {R : Nat → Nat → Option Nat} {I : Nat → Nat → Int32} {n : Nat} (hK : K n = 0) (c i v : Nat) : grw K N R I (upK K n c) N (upW R n none) (mkI n i v I) := by
  intro q hq hk
  have hne : q ≠ n := fun z => hk (by rw [z]; exact hK)
  exact ⟨upK_ne _ _ hne, rfl, upW_ne _ _ hne, mkI_ne hne⟩
/-- the answer of worker, and what lies then -/
def wkPo (g : Gv) (x y : Int32) (K N : Nat → Nat) (Rf : Nat → Nat → Option Nat) (I : Nat → Nat → Int32) (L : Nat → Nat → Int64) (r : Option Value) (σ' : Sg) : Prop := ∃ K' Rf' I', σ' = sg K' N Rf' I' L ∧ r = some (.int (workS g x y).1) ∧ xG 300 (workS g x y).2 K' Rf' I' ∧ grw K N Rf I K' N Rf' I' ∧ fre K' ∧ (∀ q, q < 1000 → q ≠ 301 → Rf' q = Rf q) ∧ (∀ p h, Rf' 301 p = some h → Rf 301 p = some h ∨ (1000 ≤ h ∧ ∃ k, k ≤ 6 ∧ K' h = hci k + 1)) ∧ (∀ q, q < 1000 → q ≠ 300 → q ≠ 303 → I' q = I q) ∧ (∀ k, k ≠ 4 → I' 300 k = I 300 k)
theorem hireG_0 {g : Gv} {K : Nat → Nat} {R : Nat → Nat → Option Nat} {I : Nat → Nat → Int32} (hg : gwf g) (hG : xG 300 g K R I) (hz : ∀ k, gn g ≤ k → k < 6 → I 302 k = 0) (hr : ∀ k, 4 * gn g ≤ k → k < 24 → I 304 k = 0) (ha : ∃ z, z < 2 ^ gn g ∧ ga g = nI z) (h6 : gn g < 6) {n k v : Nat} (hn : 1000 ≤ n) (hK : K n = 0) : xG 300 (hireG g k v) (upK K n (hci k + 1)) (up2 (upW R n none) 301 (gn g) (some n)) (up2 (up2 (mkI n (gn g) v I) 303 (gn g) (nI (gn g))) 300 4 (nI (gn g + 1))) := by
  obtain ⟨g1, g2, g3, g4⟩ := hG
  have e0 : ∀ q, q ≠ 300 → q ≠ 303 → q ≠ n → (up2 (up2 (mkI n (gn g) v I) 303 (gn g) (nI (gn g))) 300 4 (nI (gn g + 1))) q = I q := fun q q0 q1 q2 => by rw [up2_ne _ _ _ q0, up2_ne _ _ _ q1, mkI_ne q2]
  have e3 : ∀ j, (up2 (up2 (mkI n (gn g) v I) 303 (gn g) (nI (gn g))) 300 4 (nI (gn g + 1))) 300 j = if j = 4 then nI (gn g + 1) else I 300 j := fun j => by rw [up2_at, up2_ne _ _ _ (by decide), mkI_ne (by omega)]
  have hst : rstS (ga g) (nI (gn g)) 0 = ga g := by
    obtain ⟨z, hz1, hz2⟩ := ha
    rw [hz2]
    have key : ∀ m, m < 6 → ∀ z, z < 2 ^ m → nI z &&& (nI 1 <<< (nI m &&& 31) ^^^ -nI 1) = nI z := by decide +kernel
    unfold rstS
    rw [if_pos rfl]
    exact key _ h6 z hz1
  refine ⟨by rw [e3, if_pos rfl]; rfl, ?_, by rw [e3, if_neg (by decide)]; exact g3, fun p hp => ?_⟩
  · rw [e3, if_neg (by decide)]
    show I 300 5 = rstS (ga g) (nI (gn g)) 0
    rw [hst]; exact g2
  · have hp' : p < gn g + 1 := hp
    show (∃ h, up2 (upW R n none) 301 (gn g) (some n) 301 p = some h ∧ xHd _ _ h (upN (gk g) (gn g) k p) p (upN (gv g) (gn g) v p)) ∧ _ = nI (upN (gc g) (gn g) (gn g) p) ∧ _ = nI (upN (gh g) (gn g) 0 p) ∧ ∀ j, j < 4 → _ = nI (if (4 * p + j) / 4 = gn g then 0 else gr g (4 * p + j))
    have hfr := grw_mk (N := fun _ => 0) (R := R) (I := I) hK (hci k + 1) (gn g) v
    have hxI : ∀ q, 1000 ≤ q → (up2 (up2 (mkI n (gn g) v I) 303 (gn g) (nI (gn g))) 300 4 (nI (gn g + 1))) q = mkI n (gn g) v I q := fun q hq => by rw [up2_ne _ _ _ (by omega), up2_ne _ _ _ (by omega)]
    by_cases hpe : p = gn g
    · subst hpe
      refine ⟨⟨n, by rw [up2_self], ?_⟩, ?_, ?_, fun j hj => ?_⟩
      · rw [upN_at, upN_at]; exact xHd_I (mkI_hd hn) hxI
      · rw [upN_at, up2_ne _ _ _ (by decide), up2_self]
      · rw [upN_at, e0 _ (by decide) (by decide) (by omega)]; exact hz _ (Nat.le_refl _) h6
      · rw [if_pos (by omega), e0 _ (by decide) (by decide) (by omega)]; exact hr _ (by omega) (by omega)
    · obtain ⟨⟨h, k1, k2⟩, k3, k4, k5⟩ := g4 p (by omega)
      have hk6 := (hg.2.1 p (by omega)).1
      refine ⟨⟨h, ?_, ?_⟩, ?_, ?_, fun j hj => ?_⟩
      · rw [up2_at, if_neg hpe, upW_ne _ _ (by omega)]; exact k1
      · rw [upN_ne _ _ hpe, upN_ne _ _ hpe]; exact xHd_I (xHd_g hk6 k2 hfr) hxI
      · rw [upN_ne _ _ hpe, up2_ne _ _ _ (by decide), up2_at, if_neg hpe, mkI_ne (by omega)]; exact k3
      · rw [upN_ne _ _ hpe, e0 _ (by decide) (by decide) (by omega)]; exact k4
      · rw [if_neg (by omega), e0 _ (by decide) (by decide) (by omega)]; exact k5 j hj
set_option maxHeartbeats 1000000 in
theorem c_X_worker (E : zE) (K N : Nat → Nat) (Rf : Nat → Nat → Option Nat) (I : Nat → Nat → Int32) (L : Nat → Nat → Int64) {g : Gv} (hg : gwf g) (hG : xG 300 g K Rf I) (hz : ∀ k, gn g ≤ k → k < 6 → I 302 k = 0) (hr : ∀ k, 4 * gn g ≤ k → k < 24 → I 304 k = 0) (ha : ∃ z, z < 2 ^ gn g ∧ ga g = nI z) (hf : fre K) (x y : Int32) : zCt E mX11_worker 5 1 2 (sg K N Rf I L) [.ref 200, .int x, .int y] (wkPo g x y K N Rf I L) := by
  have h6 := hg.1
  have hsame : ∀ (v : Int32), workS g x y = (v, g) → wkPo g x y K N Rf I L (some (.int v)) (sg K N Rf I L) := fun v e => ⟨K, Rf, I, rfl, by rw [e], by rw [e]; exact hG, grw_rf _ _ _ _, hf, fun _ _ _ => rfl, fun _ _ h => Or.inl h, fun _ _ _ _ => rfl, fun _ _ => rfl⟩
  refine z_intro (by decide) (Nat.le_of_ble_eq_true rfl) (fun X hX => ?_)
  refine bk hX lkX11_ok (pc' := 1) [.iload_n 1] (by decide +kernel) (And.intro trivial ?_)
  refine z_callS hX kw_X11_58 (c_X_isKind E _ _) rfl rfl (by decide +kernel) (by decide) (by decide) (by decide) (by decide) (Nat.le_of_ble_eq_true rfl) ?_
  rintro _ _ ⟨rfl, hh⟩
  rcases hh with ⟨hk, rfl⟩ | ⟨hk, rfl⟩
  · refine if_ne hX (5) 9 (by decide +kernel) (by decide) (fun c_4 => ?_) (fun c => absurd c (by decide))
    refine bk hX lkX11_ok (pc' := 10) [.iload_n 2] (by decide +kernel) (And.intro trivial ?_)
    refine z_callS hX kw_X11_62 (c_X_isDigit E _ _) rfl rfl (by decide +kernel) (by decide) (by decide) (by decide) (by decide) (Nat.le_of_ble_eq_true rfl) ?_
    rintro _ _ ⟨rfl, hh⟩
    rcases hh with ⟨hv, rfl⟩ | ⟨hv, rfl⟩
    · refine if_ne hX (6) 19 (by decide +kernel) (by decide) (fun c_13 => ?_) (fun c => absurd c (by decide))
      refine bk hX lkX11_ok (pc' := 28) [.aload_n 0, .getfield 12, .getfield 65, .bipush 6] (by decide +kernel) (And.intro trivial ?_)
      rw [hG.1]
      refine ic_lt hX (6) 34 (by decide +kernel) (by decide) (fun c28 => ?_) (fun c28 => ?_)
      · have hlt : gn g < 6 := Nat.lt_of_not_le (fun z => absurd c28 (i_nlt.mpr (nI_le z (by omega))))
        obtain ⟨kk, hkk, rfl⟩ := isIn_ex hk (by decide)
        obtain ⟨vv, hvv, rfl⟩ := isIn_ex hv (by decide)
        obtain ⟨n, hn, hBK⟩ := hf
        refine bk hX lkX11_ok (pc' := 47) [.aload_n 0, .getfield 12, .iload_n 1, .aload_n 0, .getfield 12, .getfield 65, .iload_n 2] (by decide +kernel) (And.intro trivial ?_)
        rw [hG.1]
        refine z_callS hX kw_X11_69 (c_X_made E K N Rf I L hn (hBK n (Nat.le_refl _)) (k := kk) (i := gn g) (v := vv) (by omega)) rfl rfl (by decide +kernel) (by decide) (by decide) (by decide) (by decide) (Nat.le_of_ble_eq_true rfl) ?_
        rintro _ _ ⟨rfl, rfl⟩
        have hKn := hBK n (Nat.le_refl _)
        refine z_callV hX kw_X11_73 (c_G3_hire E _ N _ _ L hlt (by rw [mkI_ne (by omega)]; exact hG.1) hn (k := kk) (by omega) (upK_at _ _ _)) rfl rfl rfl rfl rfl (by decide +kernel) (by decide) (by decide) (by decide) (by decide) (Nat.le_of_ble_eq_true rfl) ?_
        rintro _ _ ⟨rfl, rfl⟩
        exact z_iret hX (by decide +kernel) rfl (rfl) (by decide) (by decide) (by
  have hf : fre K := ⟨n, hn, hBK⟩
  have e : workS g (nI kk) (nI vv) = (nI (gn g), hireG g kk vv) := by rw [workS, if_pos hk, if_pos hv, if_neg (by omega), jx_nI (by omega), jx_nI (by omega)]
  refine ⟨_, _, _, rfl, by rw [e], by rw [e]; exact hireG_0 hg hG hz hr ha hlt hn hKn, ?_, fre_up hf _ _, fun q hq h1 => ?_, fun p h hh => ?_, fun q hq h0 h3 => ?_, fun k h4 => ?_⟩
  · intro q hq hk0
    have hne : q ≠ n := fun z => hk0 (by rw [z]; exact hKn)
    exact ⟨upK_ne _ _ hne, rfl, by rw [up2_ne _ _ _ (by omega), upW_ne _ _ hne], by rw [up2_ne _ _ _ (by omega), up2_ne _ _ _ (by omega), mkI_ne hne]⟩
  · rw [up2_ne _ _ _ h1, upW_ne _ _ (by omega)]
  · rw [up2_at] at hh
    split at hh
    · cases hh; exact Or.inr ⟨hn, kk, by omega, upK_at _ _ _⟩
    · rw [upW_ne _ _ (by omega)] at hh; exact Or.inl hh
  · rw [up2_ne _ _ _ h0, up2_ne _ _ _ h3, mkI_ne (by omega)]
  · rw [up2_at, if_neg h4, up2_ne _ _ _ (by decide), mkI_ne (by omega)])
      · refine bk hX lkX11_ok (pc' := 33) [.bipush (Int.negSucc 3)] (by decide +kernel) (And.intro trivial ?_)
        exact z_iret hX (by decide +kernel) rfl (rfl) (by decide) (by decide) (hsame _ (by rw [workS, if_pos hk, if_pos hv, if_pos (Nat.le_antisymm h6 (Nat.le_of_not_lt (fun z => c28 (nI_lt (b := 6) z (by decide)))))]))
    · refine if_ne hX (6) 19 (by decide +kernel) (by decide) (fun c => absurd (by decide) c) (fun c_13 => ?_)
      refine bk hX lkX11_ok (pc' := 18) [.bipush (Int.negSucc 1)] (by decide +kernel) (And.intro trivial ?_)
      exact z_iret hX (by decide +kernel) rfl (rfl) (by decide) (by decide) (hsame _ (by rw [workS, if_pos hk, if_neg hv]))
  · refine if_ne hX (5) 9 (by decide +kernel) (by decide) (fun c => absurd (by decide) c) (fun c_4 => ?_)
    refine bk hX lkX11_ok (pc' := 8) [.iconst (Int.negSucc 0)] (by decide +kernel) (And.intro trivial ?_)
    exact z_iret hX (by decide +kernel) rfl (rfl) (by decide) (by decide) (hsame _ (by rw [workS, if_neg hk]))
def unB (a k : Nat) : Bool := decide (k = 0 ∨ a = k ∨ (k = 1 ∧ a = 4) ∨ (k = 2 ∧ a = 5) ∨ (k = 3 ∧ a = 6))
set_option maxHeartbeats 1000000 in
theorem c_X_isUnder (E : zE) (σ : Sg) {h a k : Nat} (ha : a ≤ 6) (hk : k ≤ 6) (hks : σ.1 h = hci a + 1) : zCt E mX11_isUnder 0 0 0 σ [.ref h, .int (nI k)] (fun r σ' => σ' = σ ∧ r = some (.int (b2i (unB a k)))) := by
  rcases (show a = 0 ∨ a = 1 ∨ a = 2 ∨ a = 3 ∨ a = 4 ∨ a = 5 ∨ a = 6 by omega) with rfl | rfl | rfl | rfl | rfl | rfl | rfl
  all_goals
    refine z_intro (by decide) (Nat.le_of_ble_eq_true rfl) (fun X hX => ?_)
    refine bk hX lkX11_ok (pc' := 1) [.iload_n 1] (by decide +kernel) (And.intro trivial ?_)
    rcases (show k = 0 ∨ k = 1 ∨ k = 2 ∨ k = 3 ∨ k = 4 ∨ k = 5 ∨ k = 6 by omega) with rfl | rfl | rfl | rfl | rfl | rfl | rfl
    · refine z_tsw hX 70 (dflt := 69) (lo := 1) (hi := 6) (offs := #[39, 44, 49, 54, 59, 64]) (len := 39) (off := 69) (by decide +kernel) (by decide) (by decide) ?_
      refine bk hX lkX11_ok (pc' := 71) [.iconst 1] (by decide +kernel) (And.intro trivial ?_)
      exact z_iret hX (by decide +kernel) rfl (rfl) (by decide) (by decide) (⟨rfl, rfl⟩)
    · refine z_tsw hX 40 (dflt := 69) (lo := 1) (hi := 6) (offs := #[39, 44, 49, 54, 59, 64]) (len := 39) (off := 39) (by decide +kernel) (by decide) (by decide) ?_
      refine bk hX lkX11_ok (pc' := 41) [.aload_n 0] (by decide +kernel) (And.intro trivial ?_)
      first
        | refine z_instY hX hks rfl kl_X11_287 (by decide +kernel) (by decide +kernel) ?_
        | refine z_instN hX hks rfl kl_X11_287 (by decide +kernel) (by decide +kernel) ?_
      exact z_iret hX (by decide +kernel) rfl (rfl) (by decide) (by decide) (⟨rfl, rfl⟩)
    · refine z_tsw hX 45 (dflt := 69) (lo := 1) (hi := 6) (offs := #[39, 44, 49, 54, 59, 64]) (len := 39) (off := 44) (by decide +kernel) (by decide) (by decide) ?_
      refine bk hX lkX11_ok (pc' := 46) [.aload_n 0] (by decide +kernel) (And.intro trivial ?_)
      first
        | refine z_instY hX hks rfl kl_X11_291 (by decide +kernel) (by decide +kernel) ?_
        | refine z_instN hX hks rfl kl_X11_291 (by decide +kernel) (by decide +kernel) ?_
      exact z_iret hX (by decide +kernel) rfl (rfl) (by decide) (by decide) (⟨rfl, rfl⟩)
    · refine z_tsw hX 50 (dflt := 69) (lo := 1) (hi := 6) (offs := #[39, 44, 49, 54, 59, 64]) (len := 39) (off := 49) (by decide +kernel) (by decide) (by decide) ?_
      refine bk hX lkX11_ok (pc' := 51) [.aload_n 0] (by decide +kernel) (And.intro trivial ?_)
      first
        | refine z_instY hX hks rfl kl_X11_294 (by decide +kernel) (by decide +kernel) ?_
        | refine z_instN hX hks rfl kl_X11_294 (by decide +kernel) (by decide +kernel) ?_
      exact z_iret hX (by decide +kernel) rfl (rfl) (by decide) (by decide) (⟨rfl, rfl⟩)
    · refine z_tsw hX 55 (dflt := 69) (lo := 1) (hi := 6) (offs := #[39, 44, 49, 54, 59, 64]) (len := 39) (off := 54) (by decide +kernel) (by decide) (by decide) ?_
      refine bk hX lkX11_ok (pc' := 56) [.aload_n 0] (by decide +kernel) (And.intro trivial ?_)
      first
        | refine z_instY hX hks rfl kl_X11_297 (by decide +kernel) (by decide +kernel) ?_
        | refine z_instN hX hks rfl kl_X11_297 (by decide +kernel) (by decide +kernel) ?_
      exact z_iret hX (by decide +kernel) rfl (rfl) (by decide) (by decide) (⟨rfl, rfl⟩)
    · refine z_tsw hX 60 (dflt := 69) (lo := 1) (hi := 6) (offs := #[39, 44, 49, 54, 59, 64]) (len := 39) (off := 59) (by decide +kernel) (by decide) (by decide) ?_
      refine bk hX lkX11_ok (pc' := 61) [.aload_n 0] (by decide +kernel) (And.intro trivial ?_)
      first
        | refine z_instY hX hks rfl kl_X11_300 (by decide +kernel) (by decide +kernel) ?_
        | refine z_instN hX hks rfl kl_X11_300 (by decide +kernel) (by decide +kernel) ?_
      exact z_iret hX (by decide +kernel) rfl (rfl) (by decide) (by decide) (⟨rfl, rfl⟩)
    · refine z_tsw hX 65 (dflt := 69) (lo := 1) (hi := 6) (offs := #[39, 44, 49, 54, 59, 64]) (len := 39) (off := 64) (by decide +kernel) (by decide) (by decide) ?_
      refine bk hX lkX11_ok (pc' := 66) [.aload_n 0] (by decide +kernel) (And.intro trivial ?_)
      first
        | refine z_instY hX hks rfl kl_X11_303 (by decide +kernel) (by decide +kernel) ?_
        | refine z_instN hX hks rfl kl_X11_303 (by decide +kernel) (by decide +kernel) ?_
      exact z_iret hX (by decide +kernel) rfl (rfl) (by decide) (by decide) (⟨rfl, rfl⟩)
theorem c_X_taken (E : zE) (K N : Nat → Nat) (Rf : Nat → Nat → Option Nat) (I : Nat → Nat → Int32) (L : Nat → Nat → Int64) {g : Gv} (hg : gwf g) (hG : xG 300 g K Rf I) (x y : Int32) : zCt E mX11_taken 2 0 0 (sg K N Rf I L) [.ref 200, .int x, .int y] (fun r σ' => σ' = (sg K N Rf I L) ∧ r = some (.int (tknS g x y))) := by
  have h6 := hg.1
  refine z_intro (by decide) (Nat.le_of_ble_eq_true rfl) (fun X hX => ?_)
  refine bk hX lkX11_ok (pc' := 1) [.iload_n 2] (by decide +kernel) (And.intro trivial ?_)
  refine z_callS hX kw_X11_58 (c_X_isKind E _ _) rfl rfl (by decide +kernel) (by decide) (by decide) (by decide) (by decide) (Nat.le_of_ble_eq_true rfl) ?_
  rintro _ _ ⟨rfl, hh⟩
  rcases hh with ⟨hk, rfl⟩ | ⟨hk, rfl⟩
  · refine if_ne hX (6) 10 (by decide +kernel) (by decide) (fun c_4 => ?_) (fun c => absurd c (by decide))
    refine bk hX lkX11_ok (pc' := 12) [.aload_n 0, .iload_n 1] (by decide +kernel) (And.intro trivial ?_)
    refine z_callV hX kw_X11_77 (c_X_isWorker E K N _ _ L _ hg.1 hG.1) rfl rfl rfl rfl rfl (by decide +kernel) (by decide) (by decide) (by decide) (by decide) (Nat.le_of_ble_eq_true rfl) ?_
    rintro _ _ ⟨rfl, hh⟩
    rcases hh with ⟨hw, rfl⟩ | ⟨hw, rfl⟩
    · refine if_ne hX (6) 21 (by decide +kernel) (by decide) (fun c_15 => ?_) (fun c => absurd c (by decide))
      obtain ⟨i, hi, rfl⟩ := isIn_ex hw (by omega)
      obtain ⟨k, hk7, rfl⟩ := isIn_ex hk (by decide)
      have ci : (nI i).toNatClampNeg = i := cl (by omega)
      obtain ⟨⟨h, hr, hh⟩, -⟩ := hG.2.2.2 i hi
      have hks : (sg K N Rf I L).1 h = hci (gk g i) + 1 := by rw [← hh.2.1]; exact kF_hi K hh.1
      have hk6 := (hg.2.1 i hi).1
      have eT : tknS g (nI i) (nI k) = if unB (gk g i) k = true then nI (gk g i) else -nI 12 := by
        rw [tknS, if_pos hk, if_pos hw, jx_nI (by omega), jx_nI (by omega)]
        unfold unB
        simp only [decide_eq_true_iff]
      refine bk hX lkX11_ok (pc' := 29) [.aload_n 0, .getfield 12, .getfield 80, .iload_n 1] (by decide +kernel) (And.intro trivial ?_)
      refine z_aald hX (q := h) (rfl) (vin 6 (by omega)) (by rw [ci]; exact hr) (by decide +kernel) ?_
      refine bk hX lkX11_ok (pc' := 33) [.astore_n 3, .aload_n 3, .iload_n 2] (by decide +kernel) (And.intro trivial ?_)
      refine z_callS hX kw_X11_273 (c_X_isUnder E _ (a := gk g i) (k := k) hk6 (by omega) hks) rfl rfl (by decide +kernel) (by decide) (by decide) (by decide) (by decide) (Nat.le_of_ble_eq_true rfl) ?_
      rintro _ _ ⟨rfl, rfl⟩
      rcases b2i_or (unB (gk g i) k) with ⟨hb, eb⟩ | ⟨hb, eb⟩
      all_goals rw [eb]
      · refine if_eq hX (10) 46 (by decide +kernel) (by decide) (fun c => absurd c (by decide)) (fun c_36 => ?_)
        refine bk hX lkX11_ok (pc' := 40) [.aload_n 3] (by decide +kernel) (And.intro trivial ?_)
        refine vc_kind_X11 hX rfl hk6 hks (by decide +kernel) (by decide) (by decide) (by decide) (Nat.le_of_ble_eq_true rfl) ?_
        refine gt_ hX (5) 48 (by decide +kernel) (by decide) ?_
        exact z_iret hX (by decide +kernel) rfl (rfl) (by decide) (by decide) (by first | exact ⟨rfl, by rw [eT, if_pos hb]⟩ | exact ⟨rfl, by rw [eT, if_neg hb]⟩)
      · refine if_eq hX (10) 46 (by decide +kernel) (by decide) (fun c_36 => ?_) (fun c => absurd (by decide) c)
        refine bk hX lkX11_ok (pc' := 48) [.bipush (Int.negSucc 11)] (by decide +kernel) (And.intro trivial ?_)
        exact z_iret hX (by decide +kernel) rfl (rfl) (by decide) (by decide) (by first | exact ⟨rfl, by rw [eT, if_pos hb]⟩ | exact ⟨rfl, by rw [eT, if_neg hb]⟩)
    · refine if_ne hX (6) 21 (by decide +kernel) (by decide) (fun c => absurd (by decide) c) (fun c_15 => ?_)
      refine bk hX lkX11_ok (pc' := 20) [.bipush (Int.negSucc 10)] (by decide +kernel) (And.intro trivial ?_)
      exact z_iret hX (by decide +kernel) rfl (rfl) (by decide) (by decide) (⟨rfl, by rw [tknS, if_pos hk, if_neg hw]⟩)
  · refine if_ne hX (6) 10 (by decide +kernel) (by decide) (fun c => absurd (by decide) c) (fun c_4 => ?_)
    refine bk hX lkX11_ok (pc' := 9) [.bipush (Int.negSucc 1)] (by decide +kernel) (And.intro trivial ?_)
    exact z_iret hX (by decide +kernel) rfl (rfl) (by decide) (by decide) (⟨rfl, by rw [tknS, if_neg hk]⟩)
