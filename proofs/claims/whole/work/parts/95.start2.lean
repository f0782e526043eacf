/-- nothing lies there -/
def kZ (p : Nat) (σ : Sg) : Prop := σ.1 p = 0
theorem kZ_A {p : Nat} {σ : Sg} (h : kZ p σ) {n : Nat} (t len : Nat) (hn : p ≠ n) : kZ p (zNewA σ n t len) := (upK_ne _ _ hn).trans h
theorem kZ_O {p : Nat} {σ : Sg} (h : kZ p σ) {n : Nat} (ci : Nat) (hn : p ≠ n) : kZ p (zNewO σ n ci) := (upK_ne _ _ hn).trans h
theorem kZ_I {p : Nat} {σ : Sg} (h : kZ p σ) (o j : Nat) (v : Int32) : kZ p (pI σ o j v) := h
theorem kZ_R {p : Nat} {σ : Sg} (h : kZ p σ) (o j : Nat) (v : Option Nat) : kZ p (pR σ o j v) := h
set_option maxHeartbeats 4000000 in
set_option maxRecDepth 4000 in
theorem kZ_x12 {p : Nat} {σ : Sg} (h : kZ p σ) (hp : 1000 < p) : kZ p (x12P σ) := by
  unfold x12P
  repeat first
    | exact h
    | refine kZ_I ?_ _ _ _
    | refine kZ_A ?_ _ _ (by omega)
    | refine kZ_R ?_ _ _ _
theorem kZ_8 {p : Nat} {σ : Sg} (h : kZ p σ) {o : Nat} (n : Nat) (hp : o + 3 < p) : kZ p (x8P σ o n) := (x8_k (by omega) (by omega) (by omega)).trans h
theorem kZ_F {p : Nat} {σ : Sg} (h : kZ p σ) : kZ p (fiP σ) := h

theorem kZ_J {p : Nat} {σ : Sg} (h : kZ p σ) (hp : 1000 < p) : kZ p (xJP σ) := by
  unfold xJP
  refine kZ_I ?_ _ _ _
  refine kZ_R ?_ _ _ _
  refine kZ_A ?_ _ _ (by omega)
  exact h
theorem kZ_x1300 {p : Nat} {σ : Sg} (h : kZ p σ) (hp : 1000 < p) : kZ p (x1P300 σ) := by
  unfold x1P300
  refine kZ_R ?_ _ _ _
  refine kZ_8 ?_ _ (by omega)
  refine kZ_O ?_ _ (by omega)
  refine kZ_R ?_ _ _ _
  refine kZ_8 ?_ _ (by omega)
  refine kZ_O ?_ _ (by omega)
  refine kZ_R ?_ _ _ _
  refine kZ_8 ?_ _ (by omega)
  refine kZ_O ?_ _ (by omega)
  refine kZ_R ?_ _ _ _
  refine kZ_A ?_ _ _ (by omega)
  refine kZ_R ?_ _ _ _
  refine kZ_A ?_ _ _ (by omega)
  refine kZ_R ?_ _ _ _
  refine kZ_A ?_ _ _ (by omega)
  refine kZ_R ?_ _ _ _
  refine kZ_A ?_ _ _ (by omega)
  exact h
theorem kZ_x1340 {p : Nat} {σ : Sg} (h : kZ p σ) (hp : 1000 < p) : kZ p (x1P340 σ) := by
  unfold x1P340
  refine kZ_R ?_ _ _ _
  refine kZ_8 ?_ _ (by omega)
  refine kZ_O ?_ _ (by omega)
  refine kZ_R ?_ _ _ _
  refine kZ_8 ?_ _ (by omega)
  refine kZ_O ?_ _ (by omega)
  refine kZ_R ?_ _ _ _
  refine kZ_8 ?_ _ (by omega)
  refine kZ_O ?_ _ (by omega)
  refine kZ_R ?_ _ _ _
  refine kZ_A ?_ _ _ (by omega)
  refine kZ_R ?_ _ _ _
  refine kZ_A ?_ _ _ (by omega)
  refine kZ_R ?_ _ _ _
  refine kZ_A ?_ _ _ (by omega)
  refine kZ_R ?_ _ _ _
  refine kZ_A ?_ _ _ (by omega)
  exact h
theorem kZ_x1380 {p : Nat} {σ : Sg} (h : kZ p σ) (hp : 1000 < p) : kZ p (x1P380 σ) := by
  unfold x1P380
  refine kZ_R ?_ _ _ _
  refine kZ_8 ?_ _ (by omega)
  refine kZ_O ?_ _ (by omega)
  refine kZ_R ?_ _ _ _
  refine kZ_8 ?_ _ (by omega)
  refine kZ_O ?_ _ (by omega)
  refine kZ_R ?_ _ _ _
  refine kZ_8 ?_ _ (by omega)
  refine kZ_O ?_ _ (by omega)
  refine kZ_R ?_ _ _ _
  refine kZ_A ?_ _ _ (by omega)
  refine kZ_R ?_ _ _ _
  refine kZ_A ?_ _ _ (by omega)
  refine kZ_R ?_ _ _ _
  refine kZ_A ?_ _ _ (by omega)
  refine kZ_R ?_ _ _ _
  refine kZ_A ?_ _ _ (by omega)
  exact h
theorem kZ_x11 {p : Nat} {σ : Sg} (h : kZ p σ) (hp : 1000 < p) : kZ p (x11P σ) := by
  unfold x11P
  refine kZ_F ?_
  refine kZ_R ?_ _ _ _
  refine kZ_A ?_ _ _ (by omega)
  refine kZ_R ?_ _ _ _
  refine kZ_A ?_ _ _ (by omega)
  refine kZ_R ?_ _ _ _
  refine kZ_A ?_ _ _ (by omega)
  refine kZ_R ?_ _ _ _
  refine kZ_A ?_ _ _ (by omega)
  refine kZ_R ?_ _ _ _
  refine kZ_A ?_ _ _ (by omega)
  refine kZ_R ?_ _ _ _
  refine kZ_J ?_ (by omega)
  refine kZ_O ?_ _ (by omega)
  refine kZ_R ?_ _ _ _
  refine kZ_A ?_ _ _ (by omega)
  refine kZ_R ?_ _ _ _
  refine kZ_x1380 ?_ (by omega)
  refine kZ_O ?_ _ (by omega)
  refine kZ_R ?_ _ _ _
  refine kZ_x1340 ?_ (by omega)
  refine kZ_O ?_ _ (by omega)
  refine kZ_R ?_ _ _ _
  refine kZ_x1300 ?_ (by omega)
  refine kZ_O ?_ _ (by omega)
  exact h
theorem s03_fre : fre s03.1 := ⟨1001, by decide, fun q hq => kZ_x12 (kZ_O (kZ_x11 (kZ_O (show kZ q s00 by
  show k00 q = 0
  unfold k00
  simp only [Bool.cond_eq_ite, Nat.beq_eq, Nat.blt_eq]
  repeat' split
  all_goals first
    | rfl
    | omega) _ (by omega)) (by omega)) _ (by omega)) (by omega)⟩
def g00 : Gv := (0, (fun _ => 0), (fun _ => 0), (fun _ => 0), (fun _ => 0), (fun _ => 0), 0, 0)
def r00 : Rw := (0, (fun _ => 0), (fun _ => 0), (fun _ => 0))
def T00 : Tp := ((fun _ => -nI 1), (fun _ => 0), (fun _ _ => 0))
def S00 : St := stM (kpM g00 none r00 r00 r00) (fun _ => []) 0 [] [] T00 none
theorem s00_inv : Inv S00 s03.1 s03.2.1 s03.2.2.2.2 s03.2.2.1 s03.2.2.2.1 := by
  have z0 : ∀ {P : Nat → Prop} (k : Nat), k < 0 → P k := fun k hk => absurd hk (Nat.not_lt_zero _)
  refine ⟨⟨⟨⟨by decide, fun p hp => absurd hp (Nat.not_lt_zero _), fun p q hp => absurd hp (Nat.not_lt_zero _)⟩, by decide, ⟨0, by decide, rfl⟩, fun f hf => (by cases hf), ⟨by decide, fun k hk => absurd hk (Nat.not_lt_zero _)⟩, ⟨by decide, fun k hk => absurd hk (Nat.not_lt_zero _)⟩, ⟨by decide, fun k hk => absurd hk (Nat.not_lt_zero _)⟩⟩, fun k hk => (by cases hk), by decide, fun f hf => absurd hf (Nat.not_lt_zero _), txw_nil, fun t ht => ⟨Or.inl ⟨rfl, rfl⟩, Nat.zero_le _⟩⟩, ?_, ?_⟩
  · refine ⟨⟨⟨by decide +kernel, by decide +kernel, by decide +kernel, fun p hp => absurd hp (Nat.not_lt_zero _)⟩, by decide +kernel, ⟨by decide +kernel, by decide, fun k hk => absurd hk (Nat.not_lt_zero _)⟩, ⟨by decide +kernel, by decide, fun k hk => absurd hk (Nat.not_lt_zero _)⟩, ⟨by decide +kernel, by decide, fun k hk => absurd hk (Nat.not_lt_zero _)⟩⟩, (show s03.2.2.1 100 44 = 0 by decide +kernel), by decide +kernel, fun f hf => absurd hf (Nat.not_lt_zero _), mTx_nil (by decide +kernel), ⟨by decide +kernel, by decide, fun k hk => absurd hk (Nat.not_lt_zero _)⟩, fun t ht => ?_, ?_⟩
    · have := (show ∀ t, t < 6 → s03.2.2.1 167 t = -nI 1 ∧ s03.2.2.1 168 t = nI 0 by decide +kernel) t ht
      exact ⟨this.1, this.2, fun i hi => absurd hi (Nat.not_lt_zero _)⟩
    · exact (show ∀ k, k < 13 → s03.2.2.1 125 k = nI (zget [103, 108, 97, 100, 115, 111, 117, 114, 114, 111, 117, 110, 100] k) by decide +kernel)
  · refine ⟨⟨⟨by decide +kernel, by decide +kernel, by decide +kernel, fun p hp => absurd hp (Nat.not_lt_zero _)⟩, Or.inl ⟨by decide +kernel, rfl⟩, fun p hp q hq => ?_, ⟨by decide +kernel, fun k hk => absurd hk (Nat.not_lt_zero _)⟩, ⟨by decide +kernel, fun k hk => absurd hk (Nat.not_lt_zero _)⟩, ⟨by decide +kernel, fun k hk => absurd hk (Nat.not_lt_zero _)⟩, fun q _ hq => ?_, fun q _ hq => ?_⟩, (show s03.2.2.1 200 3 = 0 by decide +kernel), by decide +kernel, xTx_nil (by decide +kernel), ⟨by decide +kernel, by decide +kernel, by decide, fun x hx => absurd hx List.not_mem_nil, fun k hk => absurd hk (Nat.not_lt_zero _)⟩, fun t ht => ?_, s03_fre⟩
    · have := (show ∀ p, p < 6 → s03.2.2.2.2 301 p = none by decide +kernel) p hp
      rw [show (300 + 1 : Nat) = 301 from rfl, this] at hq
      cases hq
    · exact (show ∀ q, q < 6 → s03.2.2.1 302 q = 0 by decide +kernel) q hq
    · exact (show ∀ q, q < 24 → s03.2.2.1 304 q = 0 by decide +kernel) q hq
    · have := (show ∀ t, t < 6 → s03.2.2.1 211 t = -nI 1 ∧ s03.2.2.1 212 t = nI 0 by decide +kernel) t ht
      exact ⟨this.1, this.2, fun i hi => absurd hi (Nat.not_lt_zero _)⟩
