/-! ===== where all begins ===== -/
def k00 (p : Nat) : Nat := bif Nat.blt p 900 then 0 else bif Nat.blt p 904 then 30 else bif Nat.blt p 910 then 0 else bif Nat.blt p 914 then 31 else bif Nat.beq p 1000 then 32 else 0
def s00 : Sg := (k00, fun _ => 0, fun _ _ => 0, fun _ _ => 0, fun _ _ => none)
def s01 : Sg := zNewO s00 200 12
def s02 : Sg := zNewO (x11P s01) 100 13
def s03 : Sg := x12P s02
/-- no reference there -/
def nR (p k : Nat) (σ : Sg) : Prop := σ.2.2.2.2 p k = none
theorem nR_I {p k : Nat} {σ : Sg} (h : nR p k σ) (o j : Nat) (v : Int32) : nR p k (pI σ o j v) := h
theorem nR_R {p k : Nat} {σ : Sg} (h : nR p k σ) {o j : Nat} (v : Option Nat) (hn : p ≠ o ∨ k ≠ j) : nR p k (pR σ o j v) := by
  show up2 σ.2.2.2.2 o j v p k = none
  by_cases e : p = o
  · subst e
    rw [up2_at, if_neg (by omega)]
    exact h
  · rw [up2_ne _ _ _ e]
    exact h
theorem nR_A {p k : Nat} {σ : Sg} (h : nR p k σ) (n t len : Nat) : nR p k (zNewA σ n t len) := by
  show upW σ.2.2.2.2 n none p k = none
  by_cases e : p = n
  · subst e; exact upW_at _ _ _ _
  · rw [upW_ne _ _ e]; exact h
theorem nR_O {p k : Nat} {σ : Sg} (h : nR p k σ) (n ci : Nat) : nR p k (zNewO σ n ci) := by
  show upW σ.2.2.2.2 n none p k = none
  by_cases e : p = n
  · subst e; exact upW_at _ _ _ _
  · rw [upW_ne _ _ e]; exact h
theorem nR_8 {p k : Nat} {σ : Sg} (h : nR p k σ) {o : Nat} (n : Nat) (hn : p ≠ o ∨ 3 ≤ k) : nR p k (x8P σ o n) := nR_R (nR_A (nR_R (nR_A (nR_R (nR_A h _ _ _) _ (by omega)) _ _ _) _ (by omega)) _ _ _) _ (by omega)
theorem nR_J {p k : Nat} {σ : Sg} (h : nR p k σ) (hn : p ≠ 208 ∨ 80 ≤ k) : nR p k (xJP σ) := by
  unfold xJP
  refine nR_I ?_ _ _ _
  refine nR_R ?_ _ (by omega)
  refine nR_A ?_ _ _ _
  exact h
theorem nR_F {p k : Nat} {σ : Sg} (h : nR p k σ) : nR p k (fiP σ) := h
theorem nR_x1300 {p k : Nat} {σ : Sg} (h : nR p k σ) (hn : (p ≠ 300 ∧ p ≠ 310 ∧ p ≠ 314 ∧ p ≠ 318) ∨ 80 ≤ k) : nR p k (x1P300 σ) := by
  unfold x1P300
  refine nR_R ?_ _ (by omega)
  refine nR_8 ?_ _ (by omega)
  refine nR_O ?_ _ _
  refine nR_R ?_ _ (by omega)
  refine nR_8 ?_ _ (by omega)
  refine nR_O ?_ _ _
  refine nR_R ?_ _ (by omega)
  refine nR_8 ?_ _ (by omega)
  refine nR_O ?_ _ _
  refine nR_R ?_ _ (by omega)
  refine nR_A ?_ _ _ _
  refine nR_R ?_ _ (by omega)
  refine nR_A ?_ _ _ _
  refine nR_R ?_ _ (by omega)
  refine nR_A ?_ _ _ _
  refine nR_R ?_ _ (by omega)
  refine nR_A ?_ _ _ _
  exact h
theorem nR_x1340 {p k : Nat} {σ : Sg} (h : nR p k σ) (hn : (p ≠ 340 ∧ p ≠ 350 ∧ p ≠ 354 ∧ p ≠ 358) ∨ 80 ≤ k) : nR p k (x1P340 σ) := by
  unfold x1P340
  refine nR_R ?_ _ (by omega)
  refine nR_8 ?_ _ (by omega)
  refine nR_O ?_ _ _
  refine nR_R ?_ _ (by omega)
  refine nR_8 ?_ _ (by omega)
  refine nR_O ?_ _ _
  refine nR_R ?_ _ (by omega)
  refine nR_8 ?_ _ (by omega)
  refine nR_O ?_ _ _
  refine nR_R ?_ _ (by omega)
  refine nR_A ?_ _ _ _
  refine nR_R ?_ _ (by omega)
  refine nR_A ?_ _ _ _
  refine nR_R ?_ _ (by omega)
  refine nR_A ?_ _ _ _
  refine nR_R ?_ _ (by omega)
  refine nR_A ?_ _ _ _
  exact h
theorem nR_x1380 {p k : Nat} {σ : Sg} (h : nR p k σ) (hn : (p ≠ 380 ∧ p ≠ 390 ∧ p ≠ 394 ∧ p ≠ 398) ∨ 80 ≤ k) : nR p k (x1P380 σ) := by
  unfold x1P380
  refine nR_R ?_ _ (by omega)
  refine nR_8 ?_ _ (by omega)
  refine nR_O ?_ _ _
  refine nR_R ?_ _ (by omega)
  refine nR_8 ?_ _ (by omega)
  refine nR_O ?_ _ _
  refine nR_R ?_ _ (by omega)
  refine nR_8 ?_ _ (by omega)
  refine nR_O ?_ _ _
  refine nR_R ?_ _ (by omega)
  refine nR_A ?_ _ _ _
  refine nR_R ?_ _ (by omega)
  refine nR_A ?_ _ _ _
  refine nR_R ?_ _ (by omega)
  refine nR_A ?_ _ _ _
  refine nR_R ?_ _ (by omega)
  refine nR_A ?_ _ _ _
  exact h
theorem nR_x11 {p k : Nat} {σ : Sg} (h : nR p k σ) (hn : (p ≠ 100 ∧ p ≠ 200 ∧ p ≠ 208 ∧ p ≠ 300 ∧ p ≠ 310 ∧ p ≠ 314 ∧ p ≠ 318 ∧ p ≠ 340 ∧ p ≠ 350 ∧ p ≠ 354 ∧ p ≠ 358 ∧ p ≠ 380 ∧ p ≠ 390 ∧ p ≠ 394 ∧ p ≠ 398) ∨ 80 ≤ k) : nR p k (x11P σ) := by
  unfold x11P
  refine nR_F ?_
  refine nR_R ?_ _ (by omega)
  refine nR_A ?_ _ _ _
  refine nR_R ?_ _ (by omega)
  refine nR_A ?_ _ _ _
  refine nR_R ?_ _ (by omega)
  refine nR_A ?_ _ _ _
  refine nR_R ?_ _ (by omega)
  refine nR_A ?_ _ _ _
  refine nR_R ?_ _ (by omega)
  refine nR_A ?_ _ _ _
  refine nR_R ?_ _ (by omega)
  refine nR_J ?_ (by omega)
  refine nR_O ?_ _ _
  refine nR_R ?_ _ (by omega)
  refine nR_A ?_ _ _ _
  refine nR_R ?_ _ (by omega)
  refine nR_x1380 ?_ (by omega)
  refine nR_O ?_ _ _
  refine nR_R ?_ _ (by omega)
  refine nR_x1340 ?_ (by omega)
  refine nR_O ?_ _ _
  refine nR_R ?_ _ (by omega)
  refine nR_x1300 ?_ (by omega)
  refine nR_O ?_ _ _
  exact h
set_option maxHeartbeats 4000000 in
set_option maxRecDepth 4000 in
theorem nR_x12 {p k : Nat} {σ : Sg} (h : nR p k σ) (hn : p ≠ 100 ∨ 80 ≤ k) : nR p k (x12P σ) := by
  unfold x12P
  repeat first
    | exact h
    | refine nR_I ?_ _ _ _
    | refine nR_A ?_ _ _ _
    | refine nR_R ?_ _ (by omega)
theorem s03_none {p k : Nat} (hn : (p ≠ 100 ∧ p ≠ 200 ∧ p ≠ 208 ∧ p ≠ 300 ∧ p ≠ 310 ∧ p ≠ 314 ∧ p ≠ 318 ∧ p ≠ 340 ∧ p ≠ 350 ∧ p ≠ 354 ∧ p ≠ 358 ∧ p ≠ 380 ∧ p ≠ 390 ∧ p ≠ 394 ∧ p ≠ 398) ∨ 80 ≤ k) : s03.2.2.2.2 p k = none := nR_x12 (nR_O (nR_x11 (nR_O (show nR p k s00 from rfl) _ _) hn) _ _) (by omega)
theorem s03_K : ∀ p, p < 1000 → s03.1 p = kF s03.1 p := by decide +kernel
theorem s03_N : ∀ p, p < 1000 → s03.2.1 p = nF s03.2.1 p := by decide +kernel
def s04 : Sg := pR s03 200 19 (some 220)
theorem s04_R : ∀ p ∈ [100, 200, 208, 300, 310, 314, 318, 340, 350, 354, 358, 380, 390, 394, 398], ∀ k, k < 80 → s04.2.2.2.2 p k = rF s03.2.2.2.2 p k := by decide +kernel
theorem s04_none {p k : Nat} (h : p ≠ 200 ∨ 80 ≤ k) : s04.2.2.2.2 p k = s03.2.2.2.2 p k := by
  show up2 s03.2.2.2.2 200 19 (some 220) p k = _
  by_cases e : p = 200
  · subst e; rw [up2_at, if_neg (by omega)]
  · rw [up2_ne _ _ _ e]
