theorem zget_big : ∀ (l : List Nat) (k : Nat), l.length ≤ k → zget l k = 0
  | [], _, _ => rfl
  | _ :: l, 0, h => absurd h (Nat.not_succ_le_zero _)
  | _ :: l, k + 1, h => zget_big l k (Nat.le_of_succ_le_succ h)
theorem rS_big {l : List Nat} {b k : Nat} (h : l.length ≤ k + 1) : rS l b k = none := by
  unfold rS
  rw [zget_big l _ h]
  rfl
theorem rG_none {R : Nat → Nat → Option Nat} {g u k : Nat} (h : (u ≠ 0 ∧ u ≠ 10 ∧ u ≠ 14 ∧ u ≠ 18) ∨ 80 ≤ k) (hR : u = 1 → R (g + 1) k = none) : rG R g u k = none := by
  unfold rG
  simp only [Bool.cond_eq_ite, Nat.beq_eq, Bool.or_eq_true, Nat.blt_eq]
  repeat' split
  all_goals first
    | rfl
    | exact hR (by omega)
    | omega
theorem blt_t {p n : Nat} (h : p < n) : Nat.blt p n = true := Nat.ble_eq_true_of_le h
theorem blt_f {p n : Nat} (h : ¬ p < n) : Nat.blt p n = false := Bool.eq_false_iff.mpr (fun z => h (Nat.le_of_ble_eq_true z))
theorem rF_none {R : Nat → Nat → Option Nat} {p k : Nat} (hp : p < 1000) (hn : (p ≠ 100 ∧ p ≠ 200 ∧ p ≠ 208 ∧ p ≠ 300 ∧ p ≠ 310 ∧ p ≠ 314 ∧ p ≠ 318 ∧ p ≠ 340 ∧ p ≠ 350 ∧ p ≠ 354 ∧ p ≠ 358 ∧ p ≠ 380 ∧ p ≠ 390 ∧ p ≠ 394 ∧ p ≠ 398) ∨ 80 ≤ k) (hR : R p k = none) : rF R p k = none := by
  by_cases h1 : p = 100
  · subst h1
    show rS mKl 101 k = none
    exact rS_big (by rw [show mKl.length = 71 by decide +kernel]; omega)
  · by_cases h2 : p = 200
    · subst h2
      show (bif Nat.beq k 0 then some 300 else bif Nat.beq k 1 then some 340 else bif Nat.beq k 2 then some 380 else rS xKl 201 k) = none
      rw [bq_f (show k ≠ 0 by omega), bq_f (show k ≠ 1 by omega), bq_f (show k ≠ 2 by omega)]
      show rS xKl 201 k = none
      exact rS_big (by rw [show xKl.length = 21 by decide +kernel]; omega)
    · by_cases h3 : p = 208
      · subst h3
        show (bif Nat.beq k 0 then some 220 else none) = none
        rw [bq_f (show k ≠ 0 by omega)]
        rfl
      · unfold rF
        rw [blt_t hp, bq_f h1, bq_f h2, bq_f h3]
        show (bif Nat.blt p 300 then none else bif Nat.blt p 340 then rG R 300 (p - 300) k else bif Nat.blt p 380 then rG R 340 (p - 340) k else bif Nat.blt p 420 then rG R 380 (p - 380) k else none) = none
        by_cases a1 : p < 300
        · rw [blt_t a1]; rfl
        · rw [blt_f a1]
          by_cases a2 : p < 340
          · rw [blt_t a2]
            simp only [cond_true, cond_false]
            exact rG_none (by omega) (fun z => by rw [show 300 + 1 = p by omega]; exact hR)
          · rw [blt_f a2]
            by_cases a3 : p < 380
            · rw [blt_t a3]
              simp only [cond_true, cond_false]
              exact rG_none (by omega) (fun z => by rw [show 340 + 1 = p by omega]; exact hR)
            · rw [blt_f a3]
              by_cases a4 : p < 420
              · rw [blt_t a4]
                simp only [cond_true, cond_false]
                exact rG_none (by omega) (fun z => by rw [show 380 + 1 = p by omega]; exact hR)
              · rw [blt_f a4]; rfl
theorem s04_rl {G : zG} {b0 : Nat} {ad : Nat → Nat} {H : Heap} (h : zRl G b0 ad s03 H) : zRl G b0 ad s04 H := by
  obtain ⟨h1, h2, h3, h4⟩ := h
  have e : ∀ p k, p ≠ 200 ∨ k < 19 → s04.2.2.2.2 p k = s03.2.2.2.2 p k := fun p k hk => by
    show up2 s03.2.2.2.2 200 19 (some 220) p k = _
    by_cases z : p = 200
    · subst z; rw [up2_at, if_neg (by omega)]
    · rw [up2_ne _ _ _ z]
  have h200 : s03.1 200 = 12 + 1 := by decide +kernel
  have e0 : s04.1 = s03.1 := rfl
  refine ⟨fun p hp => ⟨(h1 p hp).1, fun hlt => ⟨((h1 p hp).2 hlt).1, fun ci q hq hc => ?_, fun t ht hq => ?_⟩⟩, h2, fun p k q hp hq => ?_, h4⟩
  · refine (((h1 p hp).2 hlt).2.1 ci q hq hc).to (fun k hk => ?_)
    unfold zfv
    have hz : s04.2.2.2.2 p k = s03.2.2.2.2 p k := by
      refine e p k ?_
      by_cases z : p = 200
      · subst z
        right
        have : ci = 12 := by
          rw [e0, h200] at hq
          omega
        subst this
        obtain rfl := Option.some.inj (show some (RX11, TX11, 13) = some q from hc)
        have : k < 13 := hk
        omega
      · exact Or.inl z
    rw [hz]
    rfl
  · rw [((h1 p hp).2 hlt).2.2 t ht hq]
    have hz : ∀ k, s04.2.2.2.2 p k = s03.2.2.2.2 p k := fun k => e p k (Or.inl (fun z => by
      subst z
      rw [e0, h200] at hq
      omega))
    have : zel ad s04 t p = zel ad s03 t p := by
      funext j
      unfold zel
      rw [hz]
      rfl
    rw [this]
    rfl
  · by_cases z : p = 200 ∧ k = 19
    · obtain ⟨rfl, rfl⟩ := z
      have hq' : some 220 = some q := by
        rw [← hq]
        show _ = up2 s03.2.2.2.2 200 19 (some 220) 200 19
        rw [up2_self]
      obtain rfl := Option.some.inj hq'
      show s03.1 220 ≠ 0
      decide +kernel
    · have z2 : s04.2.2.2.2 p k = s03.2.2.2.2 p k := by
        show up2 s03.2.2.2.2 200 19 (some 220) p k = _
        by_cases y : p = 200
        · subst y; rw [up2_at, if_neg (fun w => z ⟨rfl, w⟩)]
        · rw [up2_ne _ _ _ y]
      rw [z2] at hq
      exact h3 p k q hp hq
theorem s03_go {X : zX} {cells slots pc : Nat} {lv : List (Nat × Value)} {st : List Value} (k : zS X s04 cells slots pc lv st) : zS X s03 cells slots pc lv st := by
  obtain ⟨p, l, e, R, s, m, args, below, meth, c, Q, G, b0, nL, σ0, ad0⟩ := X
  intro ad H locs ls a1 a2 a3 a4 a5 a6
  exact k ad H locs ls a1 (s04_rl a2) a3 a4 a5 a6
theorem s03_eq : s04 = sg s03.1 s03.2.1 s03.2.2.2.2 s03.2.2.1 s03.2.2.2.1 := by
  have e1 : s03.1 = kF s03.1 := funext fun p => by
    by_cases h : p < 1000
    · exact s03_K p h
    · exact (kF_hi _ (by omega)).symm
  have e2 : s03.2.1 = nF s03.2.1 := funext fun p => by
    by_cases h : p < 1000
    · exact s03_N p h
    · exact (nF_hi _ (by omega)).symm
  have e3 : s04.2.2.2.2 = rF s03.2.2.2.2 := funext fun p => funext fun k => by
    by_cases h : p < 1000
    · by_cases hq : (p ≠ 100 ∧ p ≠ 200 ∧ p ≠ 208 ∧ p ≠ 300 ∧ p ≠ 310 ∧ p ≠ 314 ∧ p ≠ 318 ∧ p ≠ 340 ∧ p ≠ 350 ∧ p ≠ 354 ∧ p ≠ 358 ∧ p ≠ 380 ∧ p ≠ 390 ∧ p ≠ 394 ∧ p ≠ 398) ∨ 80 ≤ k
      · rw [rF_none h hq (s03_none hq), s04_none (by omega)]; exact s03_none hq
      · exact s04_R p (by simp; omega) k (by omega)
    · rw [s04_none (by omega)]; exact (rF_hi _ (by omega) k).symm
  show (s03.1, s03.2.1, s03.2.2.1, s03.2.2.2.1, s04.2.2.2.2) = (kF s03.1, nF s03.2.1, s03.2.2.1, s03.2.2.2.1, rF s03.2.2.2.2)
  rw [← e1, ← e2, ← e3]
