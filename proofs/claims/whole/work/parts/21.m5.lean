def frD (n : Nat) (I I' : Nat → Nat → Int32) : Prop := (∀ q, q ≠ 107 → q ≠ 106 → q ≠ 127 → q ≠ 100 → I' q = I q) ∧ (∀ k, k ≠ 2 → I' 100 k = I 100 k) ∧ (∀ k, n ≤ k → I' 107 k = I 107 k ∧ I' 106 k = I 106 k)
theorem mG_ho {g : Gv} {I I1 : Nat → Nat → Int32} (hG : mG g I) (h1 : ∀ q, q ≠ 107 → I1 q = I q) {f : Nat → Nat} (h2 : ∀ c, c < gn g → I1 107 c = nI (f c)) : mG (gn g, gk g, gv g, gc g, f, gr g, ga g, gd g) I1 := by
  obtain ⟨a1, a2, a3, a4⟩ := hG
  refine ⟨?_, ?_, ?_, fun p hp => ?_⟩
  · rw [h1 100 (by decide)]; exact a1
  · rw [h1 100 (by decide)]; exact a2
  · rw [h1 100 (by decide)]; exact a3
  · obtain ⟨b1, b2, b3, b4, b5⟩ := a4 p hp
    refine ⟨?_, ?_, ?_, h2 p hp, fun j hj => ?_⟩
    · rw [h1 104 (by decide)]; exact b1
    · rw [h1 105 (by decide)]; exact b2
    · rw [h1 106 (by decide)]; exact b3
    · rw [h1 108 (by decide)]; exact b5 j hj
theorem gwf_ho {g : Gv} (hg : gwf g) {f : Nat → Nat} (h2 : ∀ c, c < gn g → f c < 1024) : gwf (gn g, gk g, gv g, gc g, f, gr g, ga g, gd g) := by
  obtain ⟨a1, a2, a3⟩ := hg
  exact ⟨a1, fun p hp => ⟨(a2 p hp).1, (a2 p hp).2.1, (a2 p hp).2.2.1, h2 p hp, (a2 p hp).2.2.2.2⟩, a3⟩
theorem hoS_s (g : Gv) (p : Nat) : hoS g (p + 1) = if atB (ga g) p = true then hoS g p else upN (hoS g p) (gc g p) (hoS g p (gc g p) ||| pn (gk g p) (gv g p) (gd g) (hoS g p (gc g p)) (gr g (4 * p + gd g % 4))) := rfl
theorem atB_t {x : Int32} {p : Nat} (h : x >>> (nI p &&& 31) &&& nI 1 = nI 1) : atB x p = true := decide_eq_true h
theorem atB_f {x : Int32} {p : Nat} (h : ¬ x >>> (nI p &&& 31) &&& nI 1 = nI 1) : ¬ atB x p = true := fun z => h (of_decide_eq_true z)
set_option maxHeartbeats 2000000 in
theorem c_M_goDay (E : zE) (K N : Nat → Nat) (Rf : Nat → Nat → Option Nat) (I : Nat → Nat → Int32) (L : Nat → Nat → Int64) {g : Gv} (hg : gwf g) (hG : mG g I) (hd : gd g < 100000) {w : Wk} {b : Nat} (hB : mHB w b I) : zCt E mX12_goDay 3 0 0 (sg K N Rf I L) [.ref 100] (fun r σ' => ∃ I', σ' = sg K N Rf I' L ∧ r = none ∧ mG (dayS (rdS w) g) I' ∧ frD (gn g) I I') := by
  have h6 : gn g ≤ 6 := hg.1
  have hr99 : rdS w ≤ 99 := rdN_le (mHB_H hB) _ (Nat.le_refl _)
  refine z_intro (by decide) (Nat.le_of_ble_eq_true rfl) (fun X hX => ?_)
  -- the cards go round
  have hl3 : ∀ (I3 : Nat → Nat → Int32), (I3 100 0 = nI (gn g)) → (∀ c, c < gn g → I3 127 c = nI (gc g c)) → (∀ I4 : Nat → Nat → Int32, (∀ q, q ≠ 106 → I4 q = I3 q) → (∀ c, c < gn g → I4 106 c = nI (gc g ((c + 1) % gn g))) → (∀ c, gn g ≤ c → I4 106 c = I3 106 c) → (∃ I', sg K N Rf I4 L = sg K N Rf I' L ∧ (none : Option Value) = none ∧ mG (dayS (rdS w) g) I' ∧ frD (gn g) I I')) →
      ∀ m p (I4 : Nat → Nat → Int32), p + m = gn g → (∀ q, q ≠ 106 → I4 q = I3 q) → (∀ c, c < p → I4 106 c = nI (gc g ((c + 1) % gn g))) → (∀ c, p ≤ c → I4 106 c = I3 106 c) → zS X (sg K N Rf I4 L) 0 0 118 [(0, .ref 100), (1, .int (nI p))] [] := by
    intro I3 hw hhad hend m
    induction m with
    | zero =>
      intro p I4 hp q1 q2 q3
      obtain rfl : p = gn g := by omega
      have e0 : I4 100 0 = nI (gn g) := by rw [q1 100 (by decide)]; exact hw
      refine bk hX lkX12_ok (pc' := 123) [.iload_n 1, .aload_n 0, .getfield 7] (by decide +kernel) (And.intro trivial ?_)
      rw [e0]
      refine ic_ge hX (28) 151 (by decide +kernel) (by decide) (fun c_123 => ?_) (fun c => absurd (nI_le (Nat.le_refl _) (by omega)) c)
      exact z_vret hX (by decide +kernel) rfl (by decide) (by decide) (hend I4 q1 q2 q3)
    | succ m ih =>
      intro p I4 hp q1 q2 q3
      have e0 : I4 100 0 = nI (gn g) := by rw [q1 100 (by decide)]; exact hw
      have em : nI (p + 1) - nI (p + 1) / nI (gn g) * nI (gn g) = nI ((p + 1) % gn g) := i_mod (by omega) (by omega) (by omega)
      have hml : (p + 1) % gn g < gn g := Nat.mod_lt _ (by omega)
      have eh : I4 127 ((p + 1) % gn g) = nI (gc g ((p + 1) % gn g)) := by rw [q1 127 (by decide)]; exact hhad _ hml
      refine bk hX lkX12_ok (pc' := 123) [.iload_n 1, .aload_n 0, .getfield 7] (by decide +kernel) (And.intro trivial ?_)
      rw [e0]
      refine ic_ge hX (28) 151 (by decide +kernel) (by decide) (fun c => absurd c (nI_ge (by omega) (by omega))) (fun c_123 => ?_)
      refine bk hX lkX12_ok (pc' := 148) [.aload_n 0, .getfield 26, .iload_n 1, .aload_n 0, .getfield 90, .iload_n 1, .iconst 1, .iadd, .aload_n 0, .getfield 7, .irem, .iaload, .iastore, .iinc 1 1] (by decide +kernel) (And.intro (by rw [e0]; exact nI_ne0 (by omega) (by omega)) (And.intro (by simp only [e0, nI_add, em]; exact vin 6 (by omega)) (And.intro (by exact vin 6 (by omega)) (And.intro trivial ?_))))
      refine gt_ hX (-30) 118 (by decide +kernel) (by decide) ?_
      refine z_lvk (lv' := [(0, _), (1, _)]) [1, 0] rfl ?_
      simp only [e0, nI_add, em, cl (show (p + 1) % gn g < 2 ^ 31 by omega), cl (show p < 2 ^ 31 by omega), eh]
      refine ih (p + 1) _ (by omega) (fun q hq => ?_) (fun c hc => ?_) (fun c hc => ?_)
      · rw [up2_ne _ _ _ hq]; exact q1 q hq
      · rw [up2_at]
        by_cases hcp : c = p
        · rw [if_pos hcp, hcp]
        · rw [if_neg hcp]; exact q2 c (by omega)
      · rw [up2_at, if_neg (by omega)]; exact q3 c (by omega)
  -- who had which card
  have hl2 : ∀ (I2 : Nat → Nat → Int32), (I2 100 0 = nI (gn g)) → (∀ c, c < gn g → I2 106 c = nI (gc g c)) → (∀ I3 : Nat → Nat → Int32, (∀ q, q ≠ 127 → I3 q = I2 q) → ∀ I4 : Nat → Nat → Int32, (∀ q, q ≠ 106 → I4 q = I3 q) → (∀ c, c < gn g → I4 106 c = nI (gc g ((c + 1) % gn g))) → (∀ c, gn g ≤ c → I4 106 c = I3 106 c) → (∃ I', sg K N Rf I4 L = sg K N Rf I' L ∧ (none : Option Value) = none ∧ mG (dayS (rdS w) g) I' ∧ frD (gn g) I I')) →
      ∀ m p (I3 : Nat → Nat → Int32), p + m = gn g → (∀ q, q ≠ 127 → I3 q = I2 q) → (∀ c, c < p → I3 127 c = nI (gc g c)) → zS X (sg K N Rf I3 L) 0 0 90 [(0, .ref 100), (1, .int (nI p))] [] := by
    intro I2 hw hcd hend m
    induction m with
    | zero =>
      intro p I3 hp q1 q2
      obtain rfl : p = gn g := by omega
      have e0 : I3 100 0 = nI (gn g) := by rw [q1 100 (by decide)]; exact hw
      refine bk hX lkX12_ok (pc' := 95) [.iload_n 1, .aload_n 0, .getfield 7] (by decide +kernel) (And.intro trivial ?_)
      rw [e0]
      refine ic_ge hX (21) 116 (by decide +kernel) (by decide) (fun c_95 => ?_) (fun c => absurd (nI_le (Nat.le_refl _) (by omega)) c)
      refine bk hX lkX12_ok (pc' := 118) [.iconst 0, .istore_n 1] (by decide +kernel) (And.intro trivial ?_)
      refine z_lvk (lv' := [(0, _), (1, _)]) [1, 0] rfl ?_
      exact hl3 I3 e0 q2 (hend I3 q1) (gn g) 0 I3 (by omega) (fun q hq => rfl) (fun c hc => absurd hc (Nat.not_lt_zero _)) (fun c hc => rfl)
    | succ m ih =>
      intro p I3 hp q1 q2
      have e0 : I3 100 0 = nI (gn g) := by rw [q1 100 (by decide)]; exact hw
      have ec : I3 106 p = nI (gc g p) := by rw [q1 106 (by decide)]; exact hcd p (by omega)
      refine bk hX lkX12_ok (pc' := 95) [.iload_n 1, .aload_n 0, .getfield 7] (by decide +kernel) (And.intro trivial ?_)
      rw [e0]
      refine ic_ge hX (21) 116 (by decide +kernel) (by decide) (fun c => absurd c (nI_ge (by omega) (by omega))) (fun c_95 => ?_)
      refine bk hX lkX12_ok (pc' := 113) [.aload_n 0, .getfield 90, .iload_n 1, .aload_n 0, .getfield 26, .iload_n 1, .iaload, .iastore, .iinc 1 1] (by decide +kernel) (And.intro (by exact vin 6 (by omega)) (And.intro (by exact vin 6 (by omega)) (And.intro trivial ?_)))
      refine gt_ hX (-23) 90 (by decide +kernel) (by decide) ?_
      refine z_lvk (lv' := [(0, _), (1, _)]) [1, 0] rfl ?_
      simp only [nI_add, cl (show p < 2 ^ 31 by omega), ec]
      refine ih (p + 1) _ (by omega) (fun q hq => ?_) (fun c hc => ?_)
      · rw [up2_ne _ _ _ hq]; exact q1 q hq
      · rw [up2_at]
        by_cases hcp : c = p
        · rw [if_pos hcp, hcp]
        · rw [if_neg hcp]; exact q2 c (by omega)
  -- punches
  have hl1 : ∀ m p (I1 : Nat → Nat → Int32), p + m = gn g → (∀ q, q ≠ 107 → I1 q = I q) → (∀ c, c < gn g → I1 107 c = nI (hoS g p c)) → (∀ c, gn g ≤ c → I1 107 c = I 107 c) → zS X (sg K N Rf I1 L) 0 0 2 [(0, .ref 100), (1, .int (nI p))] [] := by
    intro m
    induction m with
    | zero =>
      intro p I1 hp q1 q2 q3
      obtain rfl : p = gn g := by omega
      have e0 : I1 100 0 = nI (gn g) := by rw [q1 100 (by decide)]; exact hG.1
      have e2 : I1 100 2 = nI (gd g) := by rw [q1 100 (by decide)]; exact hG.2.2.1
      have hB1 : mHB w b (up2 I1 100 2 (nI (gd g + 1))) := mHB_eq hB (by rw [up2_at, if_neg (by decide), q1 100 (by decide)]) (by rw [up2_ne _ _ _ (by decide), q1 _ (by decide)]) (by rw [up2_ne _ _ _ (by decide), q1 _ (by decide)]) (by rw [up2_ne _ _ _ (by decide), q1 _ (by decide)]) (by rw [up2_ne _ _ _ (by decide), q1 _ (by decide)]) (by rw [up2_ne _ _ _ (by decide), q1 _ (by decide)]) (by rw [up2_ne _ _ _ (by decide), q1 _ (by decide)])
      have hG1 : ∀ cf : Nat → Nat, (∀ I4 : Nat → Nat → Int32, (∀ q, q ≠ 106 → q ≠ 127 → I4 q = up2 I1 100 2 (nI (gd g + 1)) q) → (∀ c, c < gn g → I4 106 c = nI (cf c)) → (∀ c, gn g ≤ c → I4 106 c = I1 106 c) → mG (gn g, gk g, gv g, cf, hoS g (gn g), gr g, ga g, gd g + 1) I4 ∧ frD (gn g) I I4) := by
        intro cf I4 z1 z2 z3
        have z0 : ∀ q, q ≠ 100 → q ≠ 106 → q ≠ 127 → I4 q = I1 q := fun q h0 h1 h2 => by rw [z1 q h1 h2, up2_ne _ _ _ h0]
        have z100 : ∀ k, I4 100 k = if k = 2 then nI (gd g + 1) else I1 100 k := fun k => by rw [z1 100 (by decide) (by decide), up2_at]
        refine ⟨⟨?_, ?_, ?_, fun p hp => ?_⟩, fun q h1 h2 h3 h4 => ?_, fun k hk => ?_, fun k hk => ⟨?_, ?_⟩⟩
        · rw [z100, if_neg (by decide)]; exact e0
        · rw [z100, if_neg (by decide), q1 100 (by decide)]; exact hG.2.1
        · rw [z100, if_pos rfl]
        · obtain ⟨b1, b2, b3, b4, b5⟩ := hG.2.2.2 p hp
          refine ⟨?_, ?_, z2 p hp, ?_, fun j hj => ?_⟩
          · rw [z0 _ (by decide) (by decide) (by decide), q1 _ (by decide)]; exact b1
          · rw [z0 _ (by decide) (by decide) (by decide), q1 _ (by decide)]; exact b2
          · rw [z0 _ (by decide) (by decide) (by decide)]; exact q2 p hp
          · rw [z0 _ (by decide) (by decide) (by decide), q1 _ (by decide)]; exact b5 j hj
        · rw [z0 q h4 h2 h3, q1 q h1]
        · rw [z100, if_neg hk, q1 100 (by decide)]
        · rw [z0 _ (by decide) (by decide) (by decide)]; exact q3 k hk
        · rw [z3 k hk, q1 _ (by decide)]
      have hcd : ∀ c, c < gn g → up2 I1 100 2 (nI (gd g + 1)) 106 c = nI (gc g c) := fun c hc => by rw [up2_ne _ _ _ (by decide), q1 _ (by decide)]; exact (hG.2.2.2 c hc).2.2.1
      have hstay : (rdS w = 0 ∨ (gd g + 1) % rdS w ≠ 0) → (∃ I', sg K N Rf (up2 I1 100 2 (nI (gd g + 1))) L = sg K N Rf I' L ∧ (none : Option Value) = none ∧ mG (dayS (rdS w) g) I' ∧ frD (gn g) I I') := by
        intro hc
        obtain ⟨x1, x2⟩ := hG1 (gc g) _ (fun _ _ _ => rfl) hcd (fun c _ => by rw [up2_ne _ _ _ (by decide)])
        exact ⟨_, rfl, rfl, by unfold dayS; rw [if_pos hc]; exact x1, x2⟩
      refine bk hX lkX12_ok (pc' := 7) [.iload_n 1, .aload_n 0, .getfield 7] (by decide +kernel) (And.intro trivial ?_)
      rw [e0]
      refine ic_ge hX (51) 58 (by decide +kernel) (by decide) (fun c_7 => ?_) (fun c => absurd (nI_le (Nat.le_refl _) (by omega)) c)
      refine bk hX lkX12_ok (pc' := 68) [.aload_n 0, .dup, .getfield 16, .iconst 1, .iadd, .putfield 16] (by decide +kernel) (And.intro trivial ?_)
      simp only [e2, nI_add]
      refine bk hX lkX12_ok (pc' := 69) [.aload_n 0] (by decide +kernel) (And.intro trivial ?_)
      refine z_callV hX kw_X12_328 (c_M_round E K N Rf _ L hB1) rfl rfl rfl rfl rfl (by decide +kernel) (by decide) (by decide) (by decide) (by decide) (Nat.le_of_ble_eq_true rfl) ?_
      rintro _ _ ⟨rfl, rfl⟩
      refine if_eq hX (15) 87 (by decide +kernel) (by decide) (fun c72 => ?_) (fun c72 => ?_)
      · exact z_vret hX (by decide +kernel) rfl (by decide) (by decide) (hstay (by first | exact Or.inl (nI_inj (by omega) (by decide) c72) | exact Or.inr (fun z => c84 (by rw [z]; rfl))))
      · refine bk hX lkX12_ok (pc' := 80) [.aload_n 0, .getfield 16, .aload_n 0] (by decide +kernel) (And.intro trivial ?_)
        refine z_callV hX kw_X12_328 (c_M_round E K N Rf _ L hB1) rfl rfl rfl rfl rfl (by decide +kernel) (by decide) (by decide) (by decide) (by decide) (Nat.le_of_ble_eq_true rfl) ?_
        rintro _ _ ⟨rfl, rfl⟩
        refine bk hX lkX12_ok (pc' := 84) [.irem] (by decide +kernel) (And.intro (by exact c72) (And.intro trivial ?_))
        simp only [up2_self]
        rw [i_mod (by omega) (Nat.pos_of_ne_zero (fun z => c72 (by rw [z]; rfl))) (by omega)]
        refine if_eq hX (4) 88 (by decide +kernel) (by decide) (fun c84 => ?_) (fun c84 => ?_)
        · refine bk hX lkX12_ok (pc' := 90) [.iconst 0, .istore_n 1] (by decide +kernel) (And.intro trivial ?_)
          refine z_lvk (lv' := [(0, _), (1, _)]) [1, 0] rfl ?_
          have hcc : ¬ (rdS w = 0 ∨ (gd g + 1) % rdS w ≠ 0) := fun z => z.elim (fun z => c72 (by rw [z]; rfl)) (fun z => z (nI_inj (Nat.lt_of_le_of_lt (Nat.mod_le _ _) (by omega)) (by decide) c84))
          refine hl2 _ ?_ hcd (fun I3 y1 I4 y2 y3 y4 => ?_) (gn g) 0 _ (by omega) (fun q hq => rfl) (fun c hc => absurd hc (Nat.not_lt_zero _))
          · rw [up2_at, if_neg (by decide)]; exact e0
          · obtain ⟨x1, x2⟩ := hG1 (rotC (gn g) (gc g)) I4 (fun q h1 h2 => by rw [y2 q h1, y1 q h2]) (fun c hc => by rw [y3 c hc]; unfold rotC; rw [if_pos hc]) (fun c hc => by rw [y4 c hc, y1 _ (by decide), up2_ne _ _ _ (by decide)])
            exact ⟨_, rfl, rfl, by unfold dayS; rw [if_neg hcc]; exact x1, x2⟩
        · exact z_vret hX (by decide +kernel) rfl (by decide) (by decide) (hstay (by first | exact Or.inl (nI_inj (by omega) (by decide) c72) | exact Or.inr (fun z => c84 (by rw [z]; rfl))))
    | succ m ih =>
      intro p I1 hp q1 q2 q3
      have hpn : p < gn g := by omega
      have e0 : I1 100 0 = nI (gn g) := by rw [q1 100 (by decide)]; exact hG.1
      have e1 : I1 100 1 = ga g := by rw [q1 100 (by decide)]; exact hG.2.1
      have ec : I1 106 p = nI (gc g p) := by rw [q1 _ (by decide)]; exact (hG.2.2.2 p hpn).2.2.1
      have hcn : gc g p < gn g := (hg.2.1 p hpn).2.2.1
      have eh : I1 107 (gc g p) = nI (hoS g p (gc g p)) := q2 _ hcn
      have hlt := hoS_lt hg p (by omega)
      have cp : (nI p).toNatClampNeg = p := cl (by omega)
      have cc : (nI (gc g p)).toNatClampNeg = gc g p := cl (by omega)
      refine bk hX lkX12_ok (pc' := 7) [.iload_n 1, .aload_n 0, .getfield 7] (by decide +kernel) (And.intro trivial ?_)
      rw [e0]
      refine ic_ge hX (51) 58 (by decide +kernel) (by decide) (fun c => absurd c (nI_ge (by omega) (by omega))) (fun c_7 => ?_)
      refine bk hX lkX12_ok (pc' := 16) [.aload_n 0, .aload_n 0, .getfield 13, .iload_n 1] (by decide +kernel) (And.intro trivial ?_)
      refine z_callV hX kw_X12_224 (c_M_has E _ _ _ _) rfl rfl rfl rfl rfl (by decide +kernel) (by decide) (by decide) (by decide) (by decide) (Nat.le_of_ble_eq_true rfl) ?_
      rintro _ _ ⟨rfl, hh⟩
      rw [e1] at hh
      rcases hh with ⟨hb, rfl⟩ | ⟨hb, rfl⟩
      · refine if_ne hX (33) 52 (by decide +kernel) (by decide) (fun c_19 => ?_) (fun c => absurd c (by decide))
        refine bk hX lkX12_ok (pc' := 55) [.iinc 1 1] (by decide +kernel) (And.intro trivial ?_)
        refine gt_ hX (-53) 2 (by decide +kernel) (by decide) ?_
        refine z_lvk (lv' := [(0, _), (1, _)]) [1, 0] rfl ?_
        first
          | (simp only [nI_add]
             refine ih (p + 1) I1 (by omega) q1 (fun c hc => ?_) q3
             rw [hoS_s, if_pos (atB_t hb)]
             exact q2 c hc)
          | (simp only [nI_add, cc, i_or]
             refine ih (p + 1) _ (by omega) (fun q hq => ?_) (fun c hc => ?_) (fun c hc => ?_)
             · rw [up2_ne _ _ _ hq]; exact q1 q hq
             · rw [hoS_s, if_neg (atB_f hb), up2_at]
               unfold upN
               by_cases hcc : c = gc g p
               · rw [if_pos hcc, if_pos hcc]
               · rw [if_neg hcc, if_neg hcc]; exact q2 c hc
             · rw [up2_at, if_neg (by omega)]; exact q3 c hc)
      · refine if_ne hX (33) 52 (by decide +kernel) (by decide) (fun c => absurd (by decide) c) (fun c_19 => ?_)
        refine bk hX lkX12_ok (pc' := 47) [.aload_n 0, .getfield 29, .aload_n 0, .getfield 26, .iload_n 1, .iaload, .dup2, .iaload, .aload_n 0, .iload_n 1, .aload_n 0, .getfield 29, .aload_n 0, .getfield 26, .iload_n 1, .iaload, .iaload] (by decide +kernel) (And.intro (by exact vin 6 (by omega)) (And.intro (by simp only [cp, ec]; exact vin 6 (by omega)) (And.intro (by exact vin 6 (by omega)) (And.intro (by simp only [cp, ec]; exact vin 6 (by omega)) (And.intro trivial ?_)))))
        simp only [cp, ec, cc, eh]
        refine z_callV hX kw_X12_325 (c_M_punches E K N Rf I1 L (gwf_ho hg hlt) (mG_ho hG q1 q2) (show gd g < 1000000 by omega) p hpn (hlt _ hcn)) rfl rfl rfl rfl rfl (by decide +kernel) (by decide) (by decide) (by decide) (by decide) (Nat.le_of_ble_eq_true rfl) ?_
        rintro _ _ ⟨rfl, rfl⟩
        refine bk hX lkX12_ok (pc' := 55) [.ior, .iastore, .iinc 1 1] (by decide +kernel) (And.intro (by exact vin 6 (by omega)) (And.intro trivial ?_))
        refine gt_ hX (-53) 2 (by decide +kernel) (by decide) ?_
        refine z_lvk (lv' := [(0, _), (1, _)]) [1, 0] rfl ?_
        first
          | (simp only [nI_add]
             refine ih (p + 1) I1 (by omega) q1 (fun c hc => ?_) q3
             rw [hoS_s, if_pos (atB_t hb)]
             exact q2 c hc)
          | (simp only [nI_add, cc, i_or]
             refine ih (p + 1) _ (by omega) (fun q hq => ?_) (fun c hc => ?_) (fun c hc => ?_)
             · rw [up2_ne _ _ _ hq]; exact q1 q hq
             · rw [hoS_s, if_neg (atB_f hb), up2_at]
               unfold upN
               by_cases hcc : c = gc g p
               · rw [if_pos hcc, if_pos hcc]
               · rw [if_neg hcc, if_neg hcc]; exact q2 c hc
             · rw [up2_at, if_neg (by omega)]; exact q3 c hc)
  refine bk hX lkX12_ok (pc' := 2) [.iconst 0, .istore_n 1] (by decide +kernel) (And.intro trivial ?_)
  refine z_lvk (lv' := [(0, _), (1, _)]) [1, 0] rfl ?_
  exact hl1 (gn g) 0 I (by omega) (fun _ _ => rfl) (fun c hc => (hG.2.2.2 c hc).2.2.2.1) (fun _ _ => rfl)
