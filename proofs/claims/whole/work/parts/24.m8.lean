/-- what the clauses add: the first j of them -/
def clN (g : Gv) (w : Wk) (p c : Nat) : Nat → Int32
  | 0 => 0
  | j + 1 => clN g w p c j + (if (wkd w j).1 < 2 ∧ evE g p c (wkd w j).2.2 = true then (if (wkd w j).1 = 0 then nI (wkd w j).2.1 else -nI (wkd w j).2.1) else 0)
theorem clN_s (g : Gv) (w : Wk) (p c j : Nat) : clN g w p c (j + 1) = clN g w p c j + (if (wkd w j).1 < 2 ∧ evE g p c (wkd w j).2.2 = true then (if (wkd w j).1 = 0 then nI (wkd w j).2.1 else -nI (wkd w j).2.1) else 0) := rfl
def moS (g : Gv) (w : Wk) (p c : Nat) : Int32 := (nI 10 - nI (pcN (gh g c) 10)) + clN g w p c w.length
def tmS (g : Gv) (w : Wk) (p c : Nat) : Int32 := if gk g p = 2 ∨ gk g p = 5 then (if c = p then moS g w p c else moS g w p c + nI (gv g p)) else if gk g p = 3 ∨ gk g p = 6 then moS g w p c / nI 2 else moS g w p c
/-- temper of the first j workers, together -/
def atN (g : Gv) (w : Wk) : Nat → Int32
  | 0 => 0
  | j + 1 => atN g w j + tmS g w j (gc g j)
theorem mHB_pile {w : Wk} {b : Nat} {I I1 : Nat → Nat → Int32} (h : mHB w b I) (h1 : ∀ q, q ≠ 126 → I1 q = I q) : mHB w b I1 := by
  refine mHB_eq h (by rw [h1 100 (by decide)]) ?_ ?_ ?_ ?_ ?_ ?_ <;> exact h1 _ (by decide)
theorem b2i_or (b : Bool) : (b = true ∧ b2i b = 1) ∨ (¬ b = true ∧ b2i b = 0) := by cases b with
  | true => exact Or.inl ⟨rfl, rfl⟩
  | false => exact Or.inr ⟨by decide, rfl⟩
set_option maxHeartbeats 2000000 in
theorem c_M_mood (E : zE) (K N : Nat → Nat) (Rf : Nat → Nat → Option Nat) (I : Nat → Nat → Int32) (L : Nat → Nat → Int64) {g : Gv} (hg : gwf g) (hG : mG g I) (hd : gd g < 1000000) {w : Wk} {b : Nat} (hB : mHB w b I) {p c : Nat} (hp : p < gn g) (hc : c < gn g) : zCt E mX12_mood 4 0 0 (sg K N Rf I L) [.ref 100, .int (nI p), .int (nI c)] (fun r σ' => ∃ I', σ' = sg K N Rf I' L ∧ (∀ q, q ≠ 126 → I' q = I q) ∧ r = some (.int (moS g w p c))) := by
  have h6 := hg.1
  obtain ⟨hb60, hcl⟩ := mHB_B hB
  have cc : (nI c).toNatClampNeg = c := cl (by omega)
  have hhc := (hg.2.1 c hc).2.2.2.1
  refine z_intro (by decide) (Nat.le_of_ble_eq_true rfl) (fun X hX => ?_)
  have hl : ∀ m j (I1 : Nat → Nat → Int32), j + m = w.length → (∀ q, q ≠ 126 → I1 q = I q) → zS X (sg K N Rf I1 L) 0 0 20 [(0, .ref 100), (1, .int (nI p)), (2, .int (nI c)), (3, .int ((nI 10 - nI (pcN (gh g c) 10)) + clN g w p c j)), (4, .int (nI (b + j)))] [] := by
    intro m
    induction m with
    | zero =>
      intro j I1 hj q1
      obtain rfl : j = w.length := by omega
      refine bk hX lkX12_ok (pc' := 23) [.iload 4, .aload_n 0] (by decide +kernel) (And.intro trivial ?_)
      refine z_callV hX kw_X12_296 (c_M_behind E K N Rf I1 L (mHB_pile hB q1)) rfl rfl rfl rfl rfl (by decide +kernel) (by decide) (by decide) (by decide) (by decide) (Nat.le_of_ble_eq_true rfl) ?_
      rintro _ _ ⟨rfl, rfl⟩
      refine ic_ge hX (65) 91 (by decide +kernel) (by decide) (fun c_26 => ?_) (fun c => absurd (nI_le (by omega) (by omega)) c)
      refine bk hX lkX12_ok (pc' := 92) [.iload_n 3] (by decide +kernel) (And.intro trivial ?_)
      exact z_iret hX (by decide +kernel) rfl (rfl) (by decide) (by decide) (⟨I1, rfl, q1, rfl⟩)
    | succ m ih =>
      intro j I1 hj q1
      obtain ⟨hw2, hn99, hw, hn, hex⟩ := hcl j (by omega)
      have cj : (nI (b + j)).toNatClampNeg = b + j := cl (by omega)
      have ew : I1 116 (b + j) = nI (wkd w j).1 := by rw [q1 _ (by decide)]; exact hw
      have en : I1 117 (b + j) = nI (wkd w j).2.1 := by rw [q1 _ (by decide)]; exact hn
      refine bk hX lkX12_ok (pc' := 23) [.iload 4, .aload_n 0] (by decide +kernel) (And.intro trivial ?_)
      refine z_callV hX kw_X12_296 (c_M_behind E K N Rf I1 L (mHB_pile hB q1)) rfl rfl rfl rfl rfl (by decide +kernel) (by decide) (by decide) (by decide) (by decide) (Nat.le_of_ble_eq_true rfl) ?_
      rintro _ _ ⟨rfl, rfl⟩
      refine ic_ge hX (65) 91 (by decide +kernel) (by decide) (fun c => absurd c (nI_ge (by omega) (by omega))) (fun c_26 => ?_)
      refine bk hX lkX12_ok (pc' := 37) [.aload_n 0, .getfield 56, .iload 4, .iaload, .iconst 1] (by decide +kernel) (And.intro (by exact vin 60 (by omega)) (And.intro trivial ?_))
      rw [cj, show I1 (101 + 15) (b + j) = _ from ew]
      refine ic_gt hX (48) 85 (by decide +kernel) (by decide) (fun c37 => ?_) (fun c37 => ?_)
      · refine bk hX lkX12_ok (pc' := 88) [.iinc 4 1] (by decide +kernel) (And.intro trivial ?_)
        refine gt_ hX (-68) 20 (by decide +kernel) (by decide) ?_
        refine z_lvk (lv' := [(0, _), (1, _), (2, _), (3, _), (4, _)]) [1, 2, 3, 4, 0] rfl ?_
        rw [nI_add]
        first
          | (have hi := ih (j + 1) I1 (by omega) q1
             rw [clN_s, if_neg (fun z => absurd (nI_lt (a := 1) (b := (wkd w j).1) (by omega) (by omega)) (fun y => absurd z.1 (by have := (nI_ltI (a := 1) (b := (wkd w j).1) (by omega) (by omega)).mp c37; omega))), Int32.add_zero] at hi
             exact hi)
          | (have hi := ih (j + 1) I1 (by omega) q1
             have h2w : ¬ (wkd w j).1 < 2 := by have := (nI_ltI (a := 1) (b := (wkd w j).1) (by omega) (by omega)).mp c37; omega
             rw [clN_s, if_neg (fun z => h2w z.1), Int32.add_zero] at hi
             exact hi)
          | (have hi := ih (j + 1) I2 (by omega) q4
             rw [clN_s, if_neg (fun z => by rw [z.2] at ce; exact absurd ce (by decide)), Int32.add_zero] at hi
             exact hi)
          | (have hi := ih (j + 1) I2 (by omega) q4
             rw [clN_s, if_pos ⟨hwl, b2i_t ce⟩, if_pos (nI_inj (by omega) (by decide) c62), ← Int32.add_assoc] at hi
             exact hi)
          | (have hi := ih (j + 1) I2 (by omega) q4
             rw [clN_s, if_pos ⟨hwl, b2i_t ce⟩, if_neg (fun z => c62 (by rw [z]; rfl)), ← Int32.add_assoc] at hi
             exact hi)
      · have hwl : (wkd w j).1 < 2 := by
          rcases Nat.lt_or_ge (wkd w j).1 2 with z | z
          · exact z
          · exact absurd (nI_lt (a := 1) (b := (wkd w j).1) (by omega) (by omega)) c37
        obtain ⟨hok, d, h1, h2, h3, h4⟩ := hex hwl
        obtain ⟨hok1, hok2, hok3, -⟩ := hok hwl
        refine bk hX lkX12_ok (pc' := 45) [.aload_n 0, .iload 4, .iload_n 1, .iload_n 2] (by decide +kernel) (And.intro trivial ?_)
        refine z_callV hX kw_X12_306 (c_M_holds E K N Rf I1 L hg (mG_pile hG q1) hd hp hc (by omega) (by rw [q1 _ (by decide)]; exact h1) (by rw [q1 _ (by decide)]; exact h2) h3 (fun k hk => by rw [q1 _ (by decide)]; exact h4 k hk) hok1 hok2 hok3) rfl rfl rfl rfl rfl (by decide +kernel) (by decide) (by decide) (by decide) (by decide) (Nat.le_of_ble_eq_true rfl) ?_
        rintro _ _ ⟨I2, rfl, q3, rfl⟩
        have q4 : ∀ q, q ≠ 126 → I2 q = I q := fun q hq => (q3 q hq).trans (q1 q hq)
        have ew2 : I2 116 (b + j) = nI (wkd w j).1 := by rw [q4 _ (by decide)]; exact hw
        have en2 : I2 117 (b + j) = nI (wkd w j).2.1 := by rw [q4 _ (by decide)]; exact hn
        refine if_ne hX (6) 54 (by decide +kernel) (by decide) (fun ce => ?_) (fun ce => ?_)
        · refine bk hX lkX12_ok (pc' := 62) [.iload_n 3, .aload_n 0, .getfield 56, .iload 4, .iaload] (by decide +kernel) (And.intro (by exact vin 60 (by omega)) (And.intro trivial ?_))
          rw [cj, show I2 (101 + 15) (b + j) = _ from ew2]
          refine if_ne hX (13) 75 (by decide +kernel) (by decide) (fun c62 => ?_) (fun c62 => ?_)
          · refine bk hX lkX12_ok (pc' := 82) [.aload_n 0, .getfield 59, .iload 4, .iaload] (by decide +kernel) (And.intro (by exact vin 60 (by omega)) (And.intro trivial ?_))
            rw [cj, show I2 (101 + 16) (b + j) = _ from en2]
            refine bk hX lkX12_ok (pc' := 88) [.ineg, .iadd, .istore_n 3, .iinc 4 1] (by decide +kernel) (And.intro trivial ?_)
            refine gt_ hX (-68) 20 (by decide +kernel) (by decide) ?_
            refine z_lvk (lv' := [(0, _), (1, _), (2, _), (3, _), (4, _)]) [2, 3, 4, 1, 0] rfl ?_
            rw [nI_add]
            first
              | (have hi := ih (j + 1) I1 (by omega) q1
                 rw [clN_s, if_neg (fun z => absurd (nI_lt (a := 1) (b := (wkd w j).1) (by omega) (by omega)) (fun y => absurd z.1 (by have := (nI_ltI (a := 1) (b := (wkd w j).1) (by omega) (by omega)).mp c37; omega))), Int32.add_zero] at hi
                 exact hi)
              | (have hi := ih (j + 1) I1 (by omega) q1
                 have h2w : ¬ (wkd w j).1 < 2 := by have := (nI_ltI (a := 1) (b := (wkd w j).1) (by omega) (by omega)).mp c37; omega
                 rw [clN_s, if_neg (fun z => h2w z.1), Int32.add_zero] at hi
                 exact hi)
              | (have hi := ih (j + 1) I2 (by omega) q4
                 rw [clN_s, if_neg (fun z => by rw [z.2] at ce; exact absurd ce (by decide)), Int32.add_zero] at hi
                 exact hi)
              | (have hi := ih (j + 1) I2 (by omega) q4
                 rw [clN_s, if_pos ⟨hwl, b2i_t ce⟩, if_pos (nI_inj (by omega) (by decide) c62), ← Int32.add_assoc] at hi
                 exact hi)
              | (have hi := ih (j + 1) I2 (by omega) q4
                 rw [clN_s, if_pos ⟨hwl, b2i_t ce⟩, if_neg (fun z => c62 (by rw [z]; rfl)), ← Int32.add_assoc] at hi
                 exact hi)
          · refine bk hX lkX12_ok (pc' := 72) [.aload_n 0, .getfield 59, .iload 4, .iaload] (by decide +kernel) (And.intro (by exact vin 60 (by omega)) (And.intro trivial ?_))
            rw [cj, show I2 (101 + 16) (b + j) = _ from en2]
            refine gt_ hX (11) 83 (by decide +kernel) (by decide) ?_
            refine bk hX lkX12_ok (pc' := 88) [.iadd, .istore_n 3, .iinc 4 1] (by decide +kernel) (And.intro trivial ?_)
            refine gt_ hX (-68) 20 (by decide +kernel) (by decide) ?_
            refine z_lvk (lv' := [(0, _), (1, _), (2, _), (3, _), (4, _)]) [2, 3, 4, 1, 0] rfl ?_
            rw [nI_add]
            first
              | (have hi := ih (j + 1) I1 (by omega) q1
                 rw [clN_s, if_neg (fun z => absurd (nI_lt (a := 1) (b := (wkd w j).1) (by omega) (by omega)) (fun y => absurd z.1 (by have := (nI_ltI (a := 1) (b := (wkd w j).1) (by omega) (by omega)).mp c37; omega))), Int32.add_zero] at hi
                 exact hi)
              | (have hi := ih (j + 1) I1 (by omega) q1
                 have h2w : ¬ (wkd w j).1 < 2 := by have := (nI_ltI (a := 1) (b := (wkd w j).1) (by omega) (by omega)).mp c37; omega
                 rw [clN_s, if_neg (fun z => h2w z.1), Int32.add_zero] at hi
                 exact hi)
              | (have hi := ih (j + 1) I2 (by omega) q4
                 rw [clN_s, if_neg (fun z => by rw [z.2] at ce; exact absurd ce (by decide)), Int32.add_zero] at hi
                 exact hi)
              | (have hi := ih (j + 1) I2 (by omega) q4
                 rw [clN_s, if_pos ⟨hwl, b2i_t ce⟩, if_pos (nI_inj (by omega) (by decide) c62), ← Int32.add_assoc] at hi
                 exact hi)
              | (have hi := ih (j + 1) I2 (by omega) q4
                 rw [clN_s, if_pos ⟨hwl, b2i_t ce⟩, if_neg (fun z => c62 (by rw [z]; rfl)), ← Int32.add_assoc] at hi
                 exact hi)
        · refine gt_ hX (34) 85 (by decide +kernel) (by decide) ?_
          refine bk hX lkX12_ok (pc' := 88) [.iinc 4 1] (by decide +kernel) (And.intro trivial ?_)
          refine gt_ hX (-68) 20 (by decide +kernel) (by decide) ?_
          refine z_lvk (lv' := [(0, _), (1, _), (2, _), (3, _), (4, _)]) [1, 2, 3, 4, 0] rfl ?_
          rw [nI_add]
          first
            | (have hi := ih (j + 1) I1 (by omega) q1
               rw [clN_s, if_neg (fun z => absurd (nI_lt (a := 1) (b := (wkd w j).1) (by omega) (by omega)) (fun y => absurd z.1 (by have := (nI_ltI (a := 1) (b := (wkd w j).1) (by omega) (by omega)).mp c37; omega))), Int32.add_zero] at hi
               exact hi)
            | (have hi := ih (j + 1) I1 (by omega) q1
               have h2w : ¬ (wkd w j).1 < 2 := by have := (nI_ltI (a := 1) (b := (wkd w j).1) (by omega) (by omega)).mp c37; omega
               rw [clN_s, if_neg (fun z => h2w z.1), Int32.add_zero] at hi
               exact hi)
            | (have hi := ih (j + 1) I2 (by omega) q4
               rw [clN_s, if_neg (fun z => by rw [z.2] at ce; exact absurd ce (by decide)), Int32.add_zero] at hi
               exact hi)
            | (have hi := ih (j + 1) I2 (by omega) q4
               rw [clN_s, if_pos ⟨hwl, b2i_t ce⟩, if_pos (nI_inj (by omega) (by decide) c62), ← Int32.add_assoc] at hi
               exact hi)
            | (have hi := ih (j + 1) I2 (by omega) q4
               rw [clN_s, if_pos ⟨hwl, b2i_t ce⟩, if_neg (fun z => c62 (by rw [z]; rfl)), ← Int32.add_assoc] at hi
               exact hi)
  refine bk hX lkX12_ok (pc' := 9) [.bipush 10, .aload_n 0, .aload_n 0, .getfield 29, .iload_n 2, .iaload] (by decide +kernel) (And.intro (by exact vin 6 (by omega)) (And.intro trivial ?_))
  rw [cc, show I (101 + 6) c = nI (gh g c) from (hG.2.2.2 c hc).2.2.2.1]
  refine z_callV hX kw_X12_299 (c_M_bits E _ rfl hhc) rfl rfl rfl rfl rfl (by decide +kernel) (by decide) (by decide) (by decide) (by decide) (Nat.le_of_ble_eq_true rfl) ?_
  rintro _ _ ⟨rfl, rfl⟩
  refine bk hX lkX12_ok (pc' := 15) [.isub, .istore_n 3, .aload_n 0] (by decide +kernel) (And.intro trivial ?_)
  refine z_callV hX kw_X12_293 (c_M_begin E K N Rf I L hB) rfl rfl rfl rfl rfl (by decide +kernel) (by decide) (by decide) (by decide) (by decide) (Nat.le_of_ble_eq_true rfl) ?_
  rintro _ _ ⟨rfl, rfl⟩
  refine bk hX lkX12_ok (pc' := 20) [.istore 4] (by decide +kernel) (And.intro trivial ?_)
  refine z_lvk (lv' := [(0, _), (1, _), (2, _), (3, _), (4, _)]) [2, 3, 4, 1, 0] rfl ?_
  have hi := hl w.length 0 I (by omega) (fun _ _ => rfl)
  rw [show clN g w p c 0 = 0 from rfl, Int32.add_zero] at hi
  exact hi
theorem c_M_temper (E : zE) (K N : Nat → Nat) (Rf : Nat → Nat → Option Nat) (I : Nat → Nat → Int32) (L : Nat → Nat → Int64) {g : Gv} (hg : gwf g) (hG : mG g I) (hd : gd g < 1000000) {w : Wk} {b : Nat} (hB : mHB w b I) {p c : Nat} (hp : p < gn g) (hc : c < gn g) : zCt E mX12_temper 5 0 0 (sg K N Rf I L) [.ref 100, .int (nI p), .int (nI c)] (fun r σ' => ∃ I', σ' = sg K N Rf I' L ∧ (∀ q, q ≠ 126 → I' q = I q) ∧ r = some (.int (tmS g w p c))) := by
  have h6 := hg.1
  have hk6 := (hg.2.1 p hp).1
  have cp : (nI p).toNatClampNeg = p := cl (by omega)
  refine z_intro (by decide) (Nat.le_of_ble_eq_true rfl) (fun X hX => ?_)
  refine bk hX lkX12_ok (pc' := 3) [.aload_n 0, .iload_n 1, .iload_n 2] (by decide +kernel) (And.intro trivial ?_)
  refine z_callV hX kw_X12_309 (c_M_mood E K N Rf I L hg hG hd hB hp hc) rfl rfl rfl rfl rfl (by decide +kernel) (by decide) (by decide) (by decide) (by decide) (Nat.le_of_ble_eq_true rfl) ?_
  rintro _ _ ⟨I2, rfl, q3, rfl⟩
  have hG2 := mG_pile hG q3
  refine bk hX lkX12_ok (pc' := 13) [.istore_n 3, .aload_n 0, .getfield 19, .iload_n 1, .iaload] (by decide +kernel) (And.intro (by exact vin 6 (by omega)) (And.intro trivial ?_))
  rw [cp, show I2 (101 + 3) p = nI (gk g p) from (hG2.2.2.2 p hp).1]
  have hk7 : gk g p = 0 ∨ gk g p = 1 ∨ gk g p = 2 ∨ gk g p = 3 ∨ gk g p = 4 ∨ gk g p = 5 ∨ gk g p = 6 := by omega
  rcases hk7 with e | e | e | e | e | e | e
  · rw [e]
    refine z_tsw hX 70 (dflt := 57) (lo := 2) (hi := 6) (offs := #[35, 53, 57, 35, 53]) (len := 35) (off := 57) (by decide +kernel) (by decide) (by decide) ?_
    refine bk hX lkX12_ok (pc' := 71) [.iload_n 3] (by decide +kernel) (And.intro trivial ?_)
    exact z_iret hX (by decide +kernel) rfl (rfl) (by decide) (by decide) (by
  refine ⟨I2, rfl, q3, ?_⟩
  simp only [tmS, e]
  first
    | rfl
    | (rw [if_neg (by decide), if_neg (by decide)])
    | (rw [if_neg (by decide), if_pos (by decide)])
    | (rw [if_pos (by decide), if_pos (nI_inj (by omega) (by omega) cc)])
    | (rw [if_pos (by decide), if_neg (fun z => cc (by rw [z])), cp, show I2 (101 + 4) p = nI (gv g p) from (hG2.2.2.2 p hp).2.1]))
  · rw [e]
    refine z_tsw hX 70 (dflt := 57) (lo := 2) (hi := 6) (offs := #[35, 53, 57, 35, 53]) (len := 35) (off := 57) (by decide +kernel) (by decide) (by decide) ?_
    refine bk hX lkX12_ok (pc' := 71) [.iload_n 3] (by decide +kernel) (And.intro trivial ?_)
    exact z_iret hX (by decide +kernel) rfl (rfl) (by decide) (by decide) (by
  refine ⟨I2, rfl, q3, ?_⟩
  simp only [tmS, e]
  first
    | rfl
    | (rw [if_neg (by decide), if_neg (by decide)])
    | (rw [if_neg (by decide), if_pos (by decide)])
    | (rw [if_pos (by decide), if_pos (nI_inj (by omega) (by omega) cc)])
    | (rw [if_pos (by decide), if_neg (fun z => cc (by rw [z])), cp, show I2 (101 + 4) p = nI (gv g p) from (hG2.2.2.2 p hp).2.1]))
  · rw [e]
    refine z_tsw hX 48 (dflt := 57) (lo := 2) (hi := 6) (offs := #[35, 53, 57, 35, 53]) (len := 35) (off := 35) (by decide +kernel) (by decide) (by decide) ?_
    refine bk hX lkX12_ok (pc' := 50) [.iload_n 2, .iload_n 1] (by decide +kernel) (And.intro trivial ?_)
    refine ic_ne hX (7) 57 (by decide +kernel) (by decide) (fun cc => ?_) (fun cc => ?_)
    · refine bk hX lkX12_ok (pc' := 65) [.iload_n 3, .aload_n 0, .getfield 23, .iload_n 1, .iaload, .iadd] (by decide +kernel) (And.intro (by exact vin 6 (by omega)) (And.intro trivial ?_))
      exact z_iret hX (by decide +kernel) rfl (rfl) (by decide) (by decide) (by
  refine ⟨I2, rfl, q3, ?_⟩
  simp only [tmS, e]
  first
    | rfl
    | (rw [if_neg (by decide), if_neg (by decide)])
    | (rw [if_neg (by decide), if_pos (by decide)])
    | (rw [if_pos (by decide), if_pos (nI_inj (by omega) (by omega) cc)])
    | (rw [if_pos (by decide), if_neg (fun z => cc (by rw [z])), cp, show I2 (101 + 4) p = nI (gv g p) from (hG2.2.2.2 p hp).2.1]))
    · refine bk hX lkX12_ok (pc' := 54) [.iload_n 3] (by decide +kernel) (And.intro trivial ?_)
      refine gt_ hX (11) 65 (by decide +kernel) (by decide) ?_
      exact z_iret hX (by decide +kernel) rfl (rfl) (by decide) (by decide) (by
  refine ⟨I2, rfl, q3, ?_⟩
  simp only [tmS, e]
  first
    | rfl
    | (rw [if_neg (by decide), if_neg (by decide)])
    | (rw [if_neg (by decide), if_pos (by decide)])
    | (rw [if_pos (by decide), if_pos (nI_inj (by omega) (by omega) cc)])
    | (rw [if_pos (by decide), if_neg (fun z => cc (by rw [z])), cp, show I2 (101 + 4) p = nI (gv g p) from (hG2.2.2.2 p hp).2.1]))
  · rw [e]
    refine z_tsw hX 66 (dflt := 57) (lo := 2) (hi := 6) (offs := #[35, 53, 57, 35, 53]) (len := 35) (off := 53) (by decide +kernel) (by decide) (by decide) ?_
    refine bk hX lkX12_ok (pc' := 69) [.iload_n 3, .iconst 2, .idiv] (by decide +kernel) (And.intro (by decide) (And.intro trivial ?_))
    exact z_iret hX (by decide +kernel) rfl (rfl) (by decide) (by decide) (by
  refine ⟨I2, rfl, q3, ?_⟩
  simp only [tmS, e]
  first
    | rfl
    | (rw [if_neg (by decide), if_neg (by decide)])
    | (rw [if_neg (by decide), if_pos (by decide)])
    | (rw [if_pos (by decide), if_pos (nI_inj (by omega) (by omega) cc)])
    | (rw [if_pos (by decide), if_neg (fun z => cc (by rw [z])), cp, show I2 (101 + 4) p = nI (gv g p) from (hG2.2.2.2 p hp).2.1]))
  · rw [e]
    refine z_tsw hX 70 (dflt := 57) (lo := 2) (hi := 6) (offs := #[35, 53, 57, 35, 53]) (len := 35) (off := 57) (by decide +kernel) (by decide) (by decide) ?_
    refine bk hX lkX12_ok (pc' := 71) [.iload_n 3] (by decide +kernel) (And.intro trivial ?_)
    exact z_iret hX (by decide +kernel) rfl (rfl) (by decide) (by decide) (by
  refine ⟨I2, rfl, q3, ?_⟩
  simp only [tmS, e]
  first
    | rfl
    | (rw [if_neg (by decide), if_neg (by decide)])
    | (rw [if_neg (by decide), if_pos (by decide)])
    | (rw [if_pos (by decide), if_pos (nI_inj (by omega) (by omega) cc)])
    | (rw [if_pos (by decide), if_neg (fun z => cc (by rw [z])), cp, show I2 (101 + 4) p = nI (gv g p) from (hG2.2.2.2 p hp).2.1]))
  · rw [e]
    refine z_tsw hX 48 (dflt := 57) (lo := 2) (hi := 6) (offs := #[35, 53, 57, 35, 53]) (len := 35) (off := 35) (by decide +kernel) (by decide) (by decide) ?_
    refine bk hX lkX12_ok (pc' := 50) [.iload_n 2, .iload_n 1] (by decide +kernel) (And.intro trivial ?_)
    refine ic_ne hX (7) 57 (by decide +kernel) (by decide) (fun cc => ?_) (fun cc => ?_)
    · refine bk hX lkX12_ok (pc' := 65) [.iload_n 3, .aload_n 0, .getfield 23, .iload_n 1, .iaload, .iadd] (by decide +kernel) (And.intro (by exact vin 6 (by omega)) (And.intro trivial ?_))
      exact z_iret hX (by decide +kernel) rfl (rfl) (by decide) (by decide) (by
  refine ⟨I2, rfl, q3, ?_⟩
  simp only [tmS, e]
  first
    | rfl
    | (rw [if_neg (by decide), if_neg (by decide)])
    | (rw [if_neg (by decide), if_pos (by decide)])
    | (rw [if_pos (by decide), if_pos (nI_inj (by omega) (by omega) cc)])
    | (rw [if_pos (by decide), if_neg (fun z => cc (by rw [z])), cp, show I2 (101 + 4) p = nI (gv g p) from (hG2.2.2.2 p hp).2.1]))
    · refine bk hX lkX12_ok (pc' := 54) [.iload_n 3] (by decide +kernel) (And.intro trivial ?_)
      refine gt_ hX (11) 65 (by decide +kernel) (by decide) ?_
      exact z_iret hX (by decide +kernel) rfl (rfl) (by decide) (by decide) (by
  refine ⟨I2, rfl, q3, ?_⟩
  simp only [tmS, e]
  first
    | rfl
    | (rw [if_neg (by decide), if_neg (by decide)])
    | (rw [if_neg (by decide), if_pos (by decide)])
    | (rw [if_pos (by decide), if_pos (nI_inj (by omega) (by omega) cc)])
    | (rw [if_pos (by decide), if_neg (fun z => cc (by rw [z])), cp, show I2 (101 + 4) p = nI (gv g p) from (hG2.2.2.2 p hp).2.1]))
  · rw [e]
    refine z_tsw hX 66 (dflt := 57) (lo := 2) (hi := 6) (offs := #[35, 53, 57, 35, 53]) (len := 35) (off := 53) (by decide +kernel) (by decide) (by decide) ?_
    refine bk hX lkX12_ok (pc' := 69) [.iload_n 3, .iconst 2, .idiv] (by decide +kernel) (And.intro (by decide) (And.intro trivial ?_))
    exact z_iret hX (by decide +kernel) rfl (rfl) (by decide) (by decide) (by
  refine ⟨I2, rfl, q3, ?_⟩
  simp only [tmS, e]
  first
    | rfl
    | (rw [if_neg (by decide), if_neg (by decide)])
    | (rw [if_neg (by decide), if_pos (by decide)])
    | (rw [if_pos (by decide), if_pos (nI_inj (by omega) (by omega) cc)])
    | (rw [if_pos (by decide), if_neg (fun z => cc (by rw [z])), cp, show I2 (101 + 4) p = nI (gv g p) from (hG2.2.2.2 p hp).2.1]))
theorem c_M_allTemper (E : zE) (K N : Nat → Nat) (Rf : Nat → Nat → Option Nat) (I : Nat → Nat → Int32) (L : Nat → Nat → Int64) {g : Gv} (hg : gwf g) (hG : mG g I) (hd : gd g < 1000000) {w : Wk} {b : Nat} (hB : mHB w b I) : zCt E mX12_allTemper 6 0 0 (sg K N Rf I L) [.ref 100] (fun r σ' => ∃ I', σ' = sg K N Rf I' L ∧ (∀ q, q ≠ 126 → I' q = I q) ∧ r = some (.int (atN g w (gn g)))) := by
  have h6 := hg.1
  refine z_intro (by decide) (Nat.le_of_ble_eq_true rfl) (fun X hX => ?_)
  have hl : ∀ m j (I1 : Nat → Nat → Int32), j + m = gn g → (∀ q, q ≠ 126 → I1 q = I q) → zS X (sg K N Rf I1 L) 0 0 4 [(0, .ref 100), (1, .int (atN g w j)), (2, .int (nI j))] [] := by
    intro m
    induction m with
    | zero =>
      intro j I1 hj q1
      obtain rfl : j = gn g := by omega
      have e0 : I1 100 0 = nI (gn g) := by rw [q1 100 (by decide)]; exact hG.1
      refine bk hX lkX12_ok (pc' := 9) [.iload_n 2, .aload_n 0, .getfield 7] (by decide +kernel) (And.intro trivial ?_)
      rw [e0]
      refine ic_ge hX (23) 32 (by decide +kernel) (by decide) (fun c_9 => ?_) (fun c => absurd (nI_le (by omega) (by omega)) c)
      refine bk hX lkX12_ok (pc' := 33) [.iload_n 1] (by decide +kernel) (And.intro trivial ?_)
      exact z_iret hX (by decide +kernel) rfl (rfl) (by decide) (by decide) (⟨I1, rfl, q1, rfl⟩)
    | succ m ih =>
      intro j I1 hj q1
      have e0 : I1 100 0 = nI (gn g) := by rw [q1 100 (by decide)]; exact hG.1
      have hjn : j < gn g := by omega
      have ec : I1 106 j = nI (gc g j) := by rw [q1 _ (by decide)]; exact (hG.2.2.2 j hjn).2.2.1
      refine bk hX lkX12_ok (pc' := 9) [.iload_n 2, .aload_n 0, .getfield 7] (by decide +kernel) (And.intro trivial ?_)
      rw [e0]
      refine ic_ge hX (23) 32 (by decide +kernel) (by decide) (fun c => absurd c (nI_ge (by omega) (by omega))) (fun c_9 => ?_)
      refine bk hX lkX12_ok (pc' := 21) [.iload_n 1, .aload_n 0, .iload_n 2, .aload_n 0, .getfield 26, .iload_n 2, .iaload] (by decide +kernel) (And.intro (by exact vin 6 (by omega)) (And.intro trivial ?_))
      rw [cl (by omega), show I1 (101 + 5) j = _ from ec]
      refine z_callV hX kw_X12_313 (c_M_temper E K N Rf I1 L hg (mG_pile hG q1) hd (mHB_pile hB q1) hjn (hg.2.1 j hjn).2.2.1) rfl rfl rfl rfl rfl (by decide +kernel) (by decide) (by decide) (by decide) (by decide) (Nat.le_of_ble_eq_true rfl) ?_
      rintro _ _ ⟨I2, rfl, q3, rfl⟩
      refine bk hX lkX12_ok (pc' := 29) [.iadd, .istore_n 1, .iinc 2 1] (by decide +kernel) (And.intro trivial ?_)
      refine gt_ hX (-25) 4 (by decide +kernel) (by decide) ?_
      refine z_lvk (lv' := [(0, _), (1, _), (2, _)]) [2, 1, 0] rfl ?_
      rw [nI_add]
      exact ih (j + 1) I2 (by omega) (fun q hq => (q3 q hq).trans (q1 q hq))
  refine bk hX lkX12_ok (pc' := 4) [.iconst 0, .istore_n 1, .iconst 0, .istore_n 2] (by decide +kernel) (And.intro trivial ?_)
  refine z_lvk (lv' := [(0, _), (1, _), (2, _)]) [2, 1, 0] rfl ?_
  exact hl (gn g) 0 I (by omega) (fun _ _ => rfl)
/-- holes of the first j cards, together -/
def ahN (g : Gv) : Nat → Nat
  | 0 => 0
  | j + 1 => ahN g j + pcN (gh g j) 10
theorem ahN_le (g : Gv) : ∀ j, ahN g j ≤ 10 * j
  | 0 => Nat.le_refl 0
  | j + 1 => by
    have := ahN_le g j
    have := pcN_le (gh g j) 10
    show ahN g j + pcN (gh g j) 10 ≤ _
    omega
theorem c_M_allHoles (E : zE) (K N : Nat → Nat) (Rf : Nat → Nat → Option Nat) (I : Nat → Nat → Int32) (L : Nat → Nat → Int64) {g : Gv} (hg : gwf g) (hG : mG g I) : zCt E mX12_allHoles 2 0 0 (sg K N Rf I L) [.ref 100] (fun r σ' => σ' = (sg K N Rf I L) ∧ r = some (.int (nI (ahN g (gn g))))) := by
  have h6 := hg.1
  refine z_intro (by decide) (Nat.le_of_ble_eq_true rfl) (fun X hX => ?_)
  have hl : ∀ m j, j + m = gn g → zS X (sg K N Rf I L) 0 0 4 [(0, .ref 100), (1, .int (nI (ahN g j))), (2, .int (nI j))] [] := by
    intro m
    induction m with
    | zero =>
      intro j hj
      obtain rfl : j = gn g := by omega
      refine bk hX lkX12_ok (pc' := 9) [.iload_n 2, .aload_n 0, .getfield 7] (by decide +kernel) (And.intro trivial ?_)
      rw [hG.1]
      refine ic_ge hX (22) 31 (by decide +kernel) (by decide) (fun c_9 => ?_) (fun c => absurd (nI_le (by omega) (by omega)) c)
      refine bk hX lkX12_ok (pc' := 32) [.iload_n 1] (by decide +kernel) (And.intro trivial ?_)
      exact z_iret hX (by decide +kernel) rfl (rfl) (by decide) (by decide) (⟨rfl, rfl⟩)
    | succ m ih =>
      intro j hj
      have hjn : j < gn g := by omega
      refine bk hX lkX12_ok (pc' := 9) [.iload_n 2, .aload_n 0, .getfield 7] (by decide +kernel) (And.intro trivial ?_)
      rw [hG.1]
      refine ic_ge hX (22) 31 (by decide +kernel) (by decide) (fun c => absurd c (nI_ge (by omega) (by omega))) (fun c_9 => ?_)
      refine bk hX lkX12_ok (pc' := 20) [.iload_n 1, .aload_n 0, .aload_n 0, .getfield 29, .iload_n 2, .iaload] (by decide +kernel) (And.intro (by exact vin 6 (by omega)) (And.intro trivial ?_))
      rw [cl (by omega), show I (101 + 6) j = _ from (hG.2.2.2 j hjn).2.2.2.1]
      refine z_callV hX kw_X12_299 (c_M_bits E _ rfl (hg.2.1 j hjn).2.2.2.1) rfl rfl rfl rfl rfl (by decide +kernel) (by decide) (by decide) (by decide) (by decide) (Nat.le_of_ble_eq_true rfl) ?_
      rintro _ _ ⟨rfl, rfl⟩
      refine bk hX lkX12_ok (pc' := 28) [.iadd, .istore_n 1, .iinc 2 1] (by decide +kernel) (And.intro trivial ?_)
      refine gt_ hX (-24) 4 (by decide +kernel) (by decide) ?_
      refine z_lvk (lv' := [(0, _), (1, _), (2, _)]) [2, 1, 0] rfl ?_
      rw [nI_add, nI_add]
      exact ih (j + 1) (by omega)
  refine bk hX lkX12_ok (pc' := 4) [.iconst 0, .istore_n 1, .iconst 0, .istore_n 2] (by decide +kernel) (And.intro trivial ?_)
  refine z_lvk (lv' := [(0, _), (1, _), (2, _)]) [2, 1, 0] rfl ?_
  exact hl (gn g) 0 (by omega)
