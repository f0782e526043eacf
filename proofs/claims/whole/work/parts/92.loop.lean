/-! ===== the law: its loop ===== -/
theorem and63 (z : Int32) : ∃ v, v < 64 ∧ z &&& nI 63 = nI v := by
  refine ⟨(z.toBitVec &&& 63#32).toNat, ?_, ?_⟩
  · rw [BitVec.toNat_and]
    exact Nat.lt_of_le_of_lt Nat.and_le_right (by decide)
  · apply Int32.toBitVec_inj.mp
    show z.toBitVec &&& (nI 63).toBitVec = (nI (z.toBitVec &&& 63#32).toNat).toBitVec
    rw [show (nI 63).toBitVec = 63#32 by decide]
    apply BitVec.eq_of_toNat_eq
    show _ = (BitVec.ofNat 32 (z.toBitVec &&& 63#32).toNat).toNat
    rw [BitVec.toNat_ofNat, Nat.mod_eq_of_lt (BitVec.isLt _)]
theorem sub6 {n i : Nat} (hn : n ≤ 3072) (hi : i ≤ 3072) : (nI n - nI 6 < nI i) ↔ n < i + 6 := by
  rw [Int32.lt_iff_toInt_lt, Int32.toInt_sub, nI_toInt (by omega), nI_toInt (by decide), nI_toInt (by omega)]
  rw [show ((n : Int) - ((6 : Nat) : Int)).bmod (2 ^ 32) = (n : Int) - 6 from Int.bmod_eq_of_le (by omega) (by omega)]
  omega
set_option maxHeartbeats 4000000 in
theorem law_loop {X : zX} {E : zE} (hX : zD X E mL 100 600000 7302250 PoL) {n : Nat} {xs : Nat → Int32} (hsc : scR X n xs) (hn : n ≤ 3072) : ∀ m (S : St) (K N : Nat → Nat) (R : Nat → Nat → Option Nat) (I : Nat → Nat → Int32) (L : Nat → Nat → Int64) (i cells slots : Nat), i + 6 * m ≤ n → n < i + 6 * m + 6 → Inv S K N R I L → cells + 10 * m ≤ 600000 → slots + 309 * m ≤ 7302250 → zS X (sg K N R I L) cells slots 18 [(0, .ref 1000), (1, .ref 200), (2, .ref 100), (3, .int (nI i))] [] := by
    intro m
    induction m with
    | zero =>
      intro S K N R I L i cells slots h1 h2 h hc hs
      refine bk hX lkL_ok (pc' := 20) [.iload_n 3, .aload_n 0] (by decide +kernel) (And.intro trivial ?_)
      refine hsc.2 _ _ _ _ _ _ (by decide +kernel) ?_
      refine bk hX lkL_ok (pc' := 24) [.bipush 6, .isub] (by decide +kernel) (And.intro trivial ?_)
      refine ic_gt hX (1230) 1254 (by decide +kernel) (by decide) (fun c_24 => ?_) (fun c => absurd ((sub6 hn (by omega)).mpr (by omega)) c)
      refine bk hX lkL_ok (pc' := 1255) [.iconst 1] (by decide +kernel) (And.intro trivial ?_)
      exact z_iret hX (by decide +kernel) rfl (rfl) (by omega) (by omega) (rfl)
    | succ m ih =>
      intro S K N R I L i cells slots h1 h2 h hc hs
      refine bk hX lkL_ok (pc' := 20) [.iload_n 3, .aload_n 0] (by decide +kernel) (And.intro trivial ?_)
      refine hsc.2 _ _ _ _ _ _ (by decide +kernel) ?_
      refine bk hX lkL_ok (pc' := 24) [.bipush 6, .isub] (by decide +kernel) (And.intro trivial ?_)
      refine ic_gt hX (1230) 1254 (by decide +kernel) (by decide) (fun c => absurd c (fun z => absurd ((sub6 hn (by omega)).mp z) (by omega))) (fun c_24 => ?_)
      refine bk hX lkL_ok (pc' := 29) [.aload_n 0, .iload_n 3] (by decide +kernel) (And.intro trivial ?_)
      refine hsc.1 _ _ _ _ _ _ i (by omega) (by decide +kernel) ?_
      refine bk hX lkL_ok (pc' := 33) [.bipush 63, .iand] (by decide +kernel) (And.intro trivial ?_)
      obtain ⟨v, hv, ev⟩ := and63 (xs i)
      rw [ev]
      clear ev
      have hi6 : i + 6 ≤ n := by omega
      have hc6 : cells + 10 ≤ 600000 := by omega
      have hs6 : slots + 309 ≤ 7302250 := Nat.le_trans (Nat.add_le_add_left (Nat.le_mul_of_pos_right 309 (Nat.succ_pos m)) slots) hs
      have kk : ∀ (S' : St) (K' N' : Nat → Nat) (R' : Nat → Nat → Option Nat) (I' : Nat → Nat → Int32) (L' : Nat → Nat → Int64) (c s : Nat), Inv S' K' N' R' I' L' → c ≤ cells + 10 → s ≤ slots + 309 → zS X (sg K' N' R' I' L') c s 1248 [(0, .ref 1000), (1, .ref 200), (2, .ref 100), (3, .int (nI i))] [] := by
        intro S1 K1 N1 R1 I1 L1 c1 s1 h1 hc1 hs1
        refine bk hX lkL_ok (pc' := 1251) [.iinc 3 6] (by decide +kernel) (And.intro trivial ?_)
        refine gt_ hX (-1233) 18 (by decide +kernel) (by decide) ?_
        refine z_lvk (lv' := [(0, _), (1, _), (2, _), (3, _)]) [1, 2, 3, 0] rfl ?_
        rw [nI_add]
        exact ih S1 K1 N1 R1 I1 L1 (i + 6) c1 s1 (by omega) (by omega) h1 (by omega) (by omega)
      by_cases h33 : 33 ≤ v
      · refine z_tsw hX 1248 (dflt := 1215) (lo := 0) (hi := 32) (offs := #[147, 180, 213, 246, 279, 328, 371, 394, 407, 430, 453, 486, 519, 542, 585, 608, 641, 685, 719, 752, 775, 808, 821, 854, 867, 880, 923, 946, 979, 1002, 1045, 1118, 1152]) (len := 147) (off := 1215) (by decide +kernel) (Or.inl ⟨Or.inr (by rw [nI_toInt (by omega)]; omega), rfl⟩) (by decide) ?_
        refine z_lvk (lv' := [(0, _), (1, _), (2, _), (3, _)]) [0, 1, 2, 3] rfl ?_
        exact kk S K N R I L cells slots h (by omega) (by omega)
      · rcases (show v = 0 ∨ v = 1 ∨ v = 2 ∨ v = 3 ∨ v = 4 ∨ v = 5 ∨ v = 6 ∨ v = 7 ∨ v = 8 ∨ v = 9 ∨ v = 10 ∨ v = 11 ∨ v = 12 ∨ v = 13 ∨ v = 14 ∨ v = 15 ∨ v = 16 ∨ v = 17 ∨ v = 18 ∨ v = 19 ∨ v = 20 ∨ v = 21 ∨ v = 22 ∨ v = 23 ∨ v = 24 ∨ v = 25 ∨ v = 26 ∨ v = 27 ∨ v = 28 ∨ v = 29 ∨ v = 30 ∨ v = 31 ∨ v = 32 by omega) with rfl | rfl | rfl | rfl | rfl | rfl | rfl | rfl | rfl | rfl | rfl | rfl | rfl | rfl | rfl | rfl | rfl | rfl | rfl | rfl | rfl | rfl | rfl | rfl | rfl | rfl | rfl | rfl | rfl | rfl | rfl | rfl | rfl
        · refine z_tsw hX 180 (dflt := 1215) (lo := 0) (hi := 32) (offs := #[147, 180, 213, 246, 279, 328, 371, 394, 407, 430, 453, 486, 519, 542, 585, 608, 641, 685, 719, 752, 775, 808, 821, 854, 867, 880, 923, 946, 979, 1002, 1045, 1118, 1152]) (len := 147) (off := 147) (by decide +kernel) (by decide) (by decide) ?_
          exact lc_0 hX hsc h hi6 hn hc6 hs6 kk
        · refine z_tsw hX 213 (dflt := 1215) (lo := 0) (hi := 32) (offs := #[147, 180, 213, 246, 279, 328, 371, 394, 407, 430, 453, 486, 519, 542, 585, 608, 641, 685, 719, 752, 775, 808, 821, 854, 867, 880, 923, 946, 979, 1002, 1045, 1118, 1152]) (len := 147) (off := 180) (by decide +kernel) (by decide) (by decide) ?_
          exact lc_1 hX hsc h hi6 hn hc6 hs6 kk
        · refine z_tsw hX 246 (dflt := 1215) (lo := 0) (hi := 32) (offs := #[147, 180, 213, 246, 279, 328, 371, 394, 407, 430, 453, 486, 519, 542, 585, 608, 641, 685, 719, 752, 775, 808, 821, 854, 867, 880, 923, 946, 979, 1002, 1045, 1118, 1152]) (len := 147) (off := 213) (by decide +kernel) (by decide) (by decide) ?_
          exact lc_2 hX hsc h hi6 hn hc6 hs6 kk
        · refine z_tsw hX 279 (dflt := 1215) (lo := 0) (hi := 32) (offs := #[147, 180, 213, 246, 279, 328, 371, 394, 407, 430, 453, 486, 519, 542, 585, 608, 641, 685, 719, 752, 775, 808, 821, 854, 867, 880, 923, 946, 979, 1002, 1045, 1118, 1152]) (len := 147) (off := 246) (by decide +kernel) (by decide) (by decide) ?_
          exact lc_3 hX hsc h hi6 hn hc6 hs6 kk
        · refine z_tsw hX 312 (dflt := 1215) (lo := 0) (hi := 32) (offs := #[147, 180, 213, 246, 279, 328, 371, 394, 407, 430, 453, 486, 519, 542, 585, 608, 641, 685, 719, 752, 775, 808, 821, 854, 867, 880, 923, 946, 979, 1002, 1045, 1118, 1152]) (len := 147) (off := 279) (by decide +kernel) (by decide) (by decide) ?_
          exact lc_4 hX hsc h hi6 hn hc6 hs6 kk
        · refine z_tsw hX 361 (dflt := 1215) (lo := 0) (hi := 32) (offs := #[147, 180, 213, 246, 279, 328, 371, 394, 407, 430, 453, 486, 519, 542, 585, 608, 641, 685, 719, 752, 775, 808, 821, 854, 867, 880, 923, 946, 979, 1002, 1045, 1118, 1152]) (len := 147) (off := 328) (by decide +kernel) (by decide) (by decide) ?_
          exact lc_5 hX hsc h hi6 hn hc6 hs6 kk
        · refine z_tsw hX 404 (dflt := 1215) (lo := 0) (hi := 32) (offs := #[147, 180, 213, 246, 279, 328, 371, 394, 407, 430, 453, 486, 519, 542, 585, 608, 641, 685, 719, 752, 775, 808, 821, 854, 867, 880, 923, 946, 979, 1002, 1045, 1118, 1152]) (len := 147) (off := 371) (by decide +kernel) (by decide) (by decide) ?_
          exact lc_6 hX hsc h hi6 hn hc6 hs6 kk
        · refine z_tsw hX 427 (dflt := 1215) (lo := 0) (hi := 32) (offs := #[147, 180, 213, 246, 279, 328, 371, 394, 407, 430, 453, 486, 519, 542, 585, 608, 641, 685, 719, 752, 775, 808, 821, 854, 867, 880, 923, 946, 979, 1002, 1045, 1118, 1152]) (len := 147) (off := 394) (by decide +kernel) (by decide) (by decide) ?_
          exact lc_7 hX hsc h hi6 hn hc6 hs6 kk
        · refine z_tsw hX 440 (dflt := 1215) (lo := 0) (hi := 32) (offs := #[147, 180, 213, 246, 279, 328, 371, 394, 407, 430, 453, 486, 519, 542, 585, 608, 641, 685, 719, 752, 775, 808, 821, 854, 867, 880, 923, 946, 979, 1002, 1045, 1118, 1152]) (len := 147) (off := 407) (by decide +kernel) (by decide) (by decide) ?_
          exact lc_8 hX hsc h hi6 hn hc6 hs6 kk
        · refine z_tsw hX 463 (dflt := 1215) (lo := 0) (hi := 32) (offs := #[147, 180, 213, 246, 279, 328, 371, 394, 407, 430, 453, 486, 519, 542, 585, 608, 641, 685, 719, 752, 775, 808, 821, 854, 867, 880, 923, 946, 979, 1002, 1045, 1118, 1152]) (len := 147) (off := 430) (by decide +kernel) (by decide) (by decide) ?_
          exact lc_9 hX hsc h hi6 hn hc6 hs6 kk
        · refine z_tsw hX 486 (dflt := 1215) (lo := 0) (hi := 32) (offs := #[147, 180, 213, 246, 279, 328, 371, 394, 407, 430, 453, 486, 519, 542, 585, 608, 641, 685, 719, 752, 775, 808, 821, 854, 867, 880, 923, 946, 979, 1002, 1045, 1118, 1152]) (len := 147) (off := 453) (by decide +kernel) (by decide) (by decide) ?_
          exact lc_10 hX hsc h hi6 hn hc6 hs6 kk
        · refine z_tsw hX 519 (dflt := 1215) (lo := 0) (hi := 32) (offs := #[147, 180, 213, 246, 279, 328, 371, 394, 407, 430, 453, 486, 519, 542, 585, 608, 641, 685, 719, 752, 775, 808, 821, 854, 867, 880, 923, 946, 979, 1002, 1045, 1118, 1152]) (len := 147) (off := 486) (by decide +kernel) (by decide) (by decide) ?_
          exact lc_11 hX hsc h hi6 hn hc6 hs6 kk
        · refine z_tsw hX 552 (dflt := 1215) (lo := 0) (hi := 32) (offs := #[147, 180, 213, 246, 279, 328, 371, 394, 407, 430, 453, 486, 519, 542, 585, 608, 641, 685, 719, 752, 775, 808, 821, 854, 867, 880, 923, 946, 979, 1002, 1045, 1118, 1152]) (len := 147) (off := 519) (by decide +kernel) (by decide) (by decide) ?_
          exact lc_12 hX hsc h hi6 hn hc6 hs6 kk
        · refine z_tsw hX 575 (dflt := 1215) (lo := 0) (hi := 32) (offs := #[147, 180, 213, 246, 279, 328, 371, 394, 407, 430, 453, 486, 519, 542, 585, 608, 641, 685, 719, 752, 775, 808, 821, 854, 867, 880, 923, 946, 979, 1002, 1045, 1118, 1152]) (len := 147) (off := 542) (by decide +kernel) (by decide) (by decide) ?_
          exact lc_13 hX hsc h hi6 hn hc6 hs6 kk
        · refine z_tsw hX 618 (dflt := 1215) (lo := 0) (hi := 32) (offs := #[147, 180, 213, 246, 279, 328, 371, 394, 407, 430, 453, 486, 519, 542, 585, 608, 641, 685, 719, 752, 775, 808, 821, 854, 867, 880, 923, 946, 979, 1002, 1045, 1118, 1152]) (len := 147) (off := 585) (by decide +kernel) (by decide) (by decide) ?_
          exact lc_14 hX hsc h hi6 hn hc6 hs6 kk
        · refine z_tsw hX 641 (dflt := 1215) (lo := 0) (hi := 32) (offs := #[147, 180, 213, 246, 279, 328, 371, 394, 407, 430, 453, 486, 519, 542, 585, 608, 641, 685, 719, 752, 775, 808, 821, 854, 867, 880, 923, 946, 979, 1002, 1045, 1118, 1152]) (len := 147) (off := 608) (by decide +kernel) (by decide) (by decide) ?_
          exact lc_15 hX hsc h hi6 hn hc6 hs6 kk
        · refine z_tsw hX 674 (dflt := 1215) (lo := 0) (hi := 32) (offs := #[147, 180, 213, 246, 279, 328, 371, 394, 407, 430, 453, 486, 519, 542, 585, 608, 641, 685, 719, 752, 775, 808, 821, 854, 867, 880, 923, 946, 979, 1002, 1045, 1118, 1152]) (len := 147) (off := 641) (by decide +kernel) (by decide) (by decide) ?_
          exact lc_16 hX hsc h hi6 hn hc6 hs6 kk
        · refine z_tsw hX 718 (dflt := 1215) (lo := 0) (hi := 32) (offs := #[147, 180, 213, 246, 279, 328, 371, 394, 407, 430, 453, 486, 519, 542, 585, 608, 641, 685, 719, 752, 775, 808, 821, 854, 867, 880, 923, 946, 979, 1002, 1045, 1118, 1152]) (len := 147) (off := 685) (by decide +kernel) (by decide) (by decide) ?_
          exact lc_17 hX hsc h hi6 hn hc6 hs6 kk
        · refine z_tsw hX 752 (dflt := 1215) (lo := 0) (hi := 32) (offs := #[147, 180, 213, 246, 279, 328, 371, 394, 407, 430, 453, 486, 519, 542, 585, 608, 641, 685, 719, 752, 775, 808, 821, 854, 867, 880, 923, 946, 979, 1002, 1045, 1118, 1152]) (len := 147) (off := 719) (by decide +kernel) (by decide) (by decide) ?_
          exact lc_18 hX hsc h hi6 hn hc6 hs6 kk
        · refine z_tsw hX 785 (dflt := 1215) (lo := 0) (hi := 32) (offs := #[147, 180, 213, 246, 279, 328, 371, 394, 407, 430, 453, 486, 519, 542, 585, 608, 641, 685, 719, 752, 775, 808, 821, 854, 867, 880, 923, 946, 979, 1002, 1045, 1118, 1152]) (len := 147) (off := 752) (by decide +kernel) (by decide) (by decide) ?_
          exact lc_19 hX hsc h hi6 hn hc6 hs6 kk
        · refine z_tsw hX 808 (dflt := 1215) (lo := 0) (hi := 32) (offs := #[147, 180, 213, 246, 279, 328, 371, 394, 407, 430, 453, 486, 519, 542, 585, 608, 641, 685, 719, 752, 775, 808, 821, 854, 867, 880, 923, 946, 979, 1002, 1045, 1118, 1152]) (len := 147) (off := 775) (by decide +kernel) (by decide) (by decide) ?_
          exact lc_20 hX hsc h hi6 hn hc6 hs6 kk
        · refine z_tsw hX 841 (dflt := 1215) (lo := 0) (hi := 32) (offs := #[147, 180, 213, 246, 279, 328, 371, 394, 407, 430, 453, 486, 519, 542, 585, 608, 641, 685, 719, 752, 775, 808, 821, 854, 867, 880, 923, 946, 979, 1002, 1045, 1118, 1152]) (len := 147) (off := 808) (by decide +kernel) (by decide) (by decide) ?_
          exact lc_21 hX hsc h hi6 hn hc6 hs6 kk
        · refine z_tsw hX 854 (dflt := 1215) (lo := 0) (hi := 32) (offs := #[147, 180, 213, 246, 279, 328, 371, 394, 407, 430, 453, 486, 519, 542, 585, 608, 641, 685, 719, 752, 775, 808, 821, 854, 867, 880, 923, 946, 979, 1002, 1045, 1118, 1152]) (len := 147) (off := 821) (by decide +kernel) (by decide) (by decide) ?_
          exact lc_22 hX hsc h hi6 hn hc6 hs6 kk
        · refine z_tsw hX 887 (dflt := 1215) (lo := 0) (hi := 32) (offs := #[147, 180, 213, 246, 279, 328, 371, 394, 407, 430, 453, 486, 519, 542, 585, 608, 641, 685, 719, 752, 775, 808, 821, 854, 867, 880, 923, 946, 979, 1002, 1045, 1118, 1152]) (len := 147) (off := 854) (by decide +kernel) (by decide) (by decide) ?_
          exact lc_23 hX hsc h hi6 hn hc6 hs6 kk
        · refine z_tsw hX 900 (dflt := 1215) (lo := 0) (hi := 32) (offs := #[147, 180, 213, 246, 279, 328, 371, 394, 407, 430, 453, 486, 519, 542, 585, 608, 641, 685, 719, 752, 775, 808, 821, 854, 867, 880, 923, 946, 979, 1002, 1045, 1118, 1152]) (len := 147) (off := 867) (by decide +kernel) (by decide) (by decide) ?_
          exact lc_24 hX hsc h hi6 hn hc6 hs6 kk
        · refine z_tsw hX 913 (dflt := 1215) (lo := 0) (hi := 32) (offs := #[147, 180, 213, 246, 279, 328, 371, 394, 407, 430, 453, 486, 519, 542, 585, 608, 641, 685, 719, 752, 775, 808, 821, 854, 867, 880, 923, 946, 979, 1002, 1045, 1118, 1152]) (len := 147) (off := 880) (by decide +kernel) (by decide) (by decide) ?_
          exact lc_25 hX hsc h hi6 hn hc6 hs6 kk
        · refine z_tsw hX 956 (dflt := 1215) (lo := 0) (hi := 32) (offs := #[147, 180, 213, 246, 279, 328, 371, 394, 407, 430, 453, 486, 519, 542, 585, 608, 641, 685, 719, 752, 775, 808, 821, 854, 867, 880, 923, 946, 979, 1002, 1045, 1118, 1152]) (len := 147) (off := 923) (by decide +kernel) (by decide) (by decide) ?_
          exact lc_26 hX hsc h hi6 hn hc6 hs6 kk
        · refine z_tsw hX 979 (dflt := 1215) (lo := 0) (hi := 32) (offs := #[147, 180, 213, 246, 279, 328, 371, 394, 407, 430, 453, 486, 519, 542, 585, 608, 641, 685, 719, 752, 775, 808, 821, 854, 867, 880, 923, 946, 979, 1002, 1045, 1118, 1152]) (len := 147) (off := 946) (by decide +kernel) (by decide) (by decide) ?_
          exact lc_27 hX hsc h hi6 hn hc6 hs6 kk
        · refine z_tsw hX 1012 (dflt := 1215) (lo := 0) (hi := 32) (offs := #[147, 180, 213, 246, 279, 328, 371, 394, 407, 430, 453, 486, 519, 542, 585, 608, 641, 685, 719, 752, 775, 808, 821, 854, 867, 880, 923, 946, 979, 1002, 1045, 1118, 1152]) (len := 147) (off := 979) (by decide +kernel) (by decide) (by decide) ?_
          exact lc_28 hX hsc h hi6 hn hc6 hs6 kk
        · refine z_tsw hX 1035 (dflt := 1215) (lo := 0) (hi := 32) (offs := #[147, 180, 213, 246, 279, 328, 371, 394, 407, 430, 453, 486, 519, 542, 585, 608, 641, 685, 719, 752, 775, 808, 821, 854, 867, 880, 923, 946, 979, 1002, 1045, 1118, 1152]) (len := 147) (off := 1002) (by decide +kernel) (by decide) (by decide) ?_
          exact lc_29 hX hsc h hi6 hn hc6 hs6 kk
        · refine z_tsw hX 1078 (dflt := 1215) (lo := 0) (hi := 32) (offs := #[147, 180, 213, 246, 279, 328, 371, 394, 407, 430, 453, 486, 519, 542, 585, 608, 641, 685, 719, 752, 775, 808, 821, 854, 867, 880, 923, 946, 979, 1002, 1045, 1118, 1152]) (len := 147) (off := 1045) (by decide +kernel) (by decide) (by decide) ?_
          exact lc_30 hX hsc h hi6 hn hc6 hs6 kk
        · refine z_tsw hX 1151 (dflt := 1215) (lo := 0) (hi := 32) (offs := #[147, 180, 213, 246, 279, 328, 371, 394, 407, 430, 453, 486, 519, 542, 585, 608, 641, 685, 719, 752, 775, 808, 821, 854, 867, 880, 923, 946, 979, 1002, 1045, 1118, 1152]) (len := 147) (off := 1118) (by decide +kernel) (by decide) (by decide) ?_
          exact lc_31 hX hsc h hi6 hn hc6 hs6 kk
        · refine z_tsw hX 1185 (dflt := 1215) (lo := 0) (hi := 32) (offs := #[147, 180, 213, 246, 279, 328, 371, 394, 407, 430, 453, 486, 519, 542, 585, 608, 641, 685, 719, 752, 775, 808, 821, 854, 867, 880, 923, 946, 979, 1002, 1045, 1118, 1152]) (len := 147) (off := 1152) (by decide +kernel) (by decide) (by decide) ?_
          exact lc_32 hX hsc h hi6 hn hc6 hs6 kk
