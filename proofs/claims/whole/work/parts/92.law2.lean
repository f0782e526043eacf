/-! ===== the law: its loop ===== -/
theorem and63 (z : Int32) : ∃ v, v < 64 ∧ z &&& nI 63 = nI v := by
  refine ⟨(z.toBitVec &&& 63#32).toNat, ?_, ?_⟩
  · rw [BitVec.toNat_and]
    exact Nat.lt_of_le_of_lt Nat.and_le_right (by decide)
  · apply Int32.toBitVec_inj.mp
    show z.toBitVec &&& (nI 63).toBitVec = (nI (z.toBitVec &&& 63#32).toNat).toBitVec
    rw [show (nI 63).toBitVec = 63#32 by decide]
    apply BitVec.eq_of_toNat_eq
    show _ = (BitVec.ofNat 32 (z.toBitVec &&& 63#32).toNat).toNat
    rw [BitVec.toNat_ofNat, Nat.mod_eq_of_lt (BitVec.isLt _)]
theorem sub6 {n i : Nat} (hn : n ≤ 3072) (hi : i ≤ 3072) : (nI n - nI 6 < nI i) ↔ n < i + 6 := by
  rw [Int32.lt_iff_toInt_lt, Int32.toInt_sub, nI_toInt (by omega), nI_toInt (by decide), nI_toInt (by omega)]
  rw [show ((n : Int) - ((6 : Nat) : Int)).bmod (2 ^ 32) = (n : Int) - 6 from Int.bmod_eq_of_le (by omega) (by omega)]
  omega
set_option maxHeartbeats 4000000 in
theorem law_loop {X : zX} {E : zE} (hX : zD X E mL 100 600000 7302250 PoL) {n : Nat} {xs : Nat → Int32} (hsc : scR X n xs) (hn : n ≤ 3072) : ∀ m (S : St) (K N : Nat → Nat) (R : Nat → Nat → Option Nat) (I : Nat → Nat → Int32) (L : Nat → Nat → Int64) (i cells slots : Nat), i + 6 * m ≤ n → n < i + 6 * m + 6 → Inv S K N R I L → cells + 10 * m ≤ 600000 → slots + 309 * m ≤ 7302250 → zS X (sg K N R I L) cells slots 18 [(0, .ref 1000), (1, .ref 200), (2, .ref 100), (3, .int (nI i))] [] := by
    intro m
    induction m with
    | zero =>
      intro S K N R I L i cells slots h1 h2 h hc hs
      refine bk hX lkL_ok (pc' := 20) [.iload_n 3, .aload_n 0] (by decide +kernel) (And.intro trivial ?_)
      refine hsc.2 _ _ _ _ _ _ (by decide +kernel) ?_
      refine bk hX lkL_ok (pc' := 24) [.bipush 6, .isub] (by decide +kernel) (And.intro trivial ?_)
      refine ic_gt hX (1230) 1254 (by decide +kernel) (by decide) (fun c_24 => ?_) (fun c => absurd ((sub6 hn (by omega)).mpr (by omega)) c)
      refine bk hX lkL_ok (pc' := 1255) [.iconst 1] (by decide +kernel) (And.intro trivial ?_)
      exact z_iret hX (by decide +kernel) rfl (rfl) (by omega) (by omega) (rfl)
    | succ m ih =>
      intro S K N R I L i cells slots h1 h2 h hc hs
      refine bk hX lkL_ok (pc' := 20) [.iload_n 3, .aload_n 0] (by decide +kernel) (And.intro trivial ?_)
      refine hsc.2 _ _ _ _ _ _ (by decide +kernel) ?_
      refine bk hX lkL_ok (pc' := 24) [.bipush 6, .isub] (by decide +kernel) (And.intro trivial ?_)
      refine ic_gt hX (1230) 1254 (by decide +kernel) (by decide) (fun c => absurd c (fun z => absurd ((sub6 hn (by omega)).mp z) (by omega))) (fun c_24 => ?_)
      refine bk hX lkL_ok (pc' := 29) [.aload_n 0, .iload_n 3] (by decide +kernel) (And.intro trivial ?_)
      refine hsc.1 _ _ _ _ _ _ i (by omega) (by decide +kernel) ?_
      refine bk hX lkL_ok (pc' := 33) [.bipush 63, .iand] (by decide +kernel) (And.intro trivial ?_)
      obtain ⟨v, hv, ev⟩ := and63 (xs i)
      rw [ev]
      clear ev
      have kk : ∀ (S' : St) (K' N' : Nat → Nat) (R' : Nat → Nat → Option Nat) (I' : Nat → Nat → Int32) (L' : Nat → Nat → Int64) (c s : Nat), Inv S' K' N' R' I' L' → c ≤ cells + 10 → s ≤ slots + 309 → zS X (sg K' N' R' I' L') c s 1248 [(0, .ref 1000), (1, .ref 200), (2, .ref 100), (3, .int (nI i))] [] := by
        intro S1 K1 N1 R1 I1 L1 c1 s1 h1 hc1 hs1
        refine bk hX lkL_ok (pc' := 1251) [.iinc 3 6] (by decide +kernel) (And.intro trivial ?_)
        refine gt_ hX (-1233) 18 (by decide +kernel) (by decide) ?_
        refine z_lvk (lv' := [(0, _), (1, _), (2, _), (3, _)]) [1, 2, 3, 0] rfl ?_
        rw [nI_add]
        exact ih S1 K1 N1 R1 I1 L1 (i + 6) c1 s1 (by omega) (by omega) h1 (by omega) (by omega)
      by_cases h33 : 33 ≤ v
      · refine z_tsw hX 1248 (dflt := 1215) (lo := 0) (hi := 32) (offs := #[147, 180, 213, 246, 279, 328, 371, 394, 407, 430, 453, 486, 519, 542, 585, 608, 641, 685, 719, 752, 775, 808, 821, 854, 867, 880, 923, 946, 979, 1002, 1045, 1118, 1152]) (len := 147) (off := 1215) (by decide +kernel) (Or.inl ⟨Or.inr (by rw [nI_toInt (by omega)]; omega), rfl⟩) (by decide) ?_
        refine z_lvk (lv' := [(0, _), (1, _), (2, _), (3, _)]) [0, 1, 2, 3] rfl ?_
        exact kk S K N R I L cells slots h (by omega) (by omega)
      · rcases (show v = 0 ∨ v = 1 ∨ v = 2 ∨ v = 3 ∨ v = 4 ∨ v = 5 ∨ v = 6 ∨ v = 7 ∨ v = 8 ∨ v = 9 ∨ v = 10 ∨ v = 11 ∨ v = 12 ∨ v = 13 ∨ v = 14 ∨ v = 15 ∨ v = 16 ∨ v = 17 ∨ v = 18 ∨ v = 19 ∨ v = 20 ∨ v = 21 ∨ v = 22 ∨ v = 23 ∨ v = 24 ∨ v = 25 ∨ v = 26 ∨ v = 27 ∨ v = 28 ∨ v = 29 ∨ v = 30 ∨ v = 31 ∨ v = 32 by omega) with rfl | rfl | rfl | rfl | rfl | rfl | rfl | rfl | rfl | rfl | rfl | rfl | rfl | rfl | rfl | rfl | rfl | rfl | rfl | rfl | rfl | rfl | rfl | rfl | rfl | rfl | rfl | rfl | rfl | rfl | rfl | rfl | rfl
        · refine z_tsw hX 180 (dflt := 1215) (lo := 0) (hi := 32) (offs := #[147, 180, 213, 246, 279, 328, 371, 394, 407, 430, 453, 486, 519, 542, 585, 608, 641, 685, 719, 752, 775, 808, 821, 854, 867, 880, 923, 946, 979, 1002, 1045, 1118, 1152]) (len := 147) (off := 147) (by decide +kernel) (by decide) (by decide) ?_
          exact lc_0 hX hsc h (by omega) hn (by omega) (by omega) kk
        · refine z_tsw hX 213 (dflt := 1215) (lo := 0) (hi := 32) (offs := #[147, 180, 213, 246, 279, 328, 371, 394, 407, 430, 453, 486, 519, 542, 585, 608, 641, 685, 719, 752, 775, 808, 821, 854, 867, 880, 923, 946, 979, 1002, 1045, 1118, 1152]) (len := 147) (off := 180) (by decide +kernel) (by decide) (by decide) ?_
          exact lc_1 hX hsc h (by omega) hn (by omega) (by omega) kk
        · refine z_tsw hX 246 (dflt := 1215) (lo := 0) (hi := 32) (offs := #[147, 180, 213, 246, 279, 328, 371, 394, 407, 430, 453, 486, 519, 542, 585, 608, 641, 685, 719, 752, 775, 808, 821, 854, 867, 880, 923, 946, 979, 1002, 1045, 1118, 1152]) (len := 147) (off := 213) (by decide +kernel) (by decide) (by decide) ?_
          exact lc_2 hX hsc h (by omega) hn (by omega) (by omega) kk
        · refine z_tsw hX 279 (dflt := 1215) (lo := 0) (hi := 32) (offs := #[147, 180, 213, 246, 279, 328, 371, 394, 407, 430, 453, 486, 519, 542, 585, 608, 641, 685, 719, 752, 775, 808, 821, 854, 867, 880, 923, 946, 979, 1002, 1045, 1118, 1152]) (len := 147) (off := 246) (by decide +kernel) (by decide) (by decide) ?_
          exact lc_3 hX hsc h (by omega) hn (by omega) (by omega) kk
        · refine z_tsw hX 312 (dflt := 1215) (lo := 0) (hi := 32) (offs := #[147, 180, 213, 246, 279, 328, 371, 394, 407, 430, 453, 486, 519, 542, 585, 608, 641, 685, 719, 752, 775, 808, 821, 854, 867, 880, 923, 946, 979, 1002, 1045, 1118, 1152]) (len := 147) (off := 279) (by decide +kernel) (by decide) (by decide) ?_
          exact lc_4 hX hsc h (by omega) hn (by omega) (by omega) kk
        · refine z_tsw hX 361 (dflt := 1215) (lo := 0) (hi := 32) (offs := #[147, 180, 213, 246, 279, 328, 371, 394, 407, 430, 453, 486, 519, 542, 585, 608, 641, 685, 719, 752, 775, 808, 821, 854, 867, 880, 923, 946, 979, 1002, 1045, 1118, 1152]) (len := 147) (off := 328) (by decide +kernel) (by decide) (by decide) ?_
          exact lc_5 hX hsc h (by omega) hn (by omega) (by omega) kk
        · refine z_tsw hX 404 (dflt := 1215) (lo := 0) (hi := 32) (offs := #[147, 180, 213, 246, 279, 328, 371, 394, 407, 430, 453, 486, 519, 542, 585, 608, 641, 685, 719, 752, 775, 808, 821, 854, 867, 880, 923, 946, 979, 1002, 1045, 1118, 1152]) (len := 147) (off := 371) (by decide +kernel) (by decide) (by decide) ?_
          exact lc_6 hX hsc h (by omega) hn (by omega) (by omega) kk
        · refine z_tsw hX 427 (dflt := 1215) (lo := 0) (hi := 32) (offs := #[147, 180, 213, 246, 279, 328, 371, 394, 407, 430, 453, 486, 519, 542, 585, 608, 641, 685, 719, 752, 775, 808, 821, 854, 867, 880, 923, 946, 979, 1002, 1045, 1118, 1152]) (len := 147) (off := 394) (by decide +kernel) (by decide) (by decide) ?_
          exact lc_7 hX hsc h (by omega) hn (by omega) (by omega) kk
        · refine z_tsw hX 440 (dflt := 1215) (lo := 0) (hi := 32) (offs := #[147, 180, 213, 246, 279, 328, 371, 394, 407, 430, 453, 486, 519, 542, 585, 608, 641, 685, 719, 752, 775, 808, 821, 854, 867, 880, 923, 946, 979, 1002, 1045, 1118, 1152]) (len := 147) (off := 407) (by decide +kernel) (by decide) (by decide) ?_
          exact lc_8 hX hsc h (by omega) hn (by omega) (by omega) kk
        · refine z_tsw hX 463 (dflt := 1215) (lo := 0) (hi := 32) (offs := #[147, 180, 213, 246, 279, 328, 371, 394, 407, 430, 453, 486, 519, 542, 585, 608, 641, 685, 719, 752, 775, 808, 821, 854, 867, 880, 923, 946, 979, 1002, 1045, 1118, 1152]) (len := 147) (off := 430) (by decide +kernel) (by decide) (by decide) ?_
          exact lc_9 hX hsc h (by omega) hn (by omega) (by omega) kk
        · refine z_tsw hX 486 (dflt := 1215) (lo := 0) (hi := 32) (offs := #[147, 180, 213, 246, 279, 328, 371, 394, 407, 430, 453, 486, 519, 542, 585, 608, 641, 685, 719, 752, 775, 808, 821, 854, 867, 880, 923, 946, 979, 1002, 1045, 1118, 1152]) (len := 147) (off := 453) (by decide +kernel) (by decide) (by decide) ?_
          exact lc_10 hX hsc h (by omega) hn (by omega) (by omega) kk
        · refine z_tsw hX 519 (dflt := 1215) (lo := 0) (hi := 32) (offs := #[147, 180, 213, 246, 279, 328, 371, 394, 407, 430, 453, 486, 519, 542, 585, 608, 641, 685, 719, 752, 775, 808, 821, 854, 867, 880, 923, 946, 979, 1002, 1045, 1118, 1152]) (len := 147) (off := 486) (by decide +kernel) (by decide) (by decide) ?_
          exact lc_11 hX hsc h (by omega) hn (by omega) (by omega) kk
        · refine z_tsw hX 552 (dflt := 1215) (lo := 0) (hi := 32) (offs := #[147, 180, 213, 246, 279, 328, 371, 394, 407, 430, 453, 486, 519, 542, 585, 608, 641, 685, 719, 752, 775, 808, 821, 854, 867, 880, 923, 946, 979, 1002, 1045, 1118, 1152]) (len := 147) (off := 519) (by decide +kernel) (by decide) (by decide) ?_
          exact lc_12 hX hsc h (by omega) hn (by omega) (by omega) kk
        · refine z_tsw hX 575 (dflt := 1215) (lo := 0) (hi := 32) (offs := #[147, 180, 213, 246, 279, 328, 371, 394, 407, 430, 453, 486, 519, 542, 585, 608, 641, 685, 719, 752, 775, 808, 821, 854, 867, 880, 923, 946, 979, 1002, 1045, 1118, 1152]) (len := 147) (off := 542) (by decide +kernel) (by decide) (by decide) ?_
          exact lc_13 hX hsc h (by omega) hn (by omega) (by omega) kk
        · refine z_tsw hX 618 (dflt := 1215) (lo := 0) (hi := 32) (offs := #[147, 180, 213, 246, 279, 328, 371, 394, 407, 430, 453, 486, 519, 542, 585, 608, 641, 685, 719, 752, 775, 808, 821, 854, 867, 880, 923, 946, 979, 1002, 1045, 1118, 1152]) (len := 147) (off := 585) (by decide +kernel) (by decide) (by decide) ?_
          exact lc_14 hX hsc h (by omega) hn (by omega) (by omega) kk
        · refine z_tsw hX 641 (dflt := 1215) (lo := 0) (hi := 32) (offs := #[147, 180, 213, 246, 279, 328, 371, 394, 407, 430, 453, 486, 519, 542, 585, 608, 641, 685, 719, 752, 775, 808, 821, 854, 867, 880, 923, 946, 979, 1002, 1045, 1118, 1152]) (len := 147) (off := 608) (by decide +kernel) (by decide) (by decide) ?_
          exact lc_15 hX hsc h (by omega) hn (by omega) (by omega) kk
        · refine z_tsw hX 674 (dflt := 1215) (lo := 0) (hi := 32) (offs := #[147, 180, 213, 246, 279, 328, 371, 394, 407, 430, 453, 486, 519, 542, 585, 608, 641, 685, 719, 752, 775, 808, 821, 854, 867, 880, 923, 946, 979, 1002, 1045, 1118, 1152]) (len := 147) (off := 641) (by decide +kernel) (by decide) (by decide) ?_
          exact lc_16 hX hsc h (by omega) hn (by omega) (by omega) kk
        · refine z_tsw hX 718 (dflt := 1215) (lo := 0) (hi := 32) (offs := #[147, 180, 213, 246, 279, 328, 371, 394, 407, 430, 453, 486, 519, 542, 585, 608, 641, 685, 719, 752, 775, 808, 821, 854, 867, 880, 923, 946, 979, 1002, 1045, 1118, 1152]) (len := 147) (off := 685) (by decide +kernel) (by decide) (by decide) ?_
          exact lc_17 hX hsc h (by omega) hn (by omega) (by omega) kk
        · refine z_tsw hX 752 (dflt := 1215) (lo := 0) (hi := 32) (offs := #[147, 180, 213, 246, 279, 328, 371, 394, 407, 430, 453, 486, 519, 542, 585, 608, 641, 685, 719, 752, 775, 808, 821, 854, 867, 880, 923, 946, 979, 1002, 1045, 1118, 1152]) (len := 147) (off := 719) (by decide +kernel) (by decide) (by decide) ?_
          exact lc_18 hX hsc h (by omega) hn (by omega) (by omega) kk
        · refine z_tsw hX 785 (dflt := 1215) (lo := 0) (hi := 32) (offs := #[147, 180, 213, 246, 279, 328, 371, 394, 407, 430, 453, 486, 519, 542, 585, 608, 641, 685, 719, 752, 775, 808, 821, 854, 867, 880, 923, 946, 979, 1002, 1045, 1118, 1152]) (len := 147) (off := 752) (by decide +kernel) (by decide) (by decide) ?_
          exact lc_19 hX hsc h (by omega) hn (by omega) (by omega) kk
        · refine z_tsw hX 808 (dflt := 1215) (lo := 0) (hi := 32) (offs := #[147, 180, 213, 246, 279, 328, 371, 394, 407, 430, 453, 486, 519, 542, 585, 608, 641, 685, 719, 752, 775, 808, 821, 854, 867, 880, 923, 946, 979, 1002, 1045, 1118, 1152]) (len := 147) (off := 775) (by decide +kernel) (by decide) (by decide) ?_
          exact lc_20 hX hsc h (by omega) hn (by omega) (by omega) kk
        · refine z_tsw hX 841 (dflt := 1215) (lo := 0) (hi := 32) (offs := #[147, 180, 213, 246, 279, 328, 371, 394, 407, 430, 453, 486, 519, 542, 585, 608, 641, 685, 719, 752, 775, 808, 821, 854, 867, 880, 923, 946, 979, 1002, 1045, 1118, 1152]) (len := 147) (off := 808) (by decide +kernel) (by decide) (by decide) ?_
          exact lc_21 hX hsc h (by omega) hn (by omega) (by omega) kk
        · refine z_tsw hX 854 (dflt := 1215) (lo := 0) (hi := 32) (offs := #[147, 180, 213, 246, 279, 328, 371, 394, 407, 430, 453, 486, 519, 542, 585, 608, 641, 685, 719, 752, 775, 808, 821, 854, 867, 880, 923, 946, 979, 1002, 1045, 1118, 1152]) (len := 147) (off := 821) (by decide +kernel) (by decide) (by decide) ?_
          exact lc_22 hX hsc h (by omega) hn (by omega) (by omega) kk
        · refine z_tsw hX 887 (dflt := 1215) (lo := 0) (hi := 32) (offs := #[147, 180, 213, 246, 279, 328, 371, 394, 407, 430, 453, 486, 519, 542, 585, 608, 641, 685, 719, 752, 775, 808, 821, 854, 867, 880, 923, 946, 979, 1002, 1045, 1118, 1152]) (len := 147) (off := 854) (by decide +kernel) (by decide) (by decide) ?_
          exact lc_23 hX hsc h (by omega) hn (by omega) (by omega) kk
        · refine z_tsw hX 900 (dflt := 1215) (lo := 0) (hi := 32) (offs := #[147, 180, 213, 246, 279, 328, 371, 394, 407, 430, 453, 486, 519, 542, 585, 608, 641, 685, 719, 752, 775, 808, 821, 854, 867, 880, 923, 946, 979, 1002, 1045, 1118, 1152]) (len := 147) (off := 867) (by decide +kernel) (by decide) (by decide) ?_
          exact lc_24 hX hsc h (by omega) hn (by omega) (by omega) kk
        · refine z_tsw hX 913 (dflt := 1215) (lo := 0) (hi := 32) (offs := #[147, 180, 213, 246, 279, 328, 371, 394, 407, 430, 453, 486, 519, 542, 585, 608, 641, 685, 719, 752, 775, 808, 821, 854, 867, 880, 923, 946, 979, 1002, 1045, 1118, 1152]) (len := 147) (off := 880) (by decide +kernel) (by decide) (by decide) ?_
          exact lc_25 hX hsc h (by omega) hn (by omega) (by omega) kk
        · refine z_tsw hX 956 (dflt := 1215) (lo := 0) (hi := 32) (offs := #[147, 180, 213, 246, 279, 328, 371, 394, 407, 430, 453, 486, 519, 542, 585, 608, 641, 685, 719, 752, 775, 808, 821, 854, 867, 880, 923, 946, 979, 1002, 1045, 1118, 1152]) (len := 147) (off := 923) (by decide +kernel) (by decide) (by decide) ?_
          exact lc_26 hX hsc h (by omega) hn (by omega) (by omega) kk
        · refine z_tsw hX 979 (dflt := 1215) (lo := 0) (hi := 32) (offs := #[147, 180, 213, 246, 279, 328, 371, 394, 407, 430, 453, 486, 519, 542, 585, 608, 641, 685, 719, 752, 775, 808, 821, 854, 867, 880, 923, 946, 979, 1002, 1045, 1118, 1152]) (len := 147) (off := 946) (by decide +kernel) (by decide) (by decide) ?_
          exact lc_27 hX hsc h (by omega) hn (by omega) (by omega) kk
        · refine z_tsw hX 1012 (dflt := 1215) (lo := 0) (hi := 32) (offs := #[147, 180, 213, 246, 279, 328, 371, 394, 407, 430, 453, 486, 519, 542, 585, 608, 641, 685, 719, 752, 775, 808, 821, 854, 867, 880, 923, 946, 979, 1002, 1045, 1118, 1152]) (len := 147) (off := 979) (by decide +kernel) (by decide) (by decide) ?_
          exact lc_28 hX hsc h (by omega) hn (by omega) (by omega) kk
        · refine z_tsw hX 1035 (dflt := 1215) (lo := 0) (hi := 32) (offs := #[147, 180, 213, 246, 279, 328, 371, 394, 407, 430, 453, 486, 519, 542, 585, 608, 641, 685, 719, 752, 775, 808, 821, 854, 867, 880, 923, 946, 979, 1002, 1045, 1118, 1152]) (len := 147) (off := 1002) (by decide +kernel) (by decide) (by decide) ?_
          exact lc_29 hX hsc h (by omega) hn (by omega) (by omega) kk
        · refine z_tsw hX 1078 (dflt := 1215) (lo := 0) (hi := 32) (offs := #[147, 180, 213, 246, 279, 328, 371, 394, 407, 430, 453, 486, 519, 542, 585, 608, 641, 685, 719, 752, 775, 808, 821, 854, 867, 880, 923, 946, 979, 1002, 1045, 1118, 1152]) (len := 147) (off := 1045) (by decide +kernel) (by decide) (by decide) ?_
          exact lc_30 hX hsc h (by omega) hn (by omega) (by omega) kk
        · refine z_tsw hX 1151 (dflt := 1215) (lo := 0) (hi := 32) (offs := #[147, 180, 213, 246, 279, 328, 371, 394, 407, 430, 453, 486, 519, 542, 585, 608, 641, 685, 719, 752, 775, 808, 821, 854, 867, 880, 923, 946, 979, 1002, 1045, 1118, 1152]) (len := 147) (off := 1118) (by decide +kernel) (by decide) (by decide) ?_
          exact lc_31 hX hsc h (by omega) hn (by omega) (by omega) kk
        · refine z_tsw hX 1185 (dflt := 1215) (lo := 0) (hi := 32) (offs := #[147, 180, 213, 246, 279, 328, 371, 394, 407, 430, 453, 486, 519, 542, 585, 608, 641, 685, 719, 752, 775, 808, 821, 854, 867, 880, 923, 946, 979, 1002, 1045, 1118, 1152]) (len := 147) (off := 1152) (by decide +kernel) (by decide) (by decide) ?_
          exact lc_32 hX hsc h (by omega) hn (by omega) (by omega) kk
/-! ===== where all begins ===== -/
def k00 (p : Nat) : Nat := bif Nat.blt p 900 then 0 else bif Nat.blt p 904 then 30 else bif Nat.blt p 910 then 0 else bif Nat.blt p 914 then 31 else bif Nat.beq p 1000 then 32 else 0
def s00 : Sg := (k00, fun _ => 0, fun _ _ => 0, fun _ _ => 0, fun _ _ => none)
def s01 : Sg := zNewO s00 200 12
def s02 : Sg := zNewO (x11P s01) 100 13
def s03 : Sg := x12P s02
/-- no reference there -/
def nR (p k : Nat) (σ : Sg) : Prop := σ.2.2.2.2 p k = none
theorem nR_I {p k : Nat} {σ : Sg} (h : nR p k σ) (o j : Nat) (v : Int32) : nR p k (pI σ o j v) := h
theorem nR_R {p k : Nat} {σ : Sg} (h : nR p k σ) {o j : Nat} (v : Option Nat) (hn : p ≠ o ∨ k ≠ j) : nR p k (pR σ o j v) := by
  show up2 σ.2.2.2.2 o j v p k = none
  by_cases e : p = o
  · subst e
    rw [up2_at, if_neg (by omega)]
    exact h
  · rw [up2_ne _ _ _ e]
    exact h
theorem nR_A {p k : Nat} {σ : Sg} (h : nR p k σ) (n t len : Nat) : nR p k (zNewA σ n t len) := by
  show upW σ.2.2.2.2 n none p k = none
  by_cases e : p = n
  · subst e; exact upW_at _ _ _ _
  · rw [upW_ne _ _ e]; exact h
theorem nR_O {p k : Nat} {σ : Sg} (h : nR p k σ) (n ci : Nat) : nR p k (zNewO σ n ci) := by
  show upW σ.2.2.2.2 n none p k = none
  by_cases e : p = n
  · subst e; exact upW_at _ _ _ _
  · rw [upW_ne _ _ e]; exact h
theorem nR_8 {p k : Nat} {σ : Sg} (h : nR p k σ) {o : Nat} (n : Nat) (hn : p ≠ o ∨ 3 ≤ k) : nR p k (x8P σ o n) := nR_R (nR_A (nR_R (nR_A (nR_R (nR_A h _ _ _) _ (by omega)) _ _ _) _ (by omega)) _ _ _) _ (by omega)
theorem nR_x1300 {p k : Nat} {σ : Sg} (h : nR p k σ) (hn : (p ≠ 300 ∧ p ≠ 310 ∧ p ≠ 314 ∧ p ≠ 318) ∨ 80 ≤ k) : nR p k (x1P300 σ) := by
  unfold x1P300
  repeat first
    | exact h
    | refine nR_I ?_ _ _ _
    | refine nR_A ?_ _ _ _
    | refine nR_O ?_ _ _
    | refine nR_8 ?_ _ (by omega)
    | refine nR_R ?_ _ (by omega)
theorem nR_x1340 {p k : Nat} {σ : Sg} (h : nR p k σ) (hn : (p ≠ 340 ∧ p ≠ 350 ∧ p ≠ 354 ∧ p ≠ 358) ∨ 80 ≤ k) : nR p k (x1P340 σ) := by
  unfold x1P340
  repeat first
    | exact h
    | refine nR_I ?_ _ _ _
    | refine nR_A ?_ _ _ _
    | refine nR_O ?_ _ _
    | refine nR_8 ?_ _ (by omega)
    | refine nR_R ?_ _ (by omega)
theorem nR_x1380 {p k : Nat} {σ : Sg} (h : nR p k σ) (hn : (p ≠ 380 ∧ p ≠ 390 ∧ p ≠ 394 ∧ p ≠ 398) ∨ 80 ≤ k) : nR p k (x1P380 σ) := by
  unfold x1P380
  repeat first
    | exact h
    | refine nR_I ?_ _ _ _
    | refine nR_A ?_ _ _ _
    | refine nR_O ?_ _ _
    | refine nR_8 ?_ _ (by omega)
    | refine nR_R ?_ _ (by omega)
theorem nR_x11 {p k : Nat} {σ : Sg} (h : nR p k σ) (hn : (p ≠ 100 ∧ p ≠ 200 ∧ p ≠ 208 ∧ p ≠ 300 ∧ p ≠ 310 ∧ p ≠ 314 ∧ p ≠ 318 ∧ p ≠ 340 ∧ p ≠ 350 ∧ p ≠ 354 ∧ p ≠ 358 ∧ p ≠ 380 ∧ p ≠ 390 ∧ p ≠ 394 ∧ p ≠ 398) ∨ 80 ≤ k) : nR p k (x11P σ) := by
  unfold x11P fiP
  show nR p k _
  unfold xJP
  repeat first
    | exact h
    | refine nR_x1300 ?_ (by omega)
    | refine nR_x1340 ?_ (by omega)
    | refine nR_x1380 ?_ (by omega)
    | refine nR_I ?_ _ _ _
    | refine nR_A ?_ _ _ _
    | refine nR_O ?_ _ _
    | refine nR_R ?_ _ (by omega)
set_option maxHeartbeats 4000000 in
set_option maxRecDepth 4000 in
theorem nR_x12 {p k : Nat} {σ : Sg} (h : nR p k σ) (hn : p ≠ 100 ∨ 80 ≤ k) : nR p k (x12P σ) := by
  unfold x12P
  repeat first
    | exact h
    | refine nR_I ?_ _ _ _
    | refine nR_A ?_ _ _ _
    | refine nR_R ?_ _ (by omega)
theorem s03_none {p k : Nat} (hn : (p ≠ 100 ∧ p ≠ 200 ∧ p ≠ 208 ∧ p ≠ 300 ∧ p ≠ 310 ∧ p ≠ 314 ∧ p ≠ 318 ∧ p ≠ 340 ∧ p ≠ 350 ∧ p ≠ 354 ∧ p ≠ 358 ∧ p ≠ 380 ∧ p ≠ 390 ∧ p ≠ 394 ∧ p ≠ 398) ∨ 80 ≤ k) : s03.2.2.2.2 p k = none := nR_x12 (nR_O (nR_x11 (nR_O (show nR p k s00 from rfl) _ _) hn) _ _) (by omega)
theorem s03_K : ∀ p, p < 1000 → s03.1 p = kF s03.1 p := by decide +kernel
theorem s03_N : ∀ p, p < 1000 → s03.2.1 p = nF s03.2.1 p := by decide +kernel
theorem s03_R : ∀ p ∈ [100, 200, 208, 300, 310, 314, 318, 340, 350, 354, 358, 380, 390, 394, 398], ∀ k, k < 80 → s03.2.2.2.2 p k = rF s03.2.2.2.2 p k := by decide +kernel
theorem zget_big : ∀ (l : List Nat) (k : Nat), l.length ≤ k → zget l k = 0
  | [], _, _ => rfl
  | _ :: l, 0, h => absurd h (Nat.not_succ_le_zero _)
  | _ :: l, k + 1, h => zget_big l k (Nat.le_of_succ_le_succ h)
theorem rS_big {l : List Nat} {b k : Nat} (h : l.length ≤ k + 1) : rS l b k = none := by
  unfold rS
  rw [zget_big l _ h]
  rfl
theorem rG_none {R : Nat → Nat → Option Nat} {g u k : Nat} (h : (u ≠ 0 ∧ u ≠ 10 ∧ u ≠ 14 ∧ u ≠ 18) ∨ 80 ≤ k) (hR : u = 1 → R (g + 1) k = none) : rG R g u k = none := by
  unfold rG
  simp only [Bool.cond_eq_ite, Nat.beq_eq, Bool.or_eq_true, Nat.blt_eq]
  repeat' split
  all_goals first
    | rfl
    | exact hR (by omega)
    | omega
theorem rF_none {R : Nat → Nat → Option Nat} {p k : Nat} (hp : p < 1000) (hn : (p ≠ 100 ∧ p ≠ 200 ∧ p ≠ 208 ∧ p ≠ 300 ∧ p ≠ 310 ∧ p ≠ 314 ∧ p ≠ 318 ∧ p ≠ 340 ∧ p ≠ 350 ∧ p ≠ 354 ∧ p ≠ 358 ∧ p ≠ 380 ∧ p ≠ 390 ∧ p ≠ 394 ∧ p ≠ 398) ∨ 80 ≤ k) (hR : R p k = none) : rF R p k = none := by
  unfold rF
  simp only [Bool.cond_eq_ite, Nat.beq_eq, Nat.blt_eq]
  rw [if_pos hp]
  repeat' split
  all_goals first
    | rfl
    | exact rS_big (by show 71 ≤ k + 1; omega)
    | exact rS_big (by show 21 ≤ k + 1; omega)
    | omega
    | exact rG_none (by omega) (fun z => by rw [show 300 + 1 = p by omega]; exact hR)
    | exact rG_none (by omega) (fun z => by rw [show 340 + 1 = p by omega]; exact hR)
    | exact rG_none (by omega) (fun z => by rw [show 380 + 1 = p by omega]; exact hR)
theorem s03_eq : s03 = sg s03.1 s03.2.1 s03.2.2.2.2 s03.2.2.1 s03.2.2.2.1 := by
  have e1 : s03.1 = kF s03.1 := funext fun p => by
    by_cases h : p < 1000
    · exact s03_K p h
    · exact (kF_hi _ (by omega)).symm
  have e2 : s03.2.1 = nF s03.2.1 := funext fun p => by
    by_cases h : p < 1000
    · exact s03_N p h
    · exact (nF_hi _ (by omega)).symm
  have e3 : s03.2.2.2.2 = rF s03.2.2.2.2 := funext fun p => funext fun k => by
    by_cases h : p < 1000
    · by_cases hq : (p ≠ 100 ∧ p ≠ 200 ∧ p ≠ 208 ∧ p ≠ 300 ∧ p ≠ 310 ∧ p ≠ 314 ∧ p ≠ 318 ∧ p ≠ 340 ∧ p ≠ 350 ∧ p ≠ 354 ∧ p ≠ 358 ∧ p ≠ 380 ∧ p ≠ 390 ∧ p ≠ 394 ∧ p ≠ 398) ∨ 80 ≤ k
      · rw [rF_none h hq (s03_none hq)]; exact s03_none hq
      · exact s03_R p (by simp; omega) k (by omega)
    · exact (rF_hi _ (by omega) k).symm
  show (s03.1, s03.2.1, s03.2.2.1, s03.2.2.2.1, s03.2.2.2.2) = (kF s03.1, nF s03.2.1, s03.2.2.1, s03.2.2.2.1, rF s03.2.2.2.2)
  rw [← e1, ← e2, ← e3]
/-- nothing lies there -/
def kZ (p : Nat) (σ : Sg) : Prop := σ.1 p = 0
theorem kZ_A {p : Nat} {σ : Sg} (h : kZ p σ) {n : Nat} (t len : Nat) (hn : p ≠ n) : kZ p (zNewA σ n t len) := (upK_ne _ _ hn).trans h
theorem kZ_O {p : Nat} {σ : Sg} (h : kZ p σ) {n : Nat} (ci : Nat) (hn : p ≠ n) : kZ p (zNewO σ n ci) := (upK_ne _ _ hn).trans h
theorem kZ_I {p : Nat} {σ : Sg} (h : kZ p σ) (o j : Nat) (v : Int32) : kZ p (pI σ o j v) := h
theorem kZ_R {p : Nat} {σ : Sg} (h : kZ p σ) (o j : Nat) (v : Option Nat) : kZ p (pR σ o j v) := h
set_option maxHeartbeats 4000000 in
set_option maxRecDepth 4000 in
theorem kZ_x12 {p : Nat} {σ : Sg} (h : kZ p σ) (hp : 1000 < p) : kZ p (x12P σ) := by
  unfold x12P
  repeat first
    | exact h
    | refine kZ_I ?_ _ _ _
    | refine kZ_A ?_ _ _ (by omega)
    | refine kZ_R ?_ _ _ _
theorem kZ_x11 {p : Nat} {σ : Sg} (h : kZ p σ) (hp : 1000 < p) : kZ p (x11P σ) := by
  unfold x11P fiP
  show kZ p _
  unfold xJP x1P300 x1P340 x1P380 x8P
  repeat first
    | exact h
    | refine kZ_I ?_ _ _ _
    | refine kZ_A ?_ _ _ (by omega)
    | refine kZ_O ?_ _ (by omega)
    | refine kZ_R ?_ _ _ _
theorem s03_fre : fre s03.1 := ⟨1001, by decide, fun q hq => kZ_x12 (kZ_O (kZ_x11 (kZ_O (show k00 q = 0 by
  unfold k00
  simp only [Bool.cond_eq_ite, Nat.beq_eq, Nat.blt_eq]
  repeat' split
  all_goals first
    | rfl
    | omega) _ (by omega)) (by omega)) _ (by omega)) (by omega)⟩
def g00 : Gv := (0, (fun _ => 0), (fun _ => 0), (fun _ => 0), (fun _ => 0), (fun _ => 0), 0, 0)
def r00 : Rw := (0, (fun _ => 0), (fun _ => 0), (fun _ => 0))
def T00 : Tp := ((fun _ => -nI 1), (fun _ => 0), (fun _ _ => 0))
def S00 : St := stM (kpM g00 none r00 r00 r00) (fun _ => []) 0 [] [] T00 none
theorem s00_inv : Inv S00 s03.1 s03.2.1 s03.2.2.2.2 s03.2.2.1 s03.2.2.2.1 := by
  have z0 : ∀ {P : Nat → Prop} (k : Nat), k < 0 → P k := fun k hk => absurd hk (Nat.not_lt_zero _)
  refine ⟨⟨⟨⟨by decide, fun p hp => absurd hp (Nat.not_lt_zero _), fun p q hp => absurd hp (Nat.not_lt_zero _)⟩, by decide, ⟨0, by decide, rfl⟩, fun f hf => (by cases hf), ⟨by decide, fun k hk => absurd hk (Nat.not_lt_zero _)⟩, ⟨by decide, fun k hk => absurd hk (Nat.not_lt_zero _)⟩, ⟨by decide, fun k hk => absurd hk (Nat.not_lt_zero _)⟩⟩, fun k hk => (by cases hk), by decide, fun f hf => absurd hf (Nat.not_lt_zero _), txw_nil, fun t ht => ⟨Or.inl ⟨rfl, rfl⟩, by decide⟩⟩, ?_, ?_⟩
  · refine ⟨⟨⟨by decide +kernel, by decide +kernel, by decide +kernel, fun p hp => absurd hp (Nat.not_lt_zero _)⟩, by decide +kernel, ⟨by decide +kernel, by decide, fun k hk => absurd hk (Nat.not_lt_zero _)⟩, ⟨by decide +kernel, by decide, fun k hk => absurd hk (Nat.not_lt_zero _)⟩, ⟨by decide +kernel, by decide, fun k hk => absurd hk (Nat.not_lt_zero _)⟩⟩, (show s03.2.2.1 100 44 = 0 by decide +kernel), by decide +kernel, fun f hf => absurd hf (Nat.not_lt_zero _), mTx_nil (by decide +kernel), ⟨by decide +kernel, by decide, fun k hk => absurd hk (Nat.not_lt_zero _)⟩, fun t ht => ?_, ?_⟩
    · have := (show ∀ t, t < 6 → s03.2.2.1 167 t = -nI 1 ∧ s03.2.2.1 168 t = nI 0 by decide +kernel) t ht
      exact ⟨this.1, this.2, fun i hi => absurd hi (Nat.not_lt_zero _)⟩
    · exact (show ∀ k, k < 13 → s03.2.2.1 125 k = nI (zget [103, 108, 97, 100, 115, 111, 117, 114, 114, 111, 117, 110, 100] k) by decide +kernel)
  · refine ⟨⟨⟨by decide +kernel, by decide +kernel, by decide +kernel, fun p hp => absurd hp (Nat.not_lt_zero _)⟩, Or.inl ⟨by decide +kernel, rfl⟩, fun p hp q hq => ?_, ⟨by decide +kernel, fun k hk => absurd hk (Nat.not_lt_zero _)⟩, ⟨by decide +kernel, fun k hk => absurd hk (Nat.not_lt_zero _)⟩, ⟨by decide +kernel, fun k hk => absurd hk (Nat.not_lt_zero _)⟩, fun q _ hq => ?_, fun q _ hq => ?_⟩, (show s03.2.2.1 200 3 = 0 by decide +kernel), by decide +kernel, xTx_nil (by decide +kernel), ⟨by decide +kernel, by decide +kernel, by decide, fun x hx => absurd hx List.not_mem_nil, fun k hk => absurd hk (Nat.not_lt_zero _)⟩, fun t ht => ?_, s03_fre⟩
    · have := (show ∀ p, p < 6 → s03.2.2.2.2 301 p = none by decide +kernel) p hp
      rw [show (300 + 1 : Nat) = 301 from rfl, this] at hq
      cases hq
    · exact (show ∀ q, q < 6 → s03.2.2.1 302 q = 0 by decide +kernel) q hq
    · exact (show ∀ q, q < 24 → s03.2.2.1 304 q = 0 by decide +kernel) q hq
    · have := (show ∀ t, t < 6 → s03.2.2.1 211 t = -nI 1 ∧ s03.2.2.1 212 t = nI 0 by decide +kernel) t ht
      exact ⟨this.1, this.2, fun i hi => absurd hi (Nat.not_lt_zero _)⟩
theorem law_all {X : zX} {E : zE} (hX : zD X E mL 100 600000 7302250 PoL) {n : Nat} {xs : Nat → Int32} (hsc : scR X n xs) (hn : n ≤ 3072) : zS X s00 0 0 0 [(0, .ref 1000)] [] := by
  refine z_new hX nw_L_7 200 (by decide +kernel) (by decide +kernel) (by decide) (by decide) ?_
  show zS X s01 (0 + 1) (0 + 13) _ _ _
  refine bk hX lkL_ok (pc' := 4) [.dup] (by decide +kernel) (And.intro trivial ?_)
  refine z_callI hX kw_L_9 (c_X11_init E s01 (by decide +kernel) (show ∀ p ∈ [300, 301, 302, 303, 304, 310, 311, 312, 313, 314, 315, 316, 317, 318, 319, 320, 321, 340, 341, 342, 343, 344, 350, 351, 352, 353, 354, 355, 356, 357, 358, 359, 360, 361, 380, 381, 382, 383, 384, 390, 391, 392, 393, 394, 395, 396, 397, 398, 399, 400, 401, 205, 208, 220, 209, 210, 211, 212, 213], s01.1 p = 0 from by decide +kernel)) rfl rfl (by decide +kernel) (by decide) (by decide) (by decide) (by decide) (Nat.le_of_ble_eq_true rfl) ?_
  rintro _ _ ⟨rfl, rfl⟩
  refine bk hX lkL_ok (pc' := 8) [.astore_n 1] (by decide +kernel) (And.intro trivial ?_)
  refine z_new hX nw_L_10 100 (by decide +kernel) (by decide +kernel) (by decide) (by decide) ?_
  show zS X s02 (0 + 1 + 59 + 1) (0 + 13 + 994 + 70) _ _ _
  refine bk hX lkL_ok (pc' := 12) [.dup] (by decide +kernel) (And.intro trivial ?_)
  refine z_callI hX kw_L_12 (c_X12_init E s02 (by decide +kernel) (show ∀ p ∈ [104, 105, 106, 107, 108, 114, 115, 116, 117, 118, 119, 120, 121, 125, 126, 127, 130, 131, 132, 133, 134, 136, 137, 138, 141, 142, 143, 144, 153, 154, 155, 156, 157, 158, 159, 160, 161, 162, 163, 164, 166, 167, 168, 169, 170], s02.1 p = 0 from by decide +kernel)) rfl rfl (by decide +kernel) (by decide) (by decide) (by decide) (by decide) (Nat.le_of_ble_eq_true rfl) ?_
  rintro _ _ ⟨rfl, rfl⟩
  show zS X s03 _ _ _ _ _
  rw [s03_eq]
  refine bk hX lkL_ok (pc' := 18) [.astore_n 2, .iconst 0, .istore_n 3] (by decide +kernel) (And.intro trivial ?_)
  refine z_lvk (lv' := [(0, _), (1, _), (2, _), (3, _)]) [3, 2, 1, 0] rfl ?_
  exact law_loop hX hsc hn (n / 6) S00 _ _ _ _ _ 0 _ _ (by omega) (by omega) s00_inv (by omega) (by omega)
