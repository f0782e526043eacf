theorem law_all {X : zX} {E : zE} (hX : zD X E mL 100 600000 7302250 PoL) {n : Nat} {xs : Nat → Int32} (hsc : scR X n xs) (hn : n ≤ 3072) : zS X s00 0 0 0 [(0, .ref 1000)] [] := by
  refine z_new hX nw_L_7 200 (by decide +kernel) (by decide +kernel) (by decide) (by decide) ?_
  show zS X s01 (0 + 1) (0 + 13) _ _ _
  refine bk hX lkL_ok (pc' := 4) [.dup] (by decide +kernel) (And.intro trivial ?_)
  refine z_callI hX kw_L_9 (c_X11_init E s01 (by decide +kernel) (show ∀ p ∈ [300, 301, 302, 303, 304, 310, 311, 312, 313, 314, 315, 316, 317, 318, 319, 320, 321, 340, 341, 342, 343, 344, 350, 351, 352, 353, 354, 355, 356, 357, 358, 359, 360, 361, 380, 381, 382, 383, 384, 390, 391, 392, 393, 394, 395, 396, 397, 398, 399, 400, 401, 205, 208, 220, 209, 210, 211, 212, 213], s01.1 p = 0 from by decide +kernel)) rfl rfl (by decide +kernel) (by decide) (by decide) (by decide) (by decide) (Nat.le_of_ble_eq_true rfl) ?_
  rintro _ _ ⟨rfl, rfl⟩
  refine bk hX lkL_ok (pc' := 8) [.astore_n 1] (by decide +kernel) (And.intro trivial ?_)
  refine z_new hX nw_L_10 100 (by decide +kernel) (by decide +kernel) (by decide) (by decide) ?_
  show zS X s02 (0 + 1 + 59 + 1) (0 + 13 + 994 + 70) _ _ _
  refine bk hX lkL_ok (pc' := 12) [.dup] (by decide +kernel) (And.intro trivial ?_)
  refine z_callI hX kw_L_12 (c_X12_init E s02 (by decide +kernel) (show ∀ p ∈ [104, 105, 106, 107, 108, 114, 115, 116, 117, 118, 119, 120, 121, 125, 126, 127, 130, 131, 132, 133, 134, 136, 137, 138, 141, 142, 143, 144, 153, 154, 155, 156, 157, 158, 159, 160, 161, 162, 163, 164, 166, 167, 168, 169, 170], s02.1 p = 0 from by decide +kernel)) rfl rfl (by decide +kernel) (by decide) (by decide) (by decide) (by decide) (Nat.le_of_ble_eq_true rfl) ?_
  rintro _ _ ⟨rfl, rfl⟩
  show zS X s03 _ _ _ _ _
  refine s03_go ?_
  rw [s03_eq]
  refine bk hX lkL_ok (pc' := 18) [.astore_n 2, .iconst 0, .istore_n 3] (by decide +kernel) (And.intro trivial ?_)
  refine z_lvk (lv' := [(0, _), (1, _), (2, _), (3, _)]) [3, 2, 1, 0] rfl ?_
  exact law_loop hX hsc hn (n / 6) S00 _ _ _ _ _ 0 _ _ (by omega) (by omega) s00_inv (by omega) (by omega)
