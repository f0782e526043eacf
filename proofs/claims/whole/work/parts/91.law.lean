/-! ===== the law: each call ===== -/
abbrev mL : zM := (x, code, maxLocals, ret)
abbrev PoL : Option Value → Sg → Prop := fun r _ => r = some (.int 1)
/-- the script can be read -/
def scR (X : zX) (n : Nat) (xs : Nat → Int32) : Prop := (∀ (σ : Sg) (cells slots pc : Nat) (lv : List (Nat × Value)) (st : List Value) (k : Nat), k < n → decode mL.2.1 pc = .ok (.iaload, 1) → zS X σ cells slots (pc + 1) lv (.int (xs k) :: st) → zS X σ cells slots pc lv (.int (nI k) :: .ref 1000 :: st)) ∧
  ∀ (σ : Sg) (cells slots pc : Nat) (lv : List (Nat × Value)) (st : List Value), decode mL.2.1 pc = .ok (.arraylength, 1) → zS X σ cells slots (pc + 1) lv (.int (nI n) :: st) → zS X σ cells slots pc lv (.ref 1000 :: st)
theorem lg_same (z : Int64) : lg_cmp z z = 0 := by simp [lg_cmp]
theorem lc_0 {X : zX} {E : zE} (hX : zD X E mL 100 600000 7302250 PoL) {n : Nat} {xs : Nat → Int32} (hsc : scR X n xs) {S : St} {K N : Nat → Nat} {R : Nat → Nat → Option Nat} {I : Nat → Nat → Int32} {L : Nat → Nat → Int64} (h : Inv S K N R I L) {i : Nat} (hi : i + 6 ≤ n) (hn : n ≤ 3072) {cells slots : Nat} (hc : cells + 10 ≤ 600000) (hs : slots + 309 ≤ 7302250) (kk : ∀ (S' : St) (K' N' : Nat → Nat) (R' : Nat → Nat → Option Nat) (I' : Nat → Nat → Int32) (L' : Nat → Nat → Int64) (c s : Nat), Inv S' K' N' R' I' L' → c ≤ cells + 10 → s ≤ slots + 309 → zS X (sg K' N' R' I' L') c s 1248 [(0, .ref 1000), (1, .ref 200), (2, .ref 100), (3, .int (nI i))] []) : zS X (sg K N R I L) cells slots 180 [(0, .ref 1000), (1, .ref 200), (2, .ref 100), (3, .int (nI i))] [] := by
  have hw := h.1
  have hm := h.2.1
  have hx := h.2.2
  have hk := hw.1
  have hg := hk.1
  have hd := hk.2.1
  have hok := wok_th hw hk
  have hT := hw.2.2.2.2.2
  have hN : xN S.k.g (thW S.ml S.k.th) K N R I := ⟨hx.1.1, hx.1.2.1, hx.1.2.2.1⟩
  refine bk hX lkL_ok (pc' := 185) [.aload_n 1, .aload_n 0, .iload_n 3, .iconst 1, .iadd] (by decide +kernel) (And.intro trivial ?_)
  rw [nI_add]
  refine hsc.1 _ _ _ _ _ _ (i + 1) (by omega) (by decide +kernel) ?_
  refine bk hX lkL_ok (pc' := 190) [.aload_n 0, .iload_n 3, .iconst 2, .iadd] (by decide +kernel) (And.intro trivial ?_)
  rw [nI_add]
  refine hsc.1 _ _ _ _ _ _ (i + 2) (by omega) (by decide +kernel) ?_
  refine z_callV hX kw_L_13 (c_X_worker E K N R I L hg hx.1.1 hx.1.2.2.2.2.2.2.1 hx.1.2.2.2.2.2.2.2 hk.2.2.1 hx.2.2.2.2.2.2 (xs (i + 1)) (xs (i + 2))) rfl rfl rfl rfl rfl (by decide +kernel) (by decide) (by decide) (by omega) (by omega) (Nat.le_of_ble_eq_true rfl) ?_
  rintro _ _ ⟨K1, R1, I1, rfl, rfl, y1, gr, hf, eR, eH, e, e4⟩
  have hm1 : mInv S I1 L := mInv_o rfl (fun q hq => e q (by omega) (by omega) (by omega)) hm
  refine bk hX lkL_ok (pc' := 199) [.aload_n 2, .aload_n 0, .iload_n 3, .iconst 1, .iadd] (by decide +kernel) (And.intro trivial ?_)
  rw [nI_add]
  refine hsc.1 _ _ _ _ _ _ (i + 1) (by omega) (by decide +kernel) ?_
  refine bk hX lkL_ok (pc' := 204) [.aload_n 0, .iload_n 3, .iconst 2, .iadd] (by decide +kernel) (And.intro trivial ?_)
  rw [nI_add]
  refine hsc.1 _ _ _ _ _ _ (i + 2) (by omega) (by decide +kernel) ?_
  refine z_callV hX kw_L_17 (c_M_worker E K1 N R1 I1 L hg hm1.1.1 (xs (i + 1)) (xs (i + 2))) rfl rfl rfl rfl rfl (by decide +kernel) (by decide) (by decide) (by omega) (by omega) (Nat.le_of_ble_eq_true rfl) ?_
  rintro _ _ ⟨I2, rfl, rfl, y2, f⟩
  refine ic_eq hX (1040) 1248 (by decide +kernel) (by decide) (fun c_208 => ?_) (fun c => absurd (rfl) c)
  refine z_lvk (lv' := [(0, _), (1, _), (2, _), (3, _)]) [0, 1, 2, 3] rfl ?_
  exact kk _ _ _ _ _ _ _ _ (iv_work h (xs (i + 1)) (xs (i + 2)) y1 gr hf eR eH e y2 f) (by omega) (by omega)
theorem lc_1 {X : zX} {E : zE} (hX : zD X E mL 100 600000 7302250 PoL) {n : Nat} {xs : Nat → Int32} (hsc : scR X n xs) {S : St} {K N : Nat → Nat} {R : Nat → Nat → Option Nat} {I : Nat → Nat → Int32} {L : Nat → Nat → Int64} (h : Inv S K N R I L) {i : Nat} (hi : i + 6 ≤ n) (hn : n ≤ 3072) {cells slots : Nat} (hc : cells + 10 ≤ 600000) (hs : slots + 309 ≤ 7302250) (kk : ∀ (S' : St) (K' N' : Nat → Nat) (R' : Nat → Nat → Option Nat) (I' : Nat → Nat → Int32) (L' : Nat → Nat → Int64) (c s : Nat), Inv S' K' N' R' I' L' → c ≤ cells + 10 → s ≤ slots + 309 → zS X (sg K' N' R' I' L') c s 1248 [(0, .ref 1000), (1, .ref 200), (2, .ref 100), (3, .int (nI i))] []) : zS X (sg K N R I L) cells slots 213 [(0, .ref 1000), (1, .ref 200), (2, .ref 100), (3, .int (nI i))] [] := by
  have hw := h.1
  have hm := h.2.1
  have hx := h.2.2
  have hk := hw.1
  have hg := hk.1
  have hd := hk.2.1
  have hok := wok_th hw hk
  have hT := hw.2.2.2.2.2
  have hN : xN S.k.g (thW S.ml S.k.th) K N R I := ⟨hx.1.1, hx.1.2.1, hx.1.2.2.1⟩
  refine bk hX lkL_ok (pc' := 218) [.aload_n 1, .aload_n 0, .iload_n 3, .iconst 1, .iadd] (by decide +kernel) (And.intro trivial ?_)
  rw [nI_add]
  refine hsc.1 _ _ _ _ _ _ (i + 1) (by omega) (by decide +kernel) ?_
  refine bk hX lkL_ok (pc' := 223) [.aload_n 0, .iload_n 3, .iconst 2, .iadd] (by decide +kernel) (And.intro trivial ?_)
  rw [nI_add]
  refine hsc.1 _ _ _ _ _ _ (i + 2) (by omega) (by decide +kernel) ?_
  refine z_callV hX kw_L_18 (c_X_of E K N R I L hg hok (by omega) hN (xs (i + 1)) (xs (i + 2))) rfl rfl rfl rfl rfl (by decide +kernel) (by decide) (by decide) (by omega) (by omega) (Nat.le_of_ble_eq_true rfl) ?_
  rintro _ _ ⟨R1, I1, rfl, rfl, a1, a2⟩
  have hm1 := mi_ask h a2
  obtain ⟨bb, hB⟩ := mHB_th hw hm1
  refine bk hX lkL_ok (pc' := 232) [.aload_n 2, .aload_n 0, .iload_n 3, .iconst 1, .iadd] (by decide +kernel) (And.intro trivial ?_)
  rw [nI_add]
  refine hsc.1 _ _ _ _ _ _ (i + 1) (by omega) (by decide +kernel) ?_
  refine bk hX lkL_ok (pc' := 237) [.aload_n 0, .iload_n 3, .iconst 2, .iadd] (by decide +kernel) (And.intro trivial ?_)
  rw [nI_add]
  refine hsc.1 _ _ _ _ _ _ (i + 2) (by omega) (by decide +kernel) ?_
  refine z_callV hX kw_L_21 (c_M_of E K N R1 I1 L hg hm1.1.1 hB (by omega) (xs (i + 1)) (xs (i + 2))) rfl rfl rfl rfl rfl (by decide +kernel) (by decide) (by decide) (by omega) (by omega) (Nat.le_of_ble_eq_true rfl) ?_
  rintro _ _ ⟨I2, rfl, rfl, b1⟩
  refine ic_eq hX (1007) 1248 (by decide +kernel) (by decide) (fun c_241 => ?_) (fun c => absurd (rfl) c)
  refine z_lvk (lv' := [(0, _), (1, _), (2, _), (3, _)]) [0, 1, 2, 3] rfl ?_
  exact kk _ _ _ _ _ _ _ _ (iv_ask h a1 a2 b1) (by omega) (by omega)
theorem lc_2 {X : zX} {E : zE} (hX : zD X E mL 100 600000 7302250 PoL) {n : Nat} {xs : Nat → Int32} (hsc : scR X n xs) {S : St} {K N : Nat → Nat} {R : Nat → Nat → Option Nat} {I : Nat → Nat → Int32} {L : Nat → Nat → Int64} (h : Inv S K N R I L) {i : Nat} (hi : i + 6 ≤ n) (hn : n ≤ 3072) {cells slots : Nat} (hc : cells + 10 ≤ 600000) (hs : slots + 309 ≤ 7302250) (kk : ∀ (S' : St) (K' N' : Nat → Nat) (R' : Nat → Nat → Option Nat) (I' : Nat → Nat → Int32) (L' : Nat → Nat → Int64) (c s : Nat), Inv S' K' N' R' I' L' → c ≤ cells + 10 → s ≤ slots + 309 → zS X (sg K' N' R' I' L') c s 1248 [(0, .ref 1000), (1, .ref 200), (2, .ref 100), (3, .int (nI i))] []) : zS X (sg K N R I L) cells slots 246 [(0, .ref 1000), (1, .ref 200), (2, .ref 100), (3, .int (nI i))] [] := by
  have hw := h.1
  have hm := h.2.1
  have hx := h.2.2
  have hk := hw.1
  have hg := hk.1
  have hd := hk.2.1
  have hok := wok_th hw hk
  have hT := hw.2.2.2.2.2
  have hN : xN S.k.g (thW S.ml S.k.th) K N R I := ⟨hx.1.1, hx.1.2.1, hx.1.2.2.1⟩
  refine bk hX lkL_ok (pc' := 251) [.aload_n 1, .aload_n 0, .iload_n 3, .iconst 1, .iadd] (by decide +kernel) (And.intro trivial ?_)
  rw [nI_add]
  refine hsc.1 _ _ _ _ _ _ (i + 1) (by omega) (by decide +kernel) ?_
  refine bk hX lkL_ok (pc' := 256) [.aload_n 0, .iload_n 3, .iconst 2, .iadd] (by decide +kernel) (And.intro trivial ?_)
  rw [nI_add]
  refine hsc.1 _ _ _ _ _ _ (i + 2) (by omega) (by decide +kernel) ?_
  refine z_callV hX kw_L_22 (c_X_set E K N R I L hg hx.1.1 (xs (i + 1)) (xs (i + 2))) rfl rfl rfl rfl rfl (by decide +kernel) (by decide) (by decide) (by omega) (by omega) (Nat.le_of_ble_eq_true rfl) ?_
  rintro _ _ ⟨I1, rfl, rfl, y1, nf⟩
  have hm1 := mi_n h nf
  refine bk hX lkL_ok (pc' := 265) [.aload_n 2, .aload_n 0, .iload_n 3, .iconst 1, .iadd] (by decide +kernel) (And.intro trivial ?_)
  rw [nI_add]
  refine hsc.1 _ _ _ _ _ _ (i + 1) (by omega) (by decide +kernel) ?_
  refine bk hX lkL_ok (pc' := 270) [.aload_n 0, .iload_n 3, .iconst 2, .iadd] (by decide +kernel) (And.intro trivial ?_)
  rw [nI_add]
  refine hsc.1 _ _ _ _ _ _ (i + 2) (by omega) (by decide +kernel) ?_
  refine z_callV hX kw_L_25 (c_M_set E K N R I1 L hg hm1.1.1 (xs (i + 1)) (xs (i + 2))) rfl rfl rfl rfl rfl (by decide +kernel) (by decide) (by decide) (by omega) (by omega) (Nat.le_of_ble_eq_true rfl) ?_
  rintro _ _ ⟨I2, rfl, rfl, y2, f⟩
  refine ic_eq hX (974) 1248 (by decide +kernel) (by decide) (fun c_274 => ?_) (fun c => absurd (rfl) c)
  refine z_lvk (lv' := [(0, _), (1, _), (2, _), (3, _)]) [0, 1, 2, 3] rfl ?_
  exact kk _ _ _ _ _ _ _ _ (iv_n h (st_set hw (xs (i + 1)) (xs (i + 2))).1 (st_set hw (xs (i + 1)) (xs (i + 2))).2 y1 nf y2 f) (by omega) (by omega)
theorem lc_3 {X : zX} {E : zE} (hX : zD X E mL 100 600000 7302250 PoL) {n : Nat} {xs : Nat → Int32} (hsc : scR X n xs) {S : St} {K N : Nat → Nat} {R : Nat → Nat → Option Nat} {I : Nat → Nat → Int32} {L : Nat → Nat → Int64} (h : Inv S K N R I L) {i : Nat} (hi : i + 6 ≤ n) (hn : n ≤ 3072) {cells slots : Nat} (hc : cells + 10 ≤ 600000) (hs : slots + 309 ≤ 7302250) (kk : ∀ (S' : St) (K' N' : Nat → Nat) (R' : Nat → Nat → Option Nat) (I' : Nat → Nat → Int32) (L' : Nat → Nat → Int64) (c s : Nat), Inv S' K' N' R' I' L' → c ≤ cells + 10 → s ≤ slots + 309 → zS X (sg K' N' R' I' L') c s 1248 [(0, .ref 1000), (1, .ref 200), (2, .ref 100), (3, .int (nI i))] []) : zS X (sg K N R I L) cells slots 279 [(0, .ref 1000), (1, .ref 200), (2, .ref 100), (3, .int (nI i))] [] := by
  have hw := h.1
  have hm := h.2.1
  have hx := h.2.2
  have hk := hw.1
  have hg := hk.1
  have hd := hk.2.1
  have hok := wok_th hw hk
  have hT := hw.2.2.2.2.2
  have hN : xN S.k.g (thW S.ml S.k.th) K N R I := ⟨hx.1.1, hx.1.2.1, hx.1.2.2.1⟩
  refine bk hX lkL_ok (pc' := 284) [.aload_n 1, .aload_n 0, .iload_n 3, .iconst 1, .iadd] (by decide +kernel) (And.intro trivial ?_)
  rw [nI_add]
  refine hsc.1 _ _ _ _ _ _ (i + 1) (by omega) (by decide +kernel) ?_
  refine bk hX lkL_ok (pc' := 289) [.aload_n 0, .iload_n 3, .iconst 2, .iadd] (by decide +kernel) (And.intro trivial ?_)
  rw [nI_add]
  refine hsc.1 _ _ _ _ _ _ (i + 2) (by omega) (by decide +kernel) ?_
  refine z_callV hX kw_L_26 (c_X_swap E K N R I L hg hx.1.1 (xs (i + 1)) (xs (i + 2))) rfl rfl rfl rfl rfl (by decide +kernel) (by decide) (by decide) (by omega) (by omega) (Nat.le_of_ble_eq_true rfl) ?_
  rintro _ _ ⟨I1, rfl, rfl, y1, nf⟩
  have hm1 := mi_n h nf
  refine bk hX lkL_ok (pc' := 298) [.aload_n 2, .aload_n 0, .iload_n 3, .iconst 1, .iadd] (by decide +kernel) (And.intro trivial ?_)
  rw [nI_add]
  refine hsc.1 _ _ _ _ _ _ (i + 1) (by omega) (by decide +kernel) ?_
  refine bk hX lkL_ok (pc' := 303) [.aload_n 0, .iload_n 3, .iconst 2, .iadd] (by decide +kernel) (And.intro trivial ?_)
  rw [nI_add]
  refine hsc.1 _ _ _ _ _ _ (i + 2) (by omega) (by decide +kernel) ?_
  refine z_callV hX kw_L_29 (c_M_swap E K N R I1 L hg hm1.1.1 (xs (i + 1)) (xs (i + 2))) rfl rfl rfl rfl rfl (by decide +kernel) (by decide) (by decide) (by omega) (by omega) (Nat.le_of_ble_eq_true rfl) ?_
  rintro _ _ ⟨I2, rfl, rfl, y2, f⟩
  refine ic_eq hX (941) 1248 (by decide +kernel) (by decide) (fun c_307 => ?_) (fun c => absurd (rfl) c)
  refine z_lvk (lv' := [(0, _), (1, _), (2, _), (3, _)]) [0, 1, 2, 3] rfl ?_
  exact kk _ _ _ _ _ _ _ _ (iv_n h (st_swp hw (xs (i + 1)) (xs (i + 2))).1 (st_swp hw (xs (i + 1)) (xs (i + 2))).2 y1 nf y2 f) (by omega) (by omega)
theorem lc_5 {X : zX} {E : zE} (hX : zD X E mL 100 600000 7302250 PoL) {n : Nat} {xs : Nat → Int32} (hsc : scR X n xs) {S : St} {K N : Nat → Nat} {R : Nat → Nat → Option Nat} {I : Nat → Nat → Int32} {L : Nat → Nat → Int64} (h : Inv S K N R I L) {i : Nat} (hi : i + 6 ≤ n) (hn : n ≤ 3072) {cells slots : Nat} (hc : cells + 10 ≤ 600000) (hs : slots + 309 ≤ 7302250) (kk : ∀ (S' : St) (K' N' : Nat → Nat) (R' : Nat → Nat → Option Nat) (I' : Nat → Nat → Int32) (L' : Nat → Nat → Int64) (c s : Nat), Inv S' K' N' R' I' L' → c ≤ cells + 10 → s ≤ slots + 309 → zS X (sg K' N' R' I' L') c s 1248 [(0, .ref 1000), (1, .ref 200), (2, .ref 100), (3, .int (nI i))] []) : zS X (sg K N R I L) cells slots 361 [(0, .ref 1000), (1, .ref 200), (2, .ref 100), (3, .int (nI i))] [] := by
  have hw := h.1
  have hm := h.2.1
  have hx := h.2.2
  have hk := hw.1
  have hg := hk.1
  have hd := hk.2.1
  have hok := wok_th hw hk
  have hT := hw.2.2.2.2.2
  have hN : xN S.k.g (thW S.ml S.k.th) K N R I := ⟨hx.1.1, hx.1.2.1, hx.1.2.2.1⟩
  refine bk hX lkL_ok (pc' := 366) [.aload_n 1, .aload_n 0, .iload_n 3, .iconst 1, .iadd] (by decide +kernel) (And.intro trivial ?_)
  rw [nI_add]
  refine hsc.1 _ _ _ _ _ _ (i + 1) (by omega) (by decide +kernel) ?_
  refine bk hX lkL_ok (pc' := 371) [.aload_n 0, .iload_n 3, .iconst 2, .iadd] (by decide +kernel) (And.intro trivial ?_)
  rw [nI_add]
  refine hsc.1 _ _ _ _ _ _ (i + 2) (by omega) (by decide +kernel) ?_
  refine bk hX lkL_ok (pc' := 376) [.aload_n 0, .iload_n 3, .iconst 3, .iadd] (by decide +kernel) (And.intro trivial ?_)
  rw [nI_add]
  refine hsc.1 _ _ _ _ _ _ (i + 3) (by omega) (by decide +kernel) ?_
  refine z_callV hX kw_L_35 (c_X_row E K N R I L hg hx.1.1 (xs (i + 1)) (xs (i + 2)) (xs (i + 3))) rfl rfl rfl rfl rfl (by decide +kernel) (by decide) (by decide) (by omega) (by omega) (Nat.le_of_ble_eq_true rfl) ?_
  rintro _ _ ⟨I1, rfl, rfl, y1, nf⟩
  have hm1 := mi_n h nf
  refine bk hX lkL_ok (pc' := 385) [.aload_n 2, .aload_n 0, .iload_n 3, .iconst 1, .iadd] (by decide +kernel) (And.intro trivial ?_)
  rw [nI_add]
  refine hsc.1 _ _ _ _ _ _ (i + 1) (by omega) (by decide +kernel) ?_
  refine bk hX lkL_ok (pc' := 390) [.aload_n 0, .iload_n 3, .iconst 2, .iadd] (by decide +kernel) (And.intro trivial ?_)
  rw [nI_add]
  refine hsc.1 _ _ _ _ _ _ (i + 2) (by omega) (by decide +kernel) ?_
  refine bk hX lkL_ok (pc' := 395) [.aload_n 0, .iload_n 3, .iconst 3, .iadd] (by decide +kernel) (And.intro trivial ?_)
  rw [nI_add]
  refine hsc.1 _ _ _ _ _ _ (i + 3) (by omega) (by decide +kernel) ?_
  refine z_callV hX kw_L_39 (c_M_row E K N R I1 L hg hm1.1.1 (xs (i + 1)) (xs (i + 2)) (xs (i + 3))) rfl rfl rfl rfl rfl (by decide +kernel) (by decide) (by decide) (by omega) (by omega) (Nat.le_of_ble_eq_true rfl) ?_
  rintro _ _ ⟨I2, rfl, rfl, y2, f⟩
  refine ic_eq hX (849) 1248 (by decide +kernel) (by decide) (fun c_399 => ?_) (fun c => absurd (rfl) c)
  refine z_lvk (lv' := [(0, _), (1, _), (2, _), (3, _)]) [0, 1, 2, 3] rfl ?_
  exact kk _ _ _ _ _ _ _ _ (iv_n h (st_row hw (xs (i + 1)) (xs (i + 2)) (xs (i + 3))).1 (st_row hw (xs (i + 1)) (xs (i + 2)) (xs (i + 3))).2 y1 nf y2 f) (by omega) (by omega)
theorem lc_6 {X : zX} {E : zE} (hX : zD X E mL 100 600000 7302250 PoL) {n : Nat} {xs : Nat → Int32} (hsc : scR X n xs) {S : St} {K N : Nat → Nat} {R : Nat → Nat → Option Nat} {I : Nat → Nat → Int32} {L : Nat → Nat → Int64} (h : Inv S K N R I L) {i : Nat} (hi : i + 6 ≤ n) (hn : n ≤ 3072) {cells slots : Nat} (hc : cells + 10 ≤ 600000) (hs : slots + 309 ≤ 7302250) (kk : ∀ (S' : St) (K' N' : Nat → Nat) (R' : Nat → Nat → Option Nat) (I' : Nat → Nat → Int32) (L' : Nat → Nat → Int64) (c s : Nat), Inv S' K' N' R' I' L' → c ≤ cells + 10 → s ≤ slots + 309 → zS X (sg K' N' R' I' L') c s 1248 [(0, .ref 1000), (1, .ref 200), (2, .ref 100), (3, .int (nI i))] []) : zS X (sg K N R I L) cells slots 404 [(0, .ref 1000), (1, .ref 200), (2, .ref 100), (3, .int (nI i))] [] := by
  have hw := h.1
  have hm := h.2.1
  have hx := h.2.2
  have hk := hw.1
  have hg := hk.1
  have hd := hk.2.1
  have hok := wok_th hw hk
  have hT := hw.2.2.2.2.2
  have hN : xN S.k.g (thW S.ml S.k.th) K N R I := ⟨hx.1.1, hx.1.2.1, hx.1.2.2.1⟩
  refine bk hX lkL_ok (pc' := 409) [.aload_n 1, .aload_n 0, .iload_n 3, .iconst 1, .iadd] (by decide +kernel) (And.intro trivial ?_)
  rw [nI_add]
  refine hsc.1 _ _ _ _ _ _ (i + 1) (by omega) (by decide +kernel) ?_
  refine z_callV hX kw_L_40 (c_X_feed E K N R I L hx.2.2.2.1 (xs (i + 1))) rfl rfl rfl rfl rfl (by decide +kernel) (by decide) (by decide) (by omega) (by omega) (Nat.le_of_ble_eq_true rfl) ?_
  rintro _ _ ⟨I1, rfl, rfl, y1, fy⟩
  have hm1 : mInv S I1 L := mInv_o rfl (fun q hq => fy.1 q (by simp; omega) (by omega)) hm
  refine bk hX lkL_ok (pc' := 418) [.aload_n 2, .aload_n 0, .iload_n 3, .iconst 1, .iadd] (by decide +kernel) (And.intro trivial ?_)
  rw [nI_add]
  refine hsc.1 _ _ _ _ _ _ (i + 1) (by omega) (by decide +kernel) ?_
  refine z_callV hX kw_L_44 (c_M_feed E K N R I1 L hm1.2.2.2.2.1 (xs (i + 1))) rfl rfl rfl rfl rfl (by decide +kernel) (by decide) (by decide) (by omega) (by omega) (Nat.le_of_ble_eq_true rfl) ?_
  rintro _ _ ⟨I2, rfl, rfl, y2, f⟩
  refine ic_eq hX (826) 1248 (by decide +kernel) (by decide) (fun c_422 => ?_) (fun c => absurd (rfl) c)
  refine z_lvk (lv' := [(0, _), (1, _), (2, _), (3, _)]) [0, 1, 2, 3] rfl ?_
  exact kk _ _ _ _ _ _ _ _ (iv_feed h (txw_feed hw.2.2.2.2.1 (xs (i + 1))) y1 fy y2 f) (by omega) (by omega)
theorem lc_8 {X : zX} {E : zE} (hX : zD X E mL 100 600000 7302250 PoL) {n : Nat} {xs : Nat → Int32} (hsc : scR X n xs) {S : St} {K N : Nat → Nat} {R : Nat → Nat → Option Nat} {I : Nat → Nat → Int32} {L : Nat → Nat → Int64} (h : Inv S K N R I L) {i : Nat} (hi : i + 6 ≤ n) (hn : n ≤ 3072) {cells slots : Nat} (hc : cells + 10 ≤ 600000) (hs : slots + 309 ≤ 7302250) (kk : ∀ (S' : St) (K' N' : Nat → Nat) (R' : Nat → Nat → Option Nat) (I' : Nat → Nat → Int32) (L' : Nat → Nat → Int64) (c s : Nat), Inv S' K' N' R' I' L' → c ≤ cells + 10 → s ≤ slots + 309 → zS X (sg K' N' R' I' L') c s 1248 [(0, .ref 1000), (1, .ref 200), (2, .ref 100), (3, .int (nI i))] []) : zS X (sg K N R I L) cells slots 440 [(0, .ref 1000), (1, .ref 200), (2, .ref 100), (3, .int (nI i))] [] := by
  have hw := h.1
  have hm := h.2.1
  have hx := h.2.2
  have hk := hw.1
  have hg := hk.1
  have hd := hk.2.1
  have hok := wok_th hw hk
  have hT := hw.2.2.2.2.2
  have hN : xN S.k.g (thW S.ml S.k.th) K N R I := ⟨hx.1.1, hx.1.2.1, hx.1.2.2.1⟩
  refine bk hX lkL_ok (pc' := 445) [.aload_n 1, .aload_n 0, .iload_n 3, .iconst 1, .iadd] (by decide +kernel) (And.intro trivial ?_)
  rw [nI_add]
  refine hsc.1 _ _ _ _ _ _ (i + 1) (by omega) (by decide +kernel) ?_
  refine z_callV hX kw_L_50 (c_X_told E K N R I L hg hok (by omega) hN (xs (i + 1))) rfl rfl rfl rfl rfl (by decide +kernel) (by decide) (by decide) (by omega) (by omega) (Nat.le_of_ble_eq_true rfl) ?_
  rintro _ _ ⟨R1, I1, rfl, rfl, a1, a2⟩
  have hm1 := mi_ask h a2
  obtain ⟨bb, hB⟩ := mHB_th hw hm1
  refine bk hX lkL_ok (pc' := 454) [.aload_n 2, .aload_n 0, .iload_n 3, .iconst 1, .iadd] (by decide +kernel) (And.intro trivial ?_)
  rw [nI_add]
  refine hsc.1 _ _ _ _ _ _ (i + 1) (by omega) (by decide +kernel) ?_
  refine z_callV hX kw_L_53 (c_M_told E K N R1 I1 L hg hm1.1.1 hB (by omega) (xs (i + 1))) rfl rfl rfl rfl rfl (by decide +kernel) (by decide) (by decide) (by omega) (by omega) (Nat.le_of_ble_eq_true rfl) ?_
  rintro _ _ ⟨I2, rfl, rfl, b1⟩
  refine ic_eq hX (790) 1248 (by decide +kernel) (by decide) (fun c_458 => ?_) (fun c => absurd (rfl) c)
  refine z_lvk (lv' := [(0, _), (1, _), (2, _), (3, _)]) [0, 1, 2, 3] rfl ?_
  exact kk _ _ _ _ _ _ _ _ (iv_ask h a1 a2 b1) (by omega) (by omega)
theorem lc_9 {X : zX} {E : zE} (hX : zD X E mL 100 600000 7302250 PoL) {n : Nat} {xs : Nat → Int32} (hsc : scR X n xs) {S : St} {K N : Nat → Nat} {R : Nat → Nat → Option Nat} {I : Nat → Nat → Int32} {L : Nat → Nat → Int64} (h : Inv S K N R I L) {i : Nat} (hi : i + 6 ≤ n) (hn : n ≤ 3072) {cells slots : Nat} (hc : cells + 10 ≤ 600000) (hs : slots + 309 ≤ 7302250) (kk : ∀ (S' : St) (K' N' : Nat → Nat) (R' : Nat → Nat → Option Nat) (I' : Nat → Nat → Int32) (L' : Nat → Nat → Int64) (c s : Nat), Inv S' K' N' R' I' L' → c ≤ cells + 10 → s ≤ slots + 309 → zS X (sg K' N' R' I' L') c s 1248 [(0, .ref 1000), (1, .ref 200), (2, .ref 100), (3, .int (nI i))] []) : zS X (sg K N R I L) cells slots 463 [(0, .ref 1000), (1, .ref 200), (2, .ref 100), (3, .int (nI i))] [] := by
  have hw := h.1
  have hm := h.2.1
  have hx := h.2.2
  have hk := hw.1
  have hg := hk.1
  have hd := hk.2.1
  have hok := wok_th hw hk
  have hT := hw.2.2.2.2.2
  have hN : xN S.k.g (thW S.ml S.k.th) K N R I := ⟨hx.1.1, hx.1.2.1, hx.1.2.2.1⟩
  refine bk hX lkL_ok (pc' := 468) [.aload_n 1, .aload_n 0, .iload_n 3, .iconst 1, .iadd] (by decide +kernel) (And.intro trivial ?_)
  rw [nI_add]
  refine hsc.1 _ _ _ _ _ _ (i + 1) (by omega) (by decide +kernel) ?_
  refine z_callV hX kw_L_54 (c_X_pass E K N R I L hg hx.1.1 hok hx.1.2.1 hd (xs (i + 1))) rfl rfl rfl rfl rfl (by decide +kernel) (by decide) (by decide) (by omega) (by omega) (Nat.le_of_ble_eq_true rfl) ?_
  rintro _ _ ⟨I1, rfl, rfl, y1, nf⟩
  have hm1 := mi_n h nf
  obtain ⟨bb, hB⟩ := mHB_th hw hm1
  refine bk hX lkL_ok (pc' := 477) [.aload_n 2, .aload_n 0, .iload_n 3, .iconst 1, .iadd] (by decide +kernel) (And.intro trivial ?_)
  rw [nI_add]
  refine hsc.1 _ _ _ _ _ _ (i + 1) (by omega) (by decide +kernel) ?_
  refine z_callV hX kw_L_57 (c_M_pass E K N R I1 L hg hm1.1.1 hB hd (xs (i + 1))) rfl rfl rfl rfl rfl (by decide +kernel) (by decide) (by decide) (by omega) (by omega) (Nat.le_of_ble_eq_true rfl) ?_
  rintro _ _ ⟨I2, rfl, rfl, y2, f⟩
  refine ic_eq hX (767) 1248 (by decide +kernel) (by decide) (fun c_481 => ?_) (fun c => absurd (rfl) c)
  refine z_lvk (lv' := [(0, _), (1, _), (2, _), (3, _)]) [0, 1, 2, 3] rfl ?_
  exact kk _ _ _ _ _ _ _ _ (iv_n h (st_pass hw _ (xs (i + 1))).1 (st_pass hw _ (xs (i + 1))).2 y1 nf y2 (frX_D f)) (by omega) (by omega)
theorem lc_10 {X : zX} {E : zE} (hX : zD X E mL 100 600000 7302250 PoL) {n : Nat} {xs : Nat → Int32} (hsc : scR X n xs) {S : St} {K N : Nat → Nat} {R : Nat → Nat → Option Nat} {I : Nat → Nat → Int32} {L : Nat → Nat → Int64} (h : Inv S K N R I L) {i : Nat} (hi : i + 6 ≤ n) (hn : n ≤ 3072) {cells slots : Nat} (hc : cells + 10 ≤ 600000) (hs : slots + 309 ≤ 7302250) (kk : ∀ (S' : St) (K' N' : Nat → Nat) (R' : Nat → Nat → Option Nat) (I' : Nat → Nat → Int32) (L' : Nat → Nat → Int64) (c s : Nat), Inv S' K' N' R' I' L' → c ≤ cells + 10 → s ≤ slots + 309 → zS X (sg K' N' R' I' L') c s 1248 [(0, .ref 1000), (1, .ref 200), (2, .ref 100), (3, .int (nI i))] []) : zS X (sg K N R I L) cells slots 486 [(0, .ref 1000), (1, .ref 200), (2, .ref 100), (3, .int (nI i))] [] := by
  have hw := h.1
  have hm := h.2.1
  have hx := h.2.2
  have hk := hw.1
  have hg := hk.1
  have hd := hk.2.1
  have hok := wok_th hw hk
  have hT := hw.2.2.2.2.2
  have hN : xN S.k.g (thW S.ml S.k.th) K N R I := ⟨hx.1.1, hx.1.2.1, hx.1.2.2.1⟩
  refine bk hX lkL_ok (pc' := 491) [.aload_n 1, .aload_n 0, .iload_n 3, .iconst 1, .iadd] (by decide +kernel) (And.intro trivial ?_)
  rw [nI_add]
  refine hsc.1 _ _ _ _ _ _ (i + 1) (by omega) (by decide +kernel) ?_
  refine bk hX lkL_ok (pc' := 496) [.aload_n 0, .iload_n 3, .iconst 2, .iadd] (by decide +kernel) (And.intro trivial ?_)
  rw [nI_add]
  refine hsc.1 _ _ _ _ _ _ (i + 2) (by omega) (by decide +kernel) ?_
  refine z_callV hX kw_L_58 (c_X_on E K N R I L hg hok (by omega) hN (xs (i + 1)) (xs (i + 2))) rfl rfl rfl rfl rfl (by decide +kernel) (by decide) (by decide) (by omega) (by omega) (Nat.le_of_ble_eq_true rfl) ?_
  rintro _ _ ⟨R1, I1, rfl, rfl, a1, a2⟩
  have hm1 := mi_ask h a2
  obtain ⟨bb, hB⟩ := mHB_th hw hm1
  refine bk hX lkL_ok (pc' := 505) [.aload_n 2, .aload_n 0, .iload_n 3, .iconst 1, .iadd] (by decide +kernel) (And.intro trivial ?_)
  rw [nI_add]
  refine hsc.1 _ _ _ _ _ _ (i + 1) (by omega) (by decide +kernel) ?_
  refine bk hX lkL_ok (pc' := 510) [.aload_n 0, .iload_n 3, .iconst 2, .iadd] (by decide +kernel) (And.intro trivial ?_)
  rw [nI_add]
  refine hsc.1 _ _ _ _ _ _ (i + 2) (by omega) (by decide +kernel) ?_
  refine z_callV hX kw_L_61 (c_M_on E K N R1 I1 L hg hm1.1.1 hB (by omega) (xs (i + 1)) (xs (i + 2))) rfl rfl rfl rfl rfl (by decide +kernel) (by decide) (by decide) (by omega) (by omega) (Nat.le_of_ble_eq_true rfl) ?_
  rintro _ _ ⟨I2, rfl, rfl, b1⟩
  refine ic_eq hX (734) 1248 (by decide +kernel) (by decide) (fun c_514 => ?_) (fun c => absurd (rfl) c)
  refine z_lvk (lv' := [(0, _), (1, _), (2, _), (3, _)]) [0, 1, 2, 3] rfl ?_
  exact kk _ _ _ _ _ _ _ _ (iv_ask h a1 a2 b1) (by omega) (by omega)
theorem lc_11 {X : zX} {E : zE} (hX : zD X E mL 100 600000 7302250 PoL) {n : Nat} {xs : Nat → Int32} (hsc : scR X n xs) {S : St} {K N : Nat → Nat} {R : Nat → Nat → Option Nat} {I : Nat → Nat → Int32} {L : Nat → Nat → Int64} (h : Inv S K N R I L) {i : Nat} (hi : i + 6 ≤ n) (hn : n ≤ 3072) {cells slots : Nat} (hc : cells + 10 ≤ 600000) (hs : slots + 309 ≤ 7302250) (kk : ∀ (S' : St) (K' N' : Nat → Nat) (R' : Nat → Nat → Option Nat) (I' : Nat → Nat → Int32) (L' : Nat → Nat → Int64) (c s : Nat), Inv S' K' N' R' I' L' → c ≤ cells + 10 → s ≤ slots + 309 → zS X (sg K' N' R' I' L') c s 1248 [(0, .ref 1000), (1, .ref 200), (2, .ref 100), (3, .int (nI i))] []) : zS X (sg K N R I L) cells slots 519 [(0, .ref 1000), (1, .ref 200), (2, .ref 100), (3, .int (nI i))] [] := by
  have hw := h.1
  have hm := h.2.1
  have hx := h.2.2
  have hk := hw.1
  have hg := hk.1
  have hd := hk.2.1
  have hok := wok_th hw hk
  have hT := hw.2.2.2.2.2
  have hN : xN S.k.g (thW S.ml S.k.th) K N R I := ⟨hx.1.1, hx.1.2.1, hx.1.2.2.1⟩
  refine bk hX lkL_ok (pc' := 524) [.aload_n 1, .aload_n 0, .iload_n 3, .iconst 1, .iadd] (by decide +kernel) (And.intro trivial ?_)
  rw [nI_add]
  refine hsc.1 _ _ _ _ _ _ (i + 1) (by omega) (by decide +kernel) ?_
  refine bk hX lkL_ok (pc' := 529) [.aload_n 0, .iload_n 3, .iconst 2, .iadd] (by decide +kernel) (And.intro trivial ?_)
  rw [nI_add]
  refine hsc.1 _ _ _ _ _ _ (i + 2) (by omega) (by decide +kernel) ?_
  refine z_callV hX kw_L_62 (c_X_full E K N R I L hg hok (by omega) hN (xs (i + 1)) (xs (i + 2))) rfl rfl rfl rfl rfl (by decide +kernel) (by decide) (by decide) (by omega) (by omega) (Nat.le_of_ble_eq_true rfl) ?_
  rintro _ _ ⟨R1, I1, rfl, rfl, a1, a2⟩
  have hm1 := mi_ask h a2
  obtain ⟨bb, hB⟩ := mHB_th hw hm1
  refine bk hX lkL_ok (pc' := 538) [.aload_n 2, .aload_n 0, .iload_n 3, .iconst 1, .iadd] (by decide +kernel) (And.intro trivial ?_)
  rw [nI_add]
  refine hsc.1 _ _ _ _ _ _ (i + 1) (by omega) (by decide +kernel) ?_
  refine bk hX lkL_ok (pc' := 543) [.aload_n 0, .iload_n 3, .iconst 2, .iadd] (by decide +kernel) (And.intro trivial ?_)
  rw [nI_add]
  refine hsc.1 _ _ _ _ _ _ (i + 2) (by omega) (by decide +kernel) ?_
  refine z_callV hX kw_L_65 (c_M_full E K N R1 I1 L hg hm1.1.1 hB (by omega) (xs (i + 1)) (xs (i + 2))) rfl rfl rfl rfl rfl (by decide +kernel) (by decide) (by decide) (by omega) (by omega) (Nat.le_of_ble_eq_true rfl) ?_
  rintro _ _ ⟨I2, rfl, rfl, b1⟩
  refine ic_eq hX (701) 1248 (by decide +kernel) (by decide) (fun c_547 => ?_) (fun c => absurd (rfl) c)
  refine z_lvk (lv' := [(0, _), (1, _), (2, _), (3, _)]) [0, 1, 2, 3] rfl ?_
  exact kk _ _ _ _ _ _ _ _ (iv_ask h a1 a2 b1) (by omega) (by omega)
theorem lc_12 {X : zX} {E : zE} (hX : zD X E mL 100 600000 7302250 PoL) {n : Nat} {xs : Nat → Int32} (hsc : scR X n xs) {S : St} {K N : Nat → Nat} {R : Nat → Nat → Option Nat} {I : Nat → Nat → Int32} {L : Nat → Nat → Int64} (h : Inv S K N R I L) {i : Nat} (hi : i + 6 ≤ n) (hn : n ≤ 3072) {cells slots : Nat} (hc : cells + 10 ≤ 600000) (hs : slots + 309 ≤ 7302250) (kk : ∀ (S' : St) (K' N' : Nat → Nat) (R' : Nat → Nat → Option Nat) (I' : Nat → Nat → Int32) (L' : Nat → Nat → Int64) (c s : Nat), Inv S' K' N' R' I' L' → c ≤ cells + 10 → s ≤ slots + 309 → zS X (sg K' N' R' I' L') c s 1248 [(0, .ref 1000), (1, .ref 200), (2, .ref 100), (3, .int (nI i))] []) : zS X (sg K N R I L) cells slots 552 [(0, .ref 1000), (1, .ref 200), (2, .ref 100), (3, .int (nI i))] [] := by
  have hw := h.1
  have hm := h.2.1
  have hx := h.2.2
  have hk := hw.1
  have hg := hk.1
  have hd := hk.2.1
  have hok := wok_th hw hk
  have hT := hw.2.2.2.2.2
  have hN : xN S.k.g (thW S.ml S.k.th) K N R I := ⟨hx.1.1, hx.1.2.1, hx.1.2.2.1⟩
  obtain ⟨mz, hbf, -⟩ := best_eq (τ := tmS S.k.g (thW S.ml S.k.th)) hg.1 (fun p c hp => tm_bd hg hok hp c)
  refine bk hX lkL_ok (pc' := 557) [.aload_n 1, .aload_n 0, .iload_n 3, .iconst 1, .iadd] (by decide +kernel) (And.intro trivial ?_)
  rw [nI_add]
  refine hsc.1 _ _ _ _ _ _ (i + 1) (by omega) (by decide +kernel) ?_
  refine z_callV hX kw_L_66 (c_X_best E K N R I L hg hok (by omega) hN (xs (i + 1)) rfl hbf) rfl rfl rfl rfl rfl (by decide +kernel) (by decide) (by decide) (by omega) (by omega) (Nat.le_of_ble_eq_true rfl) ?_
  rintro _ _ ⟨R1, I1, rfl, rfl, a1, a2⟩
  have hm1 := mi_ask h a2
  obtain ⟨bb, hB⟩ := mHB_th hw hm1
  refine bk hX lkL_ok (pc' := 566) [.aload_n 2, .aload_n 0, .iload_n 3, .iconst 1, .iadd] (by decide +kernel) (And.intro trivial ?_)
  rw [nI_add]
  refine hsc.1 _ _ _ _ _ _ (i + 1) (by omega) (by decide +kernel) ?_
  refine z_callV hX kw_L_69 (c_M_best E K N R1 I1 L hg hm1.1.1 hB (by omega) (xs (i + 1)) rfl hbf) rfl rfl rfl rfl rfl (by decide +kernel) (by decide) (by decide) (by omega) (by omega) (Nat.le_of_ble_eq_true rfl) ?_
  rintro _ _ ⟨I2, rfl, rfl, b1⟩
  refine ic_eq hX (678) 1248 (by decide +kernel) (by decide) (fun c_570 => ?_) (fun c => absurd (rfl) c)
  refine z_lvk (lv' := [(0, _), (1, _), (2, _), (3, _)]) [0, 1, 2, 3] rfl ?_
  exact kk _ _ _ _ _ _ _ _ (iv_ask h a1 a2 b1) (by omega) (by omega)
theorem lc_13 {X : zX} {E : zE} (hX : zD X E mL 100 600000 7302250 PoL) {n : Nat} {xs : Nat → Int32} (hsc : scR X n xs) {S : St} {K N : Nat → Nat} {R : Nat → Nat → Option Nat} {I : Nat → Nat → Int32} {L : Nat → Nat → Int64} (h : Inv S K N R I L) {i : Nat} (hi : i + 6 ≤ n) (hn : n ≤ 3072) {cells slots : Nat} (hc : cells + 10 ≤ 600000) (hs : slots + 309 ≤ 7302250) (kk : ∀ (S' : St) (K' N' : Nat → Nat) (R' : Nat → Nat → Option Nat) (I' : Nat → Nat → Int32) (L' : Nat → Nat → Int64) (c s : Nat), Inv S' K' N' R' I' L' → c ≤ cells + 10 → s ≤ slots + 309 → zS X (sg K' N' R' I' L') c s 1248 [(0, .ref 1000), (1, .ref 200), (2, .ref 100), (3, .int (nI i))] []) : zS X (sg K N R I L) cells slots 575 [(0, .ref 1000), (1, .ref 200), (2, .ref 100), (3, .int (nI i))] [] := by
  have hw := h.1
  have hm := h.2.1
  have hx := h.2.2
  have hk := hw.1
  have hg := hk.1
  have hd := hk.2.1
  have hok := wok_th hw hk
  have hT := hw.2.2.2.2.2
  have hN : xN S.k.g (thW S.ml S.k.th) K N R I := ⟨hx.1.1, hx.1.2.1, hx.1.2.2.1⟩
  refine bk hX lkL_ok (pc' := 580) [.aload_n 1, .aload_n 0, .iload_n 3, .iconst 1, .iadd] (by decide +kernel) (And.intro trivial ?_)
  rw [nI_add]
  refine hsc.1 _ _ _ _ _ _ (i + 1) (by omega) (by decide +kernel) ?_
  refine bk hX lkL_ok (pc' := 585) [.aload_n 0, .iload_n 3, .iconst 2, .iadd] (by decide +kernel) (And.intro trivial ?_)
  rw [nI_add]
  refine hsc.1 _ _ _ _ _ _ (i + 2) (by omega) (by decide +kernel) ?_
  refine bk hX lkL_ok (pc' := 590) [.aload_n 0, .iload_n 3, .iconst 3, .iadd] (by decide +kernel) (And.intro trivial ?_)
  rw [nI_add]
  refine hsc.1 _ _ _ _ _ _ (i + 3) (by omega) (by decide +kernel) ?_
  refine z_callV hX kw_L_70 (c_X_see E K N R I L hg hx.1.1 hx.1.2.2.2.1 hk.2.2.2.2.1.1 (xs (i + 1)) (xs (i + 2)) (xs (i + 3))) rfl rfl rfl rfl rfl (by decide +kernel) (by decide) (by decide) (by omega) (by omega) (Nat.le_of_ble_eq_true rfl) ?_
  rintro _ _ ⟨I1, rfl, rfl, y1, fz⟩
  have hm1 := mi_see h fz
  refine bk hX lkL_ok (pc' := 599) [.aload_n 2, .aload_n 0, .iload_n 3, .iconst 1, .iadd] (by decide +kernel) (And.intro trivial ?_)
  rw [nI_add]
  refine hsc.1 _ _ _ _ _ _ (i + 1) (by omega) (by decide +kernel) ?_
  refine bk hX lkL_ok (pc' := 604) [.aload_n 0, .iload_n 3, .iconst 2, .iadd] (by decide +kernel) (And.intro trivial ?_)
  rw [nI_add]
  refine hsc.1 _ _ _ _ _ _ (i + 2) (by omega) (by decide +kernel) ?_
  refine bk hX lkL_ok (pc' := 609) [.aload_n 0, .iload_n 3, .iconst 3, .iadd] (by decide +kernel) (And.intro trivial ?_)
  rw [nI_add]
  refine hsc.1 _ _ _ _ _ _ (i + 3) (by omega) (by decide +kernel) ?_
  refine z_callV hX kw_L_73 (c_M_see E K N R I1 L hg hm1.1.1 hm1.1.2.2.1 (xs (i + 1)) (xs (i + 2)) (xs (i + 3))) rfl rfl rfl rfl rfl (by decide +kernel) (by decide) (by decide) (by omega) (by omega) (Nat.le_of_ble_eq_true rfl) ?_
  rintro _ _ ⟨I2, rfl, rfl, y2, f⟩
  refine ic_eq hX (635) 1248 (by decide +kernel) (by decide) (fun c_613 => ?_) (fun c => absurd (rfl) c)
  refine z_lvk (lv' := [(0, _), (1, _), (2, _), (3, _)]) [0, 1, 2, 3] rfl ?_
  exact kk _ _ _ _ _ _ _ _ (iv_see h (ws_see hg.1 hk.2.2.2.2.1.1 hk.2.2.2.2.1.2 (xs (i + 1)) (xs (i + 2)) (xs (i + 3))) y1 fz y2 f) (by omega) (by omega)
theorem lc_14 {X : zX} {E : zE} (hX : zD X E mL 100 600000 7302250 PoL) {n : Nat} {xs : Nat → Int32} (hsc : scR X n xs) {S : St} {K N : Nat → Nat} {R : Nat → Nat → Option Nat} {I : Nat → Nat → Int32} {L : Nat → Nat → Int64} (h : Inv S K N R I L) {i : Nat} (hi : i + 6 ≤ n) (hn : n ≤ 3072) {cells slots : Nat} (hc : cells + 10 ≤ 600000) (hs : slots + 309 ≤ 7302250) (kk : ∀ (S' : St) (K' N' : Nat → Nat) (R' : Nat → Nat → Option Nat) (I' : Nat → Nat → Int32) (L' : Nat → Nat → Int64) (c s : Nat), Inv S' K' N' R' I' L' → c ≤ cells + 10 → s ≤ slots + 309 → zS X (sg K' N' R' I' L') c s 1248 [(0, .ref 1000), (1, .ref 200), (2, .ref 100), (3, .int (nI i))] []) : zS X (sg K N R I L) cells slots 618 [(0, .ref 1000), (1, .ref 200), (2, .ref 100), (3, .int (nI i))] [] := by
  have hw := h.1
  have hm := h.2.1
  have hx := h.2.2
  have hk := hw.1
  have hg := hk.1
  have hd := hk.2.1
  have hok := wok_th hw hk
  have hT := hw.2.2.2.2.2
  have hN : xN S.k.g (thW S.ml S.k.th) K N R I := ⟨hx.1.1, hx.1.2.1, hx.1.2.2.1⟩
  refine bk hX lkL_ok (pc' := 623) [.aload_n 1, .aload_n 0, .iload_n 3, .iconst 1, .iadd] (by decide +kernel) (And.intro trivial ?_)
  rw [nI_add]
  refine hsc.1 _ _ _ _ _ _ (i + 1) (by omega) (by decide +kernel) ?_
  refine z_callV hX kw_L_74 (c_X_had E K N R I L hg hok (by omega) hN hx.1.2.2.2.1 hk.2.2.2.2.1.1 hk.2.2.2.2.1.2 (xs (i + 1))) rfl rfl rfl rfl rfl (by decide +kernel) (by decide) (by decide) (by omega) (by omega) (Nat.le_of_ble_eq_true rfl) ?_
  rintro _ _ ⟨R1, I1, rfl, rfl, a1, a2⟩
  have hm1 := mi_ask h a2
  obtain ⟨bb, hB⟩ := mHB_th hw hm1
  refine bk hX lkL_ok (pc' := 632) [.aload_n 2, .aload_n 0, .iload_n 3, .iconst 1, .iadd] (by decide +kernel) (And.intro trivial ?_)
  rw [nI_add]
  refine hsc.1 _ _ _ _ _ _ (i + 1) (by omega) (by decide +kernel) ?_
  refine z_callV hX kw_L_77 (c_M_had E K N R1 I1 L hg hm1.1.1 hB (by omega) hm1.1.2.2.1 hk.2.2.2.2.1.2 (xs (i + 1))) rfl rfl rfl rfl rfl (by decide +kernel) (by decide) (by decide) (by omega) (by omega) (Nat.le_of_ble_eq_true rfl) ?_
  rintro _ _ ⟨I2, rfl, rfl, b1⟩
  refine ic_eq hX (612) 1248 (by decide +kernel) (by decide) (fun c_636 => ?_) (fun c => absurd (rfl) c)
  refine z_lvk (lv' := [(0, _), (1, _), (2, _), (3, _)]) [0, 1, 2, 3] rfl ?_
  exact kk _ _ _ _ _ _ _ _ (iv_ask h a1 a2 b1) (by omega) (by omega)
theorem lc_15 {X : zX} {E : zE} (hX : zD X E mL 100 600000 7302250 PoL) {n : Nat} {xs : Nat → Int32} (hsc : scR X n xs) {S : St} {K N : Nat → Nat} {R : Nat → Nat → Option Nat} {I : Nat → Nat → Int32} {L : Nat → Nat → Int64} (h : Inv S K N R I L) {i : Nat} (hi : i + 6 ≤ n) (hn : n ≤ 3072) {cells slots : Nat} (hc : cells + 10 ≤ 600000) (hs : slots + 309 ≤ 7302250) (kk : ∀ (S' : St) (K' N' : Nat → Nat) (R' : Nat → Nat → Option Nat) (I' : Nat → Nat → Int32) (L' : Nat → Nat → Int64) (c s : Nat), Inv S' K' N' R' I' L' → c ≤ cells + 10 → s ≤ slots + 309 → zS X (sg K' N' R' I' L') c s 1248 [(0, .ref 1000), (1, .ref 200), (2, .ref 100), (3, .int (nI i))] []) : zS X (sg K N R I L) cells slots 641 [(0, .ref 1000), (1, .ref 200), (2, .ref 100), (3, .int (nI i))] [] := by
  have hw := h.1
  have hm := h.2.1
  have hx := h.2.2
  have hk := hw.1
  have hg := hk.1
  have hd := hk.2.1
  have hok := wok_th hw hk
  have hT := hw.2.2.2.2.2
  have hN : xN S.k.g (thW S.ml S.k.th) K N R I := ⟨hx.1.1, hx.1.2.1, hx.1.2.2.1⟩
  refine bk hX lkL_ok (pc' := 646) [.aload_n 1, .aload_n 0, .iload_n 3, .iconst 1, .iadd] (by decide +kernel) (And.intro trivial ?_)
  rw [nI_add]
  refine hsc.1 _ _ _ _ _ _ (i + 1) (by omega) (by decide +kernel) ?_
  refine bk hX lkL_ok (pc' := 651) [.aload_n 0, .iload_n 3, .iconst 2, .iadd] (by decide +kernel) (And.intro trivial ?_)
  rw [nI_add]
  refine hsc.1 _ _ _ _ _ _ (i + 2) (by omega) (by decide +kernel) ?_
  refine z_callV hX kw_L_78 (c_X_can E K N R I L hg hok (by omega) hN hx.1.2.2.2.1 hk.2.2.2.2.1.1 hk.2.2.2.2.1.2 hx.2.2.2.2.2.2 (xs (i + 1)) (xs (i + 2))) rfl rfl rfl rfl rfl (by decide +kernel) (by decide) (by decide) (by omega) (by omega) (Nat.le_of_ble_eq_true rfl) ?_
  rintro _ _ ⟨K1, R1, I1, rfl, rfl, a1⟩
  have hm1 := mi_can h a1
  obtain ⟨bb, hB⟩ := mHB_th hw hm1
  refine bk hX lkL_ok (pc' := 660) [.aload_n 2, .aload_n 0, .iload_n 3, .iconst 1, .iadd] (by decide +kernel) (And.intro trivial ?_)
  rw [nI_add]
  refine hsc.1 _ _ _ _ _ _ (i + 1) (by omega) (by decide +kernel) ?_
  refine bk hX lkL_ok (pc' := 665) [.aload_n 0, .iload_n 3, .iconst 2, .iadd] (by decide +kernel) (And.intro trivial ?_)
  rw [nI_add]
  refine hsc.1 _ _ _ _ _ _ (i + 2) (by omega) (by decide +kernel) ?_
  refine z_callV hX kw_L_81 (c_M_can E K1 N R1 I1 L hg hm1.1.1 hB (by omega) hm1.1.2.2.1 hk.2.2.2.2.1.2 (xs (i + 1)) (xs (i + 2))) rfl rfl rfl rfl rfl (by decide +kernel) (by decide) (by decide) (by omega) (by omega) (Nat.le_of_ble_eq_true rfl) ?_
  rintro _ _ ⟨I2, rfl, rfl, b1⟩
  refine ic_eq hX (579) 1248 (by decide +kernel) (by decide) (fun c_669 => ?_) (fun c => absurd (rfl) c)
  refine z_lvk (lv' := [(0, _), (1, _), (2, _), (3, _)]) [0, 1, 2, 3] rfl ?_
  exact kk _ _ _ _ _ _ _ _ (iv_can h a1 b1) (by omega) (by omega)
theorem lc_16 {X : zX} {E : zE} (hX : zD X E mL 100 600000 7302250 PoL) {n : Nat} {xs : Nat → Int32} (hsc : scR X n xs) {S : St} {K N : Nat → Nat} {R : Nat → Nat → Option Nat} {I : Nat → Nat → Int32} {L : Nat → Nat → Int64} (h : Inv S K N R I L) {i : Nat} (hi : i + 6 ≤ n) (hn : n ≤ 3072) {cells slots : Nat} (hc : cells + 10 ≤ 600000) (hs : slots + 309 ≤ 7302250) (kk : ∀ (S' : St) (K' N' : Nat → Nat) (R' : Nat → Nat → Option Nat) (I' : Nat → Nat → Int32) (L' : Nat → Nat → Int64) (c s : Nat), Inv S' K' N' R' I' L' → c ≤ cells + 10 → s ≤ slots + 309 → zS X (sg K' N' R' I' L') c s 1248 [(0, .ref 1000), (1, .ref 200), (2, .ref 100), (3, .int (nI i))] []) : zS X (sg K N R I L) cells slots 674 [(0, .ref 1000), (1, .ref 200), (2, .ref 100), (3, .int (nI i))] [] := by
  have hw := h.1
  have hm := h.2.1
  have hx := h.2.2
  have hk := hw.1
  have hg := hk.1
  have hd := hk.2.1
  have hok := wok_th hw hk
  have hT := hw.2.2.2.2.2
  have hN : xN S.k.g (thW S.ml S.k.th) K N R I := ⟨hx.1.1, hx.1.2.1, hx.1.2.2.1⟩
  refine bk hX lkL_ok (pc' := 679) [.aload_n 1, .aload_n 0, .iload_n 3, .iconst 1, .iadd] (by decide +kernel) (And.intro trivial ?_)
  rw [nI_add]
  refine hsc.1 _ _ _ _ _ _ (i + 1) (by omega) (by decide +kernel) ?_
  refine bk hX lkL_ok (pc' := 684) [.aload_n 0, .iload_n 3, .iconst 2, .iadd] (by decide +kernel) (And.intro trivial ?_)
  rw [nI_add]
  refine hsc.1 _ _ _ _ _ _ (i + 2) (by omega) (by decide +kernel) ?_
  refine bk hX lkL_ok (pc' := 689) [.aload_n 0, .iload_n 3, .iconst 3, .iadd] (by decide +kernel) (And.intro trivial ?_)
  rw [nI_add]
  refine hsc.1 _ _ _ _ _ _ (i + 3) (by omega) (by decide +kernel) ?_
  refine z_callV hX kw_L_82 (c_X_odds E K N R I L hg hok (by omega) hN (xs (i + 1)) (xs (i + 2)) (xs (i + 3))) rfl rfl rfl rfl rfl (by decide +kernel) (by decide) (by decide) (by omega) (by omega) (Nat.le_of_ble_eq_true rfl) ?_
  rintro _ _ ⟨R1, I1, rfl, rfl, a1, a2⟩
  have hm1 := mi_ask h a2
  obtain ⟨bb, hB⟩ := mHB_th hw hm1
  refine bk hX lkL_ok (pc' := 698) [.aload_n 2, .aload_n 0, .iload_n 3, .iconst 1, .iadd] (by decide +kernel) (And.intro trivial ?_)
  rw [nI_add]
  refine hsc.1 _ _ _ _ _ _ (i + 1) (by omega) (by decide +kernel) ?_
  refine bk hX lkL_ok (pc' := 703) [.aload_n 0, .iload_n 3, .iconst 2, .iadd] (by decide +kernel) (And.intro trivial ?_)
  rw [nI_add]
  refine hsc.1 _ _ _ _ _ _ (i + 2) (by omega) (by decide +kernel) ?_
  refine bk hX lkL_ok (pc' := 708) [.aload_n 0, .iload_n 3, .iconst 3, .iadd] (by decide +kernel) (And.intro trivial ?_)
  rw [nI_add]
  refine hsc.1 _ _ _ _ _ _ (i + 3) (by omega) (by decide +kernel) ?_
  refine z_callV hX kw_L_86 (c_M_odds E K N R1 I1 L hg hm1.1.1 hB (by omega) (xs (i + 1)) (xs (i + 2)) (xs (i + 3))) rfl rfl rfl rfl rfl (by decide +kernel) (by decide) (by decide) (by omega) (by omega) (Nat.le_of_ble_eq_true rfl) ?_
  rintro _ _ ⟨I2, rfl, rfl, b1⟩
  refine bk hX lkL_ok (pc' := 713) [.lcmp] (by decide +kernel) (And.intro trivial ?_)
  refine if_eq hX (535) 1248 (by decide +kernel) (by decide) (fun c_713 => ?_) (fun c => absurd (lg_same _) c)
  refine z_lvk (lv' := [(0, _), (1, _), (2, _), (3, _)]) [0, 1, 2, 3] rfl ?_
  exact kk _ _ _ _ _ _ _ _ (iv_ask h a1 a2 b1) (by omega) (by omega)
theorem lc_17 {X : zX} {E : zE} (hX : zD X E mL 100 600000 7302250 PoL) {n : Nat} {xs : Nat → Int32} (hsc : scR X n xs) {S : St} {K N : Nat → Nat} {R : Nat → Nat → Option Nat} {I : Nat → Nat → Int32} {L : Nat → Nat → Int64} (h : Inv S K N R I L) {i : Nat} (hi : i + 6 ≤ n) (hn : n ≤ 3072) {cells slots : Nat} (hc : cells + 10 ≤ 600000) (hs : slots + 309 ≤ 7302250) (kk : ∀ (S' : St) (K' N' : Nat → Nat) (R' : Nat → Nat → Option Nat) (I' : Nat → Nat → Int32) (L' : Nat → Nat → Int64) (c s : Nat), Inv S' K' N' R' I' L' → c ≤ cells + 10 → s ≤ slots + 309 → zS X (sg K' N' R' I' L') c s 1248 [(0, .ref 1000), (1, .ref 200), (2, .ref 100), (3, .int (nI i))] []) : zS X (sg K N R I L) cells slots 718 [(0, .ref 1000), (1, .ref 200), (2, .ref 100), (3, .int (nI i))] [] := by
  have hw := h.1
  have hm := h.2.1
  have hx := h.2.2
  have hk := hw.1
  have hg := hk.1
  have hd := hk.2.1
  have hok := wok_th hw hk
  have hT := hw.2.2.2.2.2
  have hN : xN S.k.g (thW S.ml S.k.th) K N R I := ⟨hx.1.1, hx.1.2.1, hx.1.2.2.1⟩
  refine bk hX lkL_ok (pc' := 723) [.aload_n 1, .aload_n 0, .iload_n 3, .iconst 1, .iadd] (by decide +kernel) (And.intro trivial ?_)
  rw [nI_add]
  refine hsc.1 _ _ _ _ _ _ (i + 1) (by omega) (by decide +kernel) ?_
  refine bk hX lkL_ok (pc' := 728) [.aload_n 0, .iload_n 3, .iconst 2, .iadd] (by decide +kernel) (And.intro trivial ?_)
  rw [nI_add]
  refine hsc.1 _ _ _ _ _ _ (i + 2) (by omega) (by decide +kernel) ?_
  refine z_callV hX kw_L_87 (c_X_mean E K N R I L hg hok (by omega) hN (xs (i + 1)) (xs (i + 2))) rfl rfl rfl rfl rfl (by decide +kernel) (by decide) (by decide) (by omega) (by omega) (Nat.le_of_ble_eq_true rfl) ?_
  rintro _ _ ⟨R1, I1, rfl, rfl, a1, a2⟩
  have hm1 := mi_ask h a2
  obtain ⟨bb, hB⟩ := mHB_th hw hm1
  refine bk hX lkL_ok (pc' := 737) [.aload_n 2, .aload_n 0, .iload_n 3, .iconst 1, .iadd] (by decide +kernel) (And.intro trivial ?_)
  rw [nI_add]
  refine hsc.1 _ _ _ _ _ _ (i + 1) (by omega) (by decide +kernel) ?_
  refine bk hX lkL_ok (pc' := 742) [.aload_n 0, .iload_n 3, .iconst 2, .iadd] (by decide +kernel) (And.intro trivial ?_)
  rw [nI_add]
  refine hsc.1 _ _ _ _ _ _ (i + 2) (by omega) (by decide +kernel) ?_
  refine z_callV hX kw_L_91 (c_M_mean E K N R1 I1 L hg hm1.1.1 hB (by omega) (xs (i + 1)) (xs (i + 2))) rfl rfl rfl rfl rfl (by decide +kernel) (by decide) (by decide) (by omega) (by omega) (Nat.le_of_ble_eq_true rfl) ?_
  rintro _ _ ⟨I2, rfl, rfl, b1⟩
  refine bk hX lkL_ok (pc' := 747) [.lcmp] (by decide +kernel) (And.intro trivial ?_)
  refine if_eq hX (501) 1248 (by decide +kernel) (by decide) (fun c_747 => ?_) (fun c => absurd (lg_same _) c)
  refine z_lvk (lv' := [(0, _), (1, _), (2, _), (3, _)]) [0, 1, 2, 3] rfl ?_
  exact kk _ _ _ _ _ _ _ _ (iv_ask h a1 a2 b1) (by omega) (by omega)
theorem lc_18 {X : zX} {E : zE} (hX : zD X E mL 100 600000 7302250 PoL) {n : Nat} {xs : Nat → Int32} (hsc : scR X n xs) {S : St} {K N : Nat → Nat} {R : Nat → Nat → Option Nat} {I : Nat → Nat → Int32} {L : Nat → Nat → Int64} (h : Inv S K N R I L) {i : Nat} (hi : i + 6 ≤ n) (hn : n ≤ 3072) {cells slots : Nat} (hc : cells + 10 ≤ 600000) (hs : slots + 309 ≤ 7302250) (kk : ∀ (S' : St) (K' N' : Nat → Nat) (R' : Nat → Nat → Option Nat) (I' : Nat → Nat → Int32) (L' : Nat → Nat → Int64) (c s : Nat), Inv S' K' N' R' I' L' → c ≤ cells + 10 → s ≤ slots + 309 → zS X (sg K' N' R' I' L') c s 1248 [(0, .ref 1000), (1, .ref 200), (2, .ref 100), (3, .int (nI i))] []) : zS X (sg K N R I L) cells slots 752 [(0, .ref 1000), (1, .ref 200), (2, .ref 100), (3, .int (nI i))] [] := by
  have hw := h.1
  have hm := h.2.1
  have hx := h.2.2
  have hk := hw.1
  have hg := hk.1
  have hd := hk.2.1
  have hok := wok_th hw hk
  have hT := hw.2.2.2.2.2
  have hN : xN S.k.g (thW S.ml S.k.th) K N R I := ⟨hx.1.1, hx.1.2.1, hx.1.2.2.1⟩
  refine bk hX lkL_ok (pc' := 757) [.aload_n 1, .aload_n 0, .iload_n 3, .iconst 1, .iadd] (by decide +kernel) (And.intro trivial ?_)
  rw [nI_add]
  refine hsc.1 _ _ _ _ _ _ (i + 1) (by omega) (by decide +kernel) ?_
  refine bk hX lkL_ok (pc' := 762) [.aload_n 0, .iload_n 3, .iconst 2, .iadd] (by decide +kernel) (And.intro trivial ?_)
  rw [nI_add]
  refine hsc.1 _ _ _ _ _ _ (i + 2) (by omega) (by decide +kernel) ?_
  refine z_callV hX kw_L_92 (c_X_plan E K N R I L hg hx.1.1 hx.1.2.2.2.2.1 hk.2.2.2.2.2.1.1 (xs (i + 1)) (xs (i + 2))) rfl rfl rfl rfl rfl (by decide +kernel) (by decide) (by decide) (by omega) (by omega) (Nat.le_of_ble_eq_true rfl) ?_
  rintro _ _ ⟨I1, rfl, rfl, y1, fz⟩
  have hm1 := mi_plan h fz
  refine bk hX lkL_ok (pc' := 771) [.aload_n 2, .aload_n 0, .iload_n 3, .iconst 1, .iadd] (by decide +kernel) (And.intro trivial ?_)
  rw [nI_add]
  refine hsc.1 _ _ _ _ _ _ (i + 1) (by omega) (by decide +kernel) ?_
  refine bk hX lkL_ok (pc' := 776) [.aload_n 0, .iload_n 3, .iconst 2, .iadd] (by decide +kernel) (And.intro trivial ?_)
  rw [nI_add]
  refine hsc.1 _ _ _ _ _ _ (i + 2) (by omega) (by decide +kernel) ?_
  refine z_callV hX kw_L_95 (c_M_plan E K N R I1 L hg hm1.1.1 hm1.1.2.2.2.1 (xs (i + 1)) (xs (i + 2))) rfl rfl rfl rfl rfl (by decide +kernel) (by decide) (by decide) (by omega) (by omega) (Nat.le_of_ble_eq_true rfl) ?_
  rintro _ _ ⟨I2, rfl, rfl, y2, f⟩
  refine ic_eq hX (468) 1248 (by decide +kernel) (by decide) (fun c_780 => ?_) (fun c => absurd (rfl) c)
  refine z_lvk (lv' := [(0, _), (1, _), (2, _), (3, _)]) [0, 1, 2, 3] rfl ?_
  exact kk _ _ _ _ _ _ _ _ (iv_plan h (ws_plan hg.1 hk.2.2.2.2.2.1.1 hk.2.2.2.2.2.1.2 (xs (i + 1)) (xs (i + 2))) y1 fz y2 f) (by omega) (by omega)
theorem lc_19 {X : zX} {E : zE} (hX : zD X E mL 100 600000 7302250 PoL) {n : Nat} {xs : Nat → Int32} (hsc : scR X n xs) {S : St} {K N : Nat → Nat} {R : Nat → Nat → Option Nat} {I : Nat → Nat → Int32} {L : Nat → Nat → Int64} (h : Inv S K N R I L) {i : Nat} (hi : i + 6 ≤ n) (hn : n ≤ 3072) {cells slots : Nat} (hc : cells + 10 ≤ 600000) (hs : slots + 309 ≤ 7302250) (kk : ∀ (S' : St) (K' N' : Nat → Nat) (R' : Nat → Nat → Option Nat) (I' : Nat → Nat → Int32) (L' : Nat → Nat → Int64) (c s : Nat), Inv S' K' N' R' I' L' → c ≤ cells + 10 → s ≤ slots + 309 → zS X (sg K' N' R' I' L') c s 1248 [(0, .ref 1000), (1, .ref 200), (2, .ref 100), (3, .int (nI i))] []) : zS X (sg K N R I L) cells slots 785 [(0, .ref 1000), (1, .ref 200), (2, .ref 100), (3, .int (nI i))] [] := by
  have hw := h.1
  have hm := h.2.1
  have hx := h.2.2
  have hk := hw.1
  have hg := hk.1
  have hd := hk.2.1
  have hok := wok_th hw hk
  have hT := hw.2.2.2.2.2
  have hN : xN S.k.g (thW S.ml S.k.th) K N R I := ⟨hx.1.1, hx.1.2.1, hx.1.2.2.1⟩
  refine bk hX lkL_ok (pc' := 790) [.aload_n 1, .aload_n 0, .iload_n 3, .iconst 1, .iadd] (by decide +kernel) (And.intro trivial ?_)
  rw [nI_add]
  refine hsc.1 _ _ _ _ _ _ (i + 1) (by omega) (by decide +kernel) ?_
  refine z_callV hX kw_L_96 (c_X_ends E K N R I L hg hok (by omega) hN hx.1.2.2.2.2.1 hk.2.2.2.2.2.1.1 hk.2.2.2.2.2.1.2 (xs (i + 1))) rfl rfl rfl rfl rfl (by decide +kernel) (by decide) (by decide) (by omega) (by omega) (Nat.le_of_ble_eq_true rfl) ?_
  rintro _ _ ⟨R1, I1, rfl, rfl, a1, a2⟩
  have hm1 := mi_ask h a2
  obtain ⟨bb, hB⟩ := mHB_th hw hm1
  refine bk hX lkL_ok (pc' := 799) [.aload_n 2, .aload_n 0, .iload_n 3, .iconst 1, .iadd] (by decide +kernel) (And.intro trivial ?_)
  rw [nI_add]
  refine hsc.1 _ _ _ _ _ _ (i + 1) (by omega) (by decide +kernel) ?_
  refine z_callV hX kw_L_99 (c_M_ends E K N R1 I1 L hg hm1.1.1 hB (by omega) hm1.1.2.2.2.1 hk.2.2.2.2.2.1.2 (xs (i + 1))) rfl rfl rfl rfl rfl (by decide +kernel) (by decide) (by decide) (by omega) (by omega) (Nat.le_of_ble_eq_true rfl) ?_
  rintro _ _ ⟨I2, rfl, rfl, b1⟩
  refine ic_eq hX (445) 1248 (by decide +kernel) (by decide) (fun c_803 => ?_) (fun c => absurd (rfl) c)
  refine z_lvk (lv' := [(0, _), (1, _), (2, _), (3, _)]) [0, 1, 2, 3] rfl ?_
  exact kk _ _ _ _ _ _ _ _ (iv_ask h a1 a2 b1) (by omega) (by omega)
theorem lc_20 {X : zX} {E : zE} (hX : zD X E mL 100 600000 7302250 PoL) {n : Nat} {xs : Nat → Int32} (hsc : scR X n xs) {S : St} {K N : Nat → Nat} {R : Nat → Nat → Option Nat} {I : Nat → Nat → Int32} {L : Nat → Nat → Int64} (h : Inv S K N R I L) {i : Nat} (hi : i + 6 ≤ n) (hn : n ≤ 3072) {cells slots : Nat} (hc : cells + 10 ≤ 600000) (hs : slots + 309 ≤ 7302250) (kk : ∀ (S' : St) (K' N' : Nat → Nat) (R' : Nat → Nat → Option Nat) (I' : Nat → Nat → Int32) (L' : Nat → Nat → Int64) (c s : Nat), Inv S' K' N' R' I' L' → c ≤ cells + 10 → s ≤ slots + 309 → zS X (sg K' N' R' I' L') c s 1248 [(0, .ref 1000), (1, .ref 200), (2, .ref 100), (3, .int (nI i))] []) : zS X (sg K N R I L) cells slots 808 [(0, .ref 1000), (1, .ref 200), (2, .ref 100), (3, .int (nI i))] [] := by
  have hw := h.1
  have hm := h.2.1
  have hx := h.2.2
  have hk := hw.1
  have hg := hk.1
  have hd := hk.2.1
  have hok := wok_th hw hk
  have hT := hw.2.2.2.2.2
  have hN : xN S.k.g (thW S.ml S.k.th) K N R I := ⟨hx.1.1, hx.1.2.1, hx.1.2.2.1⟩
  refine bk hX lkL_ok (pc' := 813) [.aload_n 1, .aload_n 0, .iload_n 3, .iconst 1, .iadd] (by decide +kernel) (And.intro trivial ?_)
  rw [nI_add]
  refine hsc.1 _ _ _ _ _ _ (i + 1) (by omega) (by decide +kernel) ?_
  refine bk hX lkL_ok (pc' := 818) [.aload_n 0, .iload_n 3, .iconst 2, .iadd] (by decide +kernel) (And.intro trivial ?_)
  rw [nI_add]
  refine hsc.1 _ _ _ _ _ _ (i + 2) (by omega) (by decide +kernel) ?_
  refine z_callV hX kw_L_100 (c_X_book E K N R I L hg hx.1.1 hx.1.2.2.2.2.2.1 hk.2.2.2.2.2.2.1 (xs (i + 1)) (xs (i + 2))) rfl rfl rfl rfl rfl (by decide +kernel) (by decide) (by decide) (by omega) (by omega) (Nat.le_of_ble_eq_true rfl) ?_
  rintro _ _ ⟨I1, rfl, rfl, y1, fz⟩
  have hm1 := mi_book h fz
  refine bk hX lkL_ok (pc' := 827) [.aload_n 2, .aload_n 0, .iload_n 3, .iconst 1, .iadd] (by decide +kernel) (And.intro trivial ?_)
  rw [nI_add]
  refine hsc.1 _ _ _ _ _ _ (i + 1) (by omega) (by decide +kernel) ?_
  refine bk hX lkL_ok (pc' := 832) [.aload_n 0, .iload_n 3, .iconst 2, .iadd] (by decide +kernel) (And.intro trivial ?_)
  rw [nI_add]
  refine hsc.1 _ _ _ _ _ _ (i + 2) (by omega) (by decide +kernel) ?_
  refine z_callV hX kw_L_103 (c_M_book E K N R I1 L hg hm1.1.1 hm1.1.2.2.2.2 (xs (i + 1)) (xs (i + 2))) rfl rfl rfl rfl rfl (by decide +kernel) (by decide) (by decide) (by omega) (by omega) (Nat.le_of_ble_eq_true rfl) ?_
  rintro _ _ ⟨I2, rfl, rfl, y2, f⟩
  refine ic_eq hX (412) 1248 (by decide +kernel) (by decide) (fun c_836 => ?_) (fun c => absurd (rfl) c)
  refine z_lvk (lv' := [(0, _), (1, _), (2, _), (3, _)]) [0, 1, 2, 3] rfl ?_
  exact kk _ _ _ _ _ _ _ _ (iv_book h (ws_book hg.1 hk.2.2.2.2.2.2.1 hk.2.2.2.2.2.2.2 (xs (i + 1)) (xs (i + 2))) y1 fz y2 f) (by omega) (by omega)
theorem lc_21 {X : zX} {E : zE} (hX : zD X E mL 100 600000 7302250 PoL) {n : Nat} {xs : Nat → Int32} (hsc : scR X n xs) {S : St} {K N : Nat → Nat} {R : Nat → Nat → Option Nat} {I : Nat → Nat → Int32} {L : Nat → Nat → Int64} (h : Inv S K N R I L) {i : Nat} (hi : i + 6 ≤ n) (hn : n ≤ 3072) {cells slots : Nat} (hc : cells + 10 ≤ 600000) (hs : slots + 309 ≤ 7302250) (kk : ∀ (S' : St) (K' N' : Nat → Nat) (R' : Nat → Nat → Option Nat) (I' : Nat → Nat → Int32) (L' : Nat → Nat → Int64) (c s : Nat), Inv S' K' N' R' I' L' → c ≤ cells + 10 → s ≤ slots + 309 → zS X (sg K' N' R' I' L') c s 1248 [(0, .ref 1000), (1, .ref 200), (2, .ref 100), (3, .int (nI i))] []) : zS X (sg K N R I L) cells slots 841 [(0, .ref 1000), (1, .ref 200), (2, .ref 100), (3, .int (nI i))] [] := by
  have hw := h.1
  have hm := h.2.1
  have hx := h.2.2
  have hk := hw.1
  have hg := hk.1
  have hd := hk.2.1
  have hok := wok_th hw hk
  have hT := hw.2.2.2.2.2
  have hN : xN S.k.g (thW S.ml S.k.th) K N R I := ⟨hx.1.1, hx.1.2.1, hx.1.2.2.1⟩
  refine bk hX lkL_ok (pc' := 842) [.aload_n 1] (by decide +kernel) (And.intro trivial ?_)
  refine z_callV hX kw_L_104 (c_X_looked E K N R I L hg hx.1.1 hx.1.2.2.2.2.2.1 hk.2.2.2.2.2.2.1 hk.2.2.2.2.2.2.2) rfl rfl rfl rfl rfl (by decide +kernel) (by decide) (by decide) (by omega) (by omega) (Nat.le_of_ble_eq_true rfl) ?_
  rintro _ _ ⟨rfl, rfl⟩
  refine bk hX lkL_ok (pc' := 846) [.aload_n 2] (by decide +kernel) (And.intro trivial ?_)
  refine z_callV hX kw_L_107 (c_M_looked E K N R I L hg hm.1.1 hm.1.2.2.2.2 hk.2.2.2.2.2.2.2) rfl rfl rfl rfl rfl (by decide +kernel) (by decide) (by decide) (by omega) (by omega) (Nat.le_of_ble_eq_true rfl) ?_
  rintro _ _ ⟨rfl, rfl⟩
  refine ic_eq hX (399) 1248 (by decide +kernel) (by decide) (fun c_849 => ?_) (fun c => absurd (rfl) c)
  refine z_lvk (lv' := [(0, _), (1, _), (2, _), (3, _)]) [0, 1, 2, 3] rfl ?_
  exact kk _ _ _ _ _ _ _ _ (h) (by omega) (by omega)
theorem lc_22 {X : zX} {E : zE} (hX : zD X E mL 100 600000 7302250 PoL) {n : Nat} {xs : Nat → Int32} (hsc : scR X n xs) {S : St} {K N : Nat → Nat} {R : Nat → Nat → Option Nat} {I : Nat → Nat → Int32} {L : Nat → Nat → Int64} (h : Inv S K N R I L) {i : Nat} (hi : i + 6 ≤ n) (hn : n ≤ 3072) {cells slots : Nat} (hc : cells + 10 ≤ 600000) (hs : slots + 309 ≤ 7302250) (kk : ∀ (S' : St) (K' N' : Nat → Nat) (R' : Nat → Nat → Option Nat) (I' : Nat → Nat → Int32) (L' : Nat → Nat → Int64) (c s : Nat), Inv S' K' N' R' I' L' → c ≤ cells + 10 → s ≤ slots + 309 → zS X (sg K' N' R' I' L') c s 1248 [(0, .ref 1000), (1, .ref 200), (2, .ref 100), (3, .int (nI i))] []) : zS X (sg K N R I L) cells slots 854 [(0, .ref 1000), (1, .ref 200), (2, .ref 100), (3, .int (nI i))] [] := by
  have hw := h.1
  have hm := h.2.1
  have hx := h.2.2
  have hk := hw.1
  have hg := hk.1
  have hd := hk.2.1
  have hok := wok_th hw hk
  have hT := hw.2.2.2.2.2
  have hN : xN S.k.g (thW S.ml S.k.th) K N R I := ⟨hx.1.1, hx.1.2.1, hx.1.2.2.1⟩
  refine bk hX lkL_ok (pc' := 859) [.aload_n 1, .aload_n 0, .iload_n 3, .iconst 1, .iadd] (by decide +kernel) (And.intro trivial ?_)
  rw [nI_add]
  refine hsc.1 _ _ _ _ _ _ (i + 1) (by omega) (by decide +kernel) ?_
  refine bk hX lkL_ok (pc' := 864) [.aload_n 0, .iload_n 3, .iconst 2, .iadd] (by decide +kernel) (And.intro trivial ?_)
  rw [nI_add]
  refine hsc.1 _ _ _ _ _ _ (i + 2) (by omega) (by decide +kernel) ?_
  refine z_callV hX kw_L_108 (c_X_judge E K N R I L hg hx.1.1 hT hx.2.2.2.2.2.1 (xs (i + 1)) (xs (i + 2))) rfl rfl rfl rfl rfl (by decide +kernel) (by decide) (by decide) (by omega) (by omega) (Nat.le_of_ble_eq_true rfl) ?_
  rintro _ _ ⟨rfl, rfl⟩
  refine bk hX lkL_ok (pc' := 873) [.aload_n 2, .aload_n 0, .iload_n 3, .iconst 1, .iadd] (by decide +kernel) (And.intro trivial ?_)
  rw [nI_add]
  refine hsc.1 _ _ _ _ _ _ (i + 1) (by omega) (by decide +kernel) ?_
  refine bk hX lkL_ok (pc' := 878) [.aload_n 0, .iload_n 3, .iconst 2, .iadd] (by decide +kernel) (And.intro trivial ?_)
  rw [nI_add]
  refine hsc.1 _ _ _ _ _ _ (i + 2) (by omega) (by decide +kernel) ?_
  refine z_callV hX kw_L_111 (c_M_judge E K N R I L hg hm.1.1 hT hm.2.2.2.2.2.2.1 (xs (i + 1)) (xs (i + 2))) rfl rfl rfl rfl rfl (by decide +kernel) (by decide) (by decide) (by omega) (by omega) (Nat.le_of_ble_eq_true rfl) ?_
  rintro _ _ ⟨rfl, rfl⟩
  refine ic_eq hX (366) 1248 (by decide +kernel) (by decide) (fun c_882 => ?_) (fun c => absurd (rfl) c)
  refine z_lvk (lv' := [(0, _), (1, _), (2, _), (3, _)]) [0, 1, 2, 3] rfl ?_
  exact kk _ _ _ _ _ _ _ _ (h) (by omega) (by omega)
theorem lc_23 {X : zX} {E : zE} (hX : zD X E mL 100 600000 7302250 PoL) {n : Nat} {xs : Nat → Int32} (hsc : scR X n xs) {S : St} {K N : Nat → Nat} {R : Nat → Nat → Option Nat} {I : Nat → Nat → Int32} {L : Nat → Nat → Int64} (h : Inv S K N R I L) {i : Nat} (hi : i + 6 ≤ n) (hn : n ≤ 3072) {cells slots : Nat} (hc : cells + 10 ≤ 600000) (hs : slots + 309 ≤ 7302250) (kk : ∀ (S' : St) (K' N' : Nat → Nat) (R' : Nat → Nat → Option Nat) (I' : Nat → Nat → Int32) (L' : Nat → Nat → Int64) (c s : Nat), Inv S' K' N' R' I' L' → c ≤ cells + 10 → s ≤ slots + 309 → zS X (sg K' N' R' I' L') c s 1248 [(0, .ref 1000), (1, .ref 200), (2, .ref 100), (3, .int (nI i))] []) : zS X (sg K N R I L) cells slots 887 [(0, .ref 1000), (1, .ref 200), (2, .ref 100), (3, .int (nI i))] [] := by
  have hw := h.1
  have hm := h.2.1
  have hx := h.2.2
  have hk := hw.1
  have hg := hk.1
  have hd := hk.2.1
  have hok := wok_th hw hk
  have hT := hw.2.2.2.2.2
  have hN : xN S.k.g (thW S.ml S.k.th) K N R I := ⟨hx.1.1, hx.1.2.1, hx.1.2.2.1⟩
  refine bk hX lkL_ok (pc' := 888) [.aload_n 1] (by decide +kernel) (And.intro trivial ?_)
  refine z_callV hX kw_L_112 (c_X_image E K N R I L hx.1.1 hx.1.2.2.1 hk.2.2.2.2.1.1 hk.2.2.2.2.2.1.1 hk.2.2.2.2.2.2.1 hx.1.2.2.2.1.1 hx.1.2.2.2.2.1.1 hx.1.2.2.2.2.2.1.1) rfl rfl rfl rfl rfl (by decide +kernel) (by decide) (by decide) (by omega) (by omega) (Nat.le_of_ble_eq_true rfl) ?_
  rintro _ _ ⟨rfl, rfl⟩
  have hm1 := mi_image h
  show zS _ (sg K N (flR 380 300 R) (imgI S I) L) _ _ _ _ _
  refine bk hX lkL_ok (pc' := 892) [.aload_n 2] (by decide +kernel) (And.intro trivial ?_)
  refine z_callV hX kw_L_115 (c_M_image E K N (flR 380 300 R) (imgI S I) L) rfl rfl rfl rfl rfl (by decide +kernel) (by decide) (by decide) (by omega) (by omega) (Nat.le_of_ble_eq_true rfl) ?_
  rintro _ _ ⟨I2, rfl, rfl, y1, y2, y3, f⟩
  rw [hm1.1.1.1]
  refine ic_eq hX (353) 1248 (by decide +kernel) (by decide) (fun c_895 => ?_) (fun c => absurd (rfl) c)
  refine z_lvk (lv' := [(0, _), (1, _), (2, _), (3, _)]) [0, 1, 2, 3] rfl ?_
  exact kk _ _ _ _ _ _ _ _ (iv_image h y1 y2 y3 f) (by omega) (by omega)
theorem lc_25 {X : zX} {E : zE} (hX : zD X E mL 100 600000 7302250 PoL) {n : Nat} {xs : Nat → Int32} (hsc : scR X n xs) {S : St} {K N : Nat → Nat} {R : Nat → Nat → Option Nat} {I : Nat → Nat → Int32} {L : Nat → Nat → Int64} (h : Inv S K N R I L) {i : Nat} (hi : i + 6 ≤ n) (hn : n ≤ 3072) {cells slots : Nat} (hc : cells + 10 ≤ 600000) (hs : slots + 309 ≤ 7302250) (kk : ∀ (S' : St) (K' N' : Nat → Nat) (R' : Nat → Nat → Option Nat) (I' : Nat → Nat → Int32) (L' : Nat → Nat → Int64) (c s : Nat), Inv S' K' N' R' I' L' → c ≤ cells + 10 → s ≤ slots + 309 → zS X (sg K' N' R' I' L') c s 1248 [(0, .ref 1000), (1, .ref 200), (2, .ref 100), (3, .int (nI i))] []) : zS X (sg K N R I L) cells slots 913 [(0, .ref 1000), (1, .ref 200), (2, .ref 100), (3, .int (nI i))] [] := by
  have hw := h.1
  have hm := h.2.1
  have hx := h.2.2
  have hk := hw.1
  have hg := hk.1
  have hd := hk.2.1
  have hok := wok_th hw hk
  have hT := hw.2.2.2.2.2
  have hN : xN S.k.g (thW S.ml S.k.th) K N R I := ⟨hx.1.1, hx.1.2.1, hx.1.2.2.1⟩
  refine bk hX lkL_ok (pc' := 918) [.aload_n 1, .aload_n 0, .iload_n 3, .iconst 1, .iadd] (by decide +kernel) (And.intro trivial ?_)
  rw [nI_add]
  refine hsc.1 _ _ _ _ _ _ (i + 1) (by omega) (by decide +kernel) ?_
  refine bk hX lkL_ok (pc' := 923) [.aload_n 0, .iload_n 3, .iconst 2, .iadd] (by decide +kernel) (And.intro trivial ?_)
  rw [nI_add]
  refine hsc.1 _ _ _ _ _ _ (i + 2) (by omega) (by decide +kernel) ?_
  refine bk hX lkL_ok (pc' := 928) [.aload_n 0, .iload_n 3, .iconst 3, .iadd] (by decide +kernel) (And.intro trivial ?_)
  rw [nI_add]
  refine hsc.1 _ _ _ _ _ _ (i + 3) (by omega) (by decide +kernel) ?_
  refine z_callV hX kw_L_120 (c_X_act E K N R I L hg hx.1.1 hx.2.2.2.2.1 (xs (i + 1)) (xs (i + 2)) (xs (i + 3))) rfl rfl rfl rfl rfl (by decide +kernel) (by decide) (by decide) (by omega) (by omega) (Nat.le_of_ble_eq_true rfl) ?_
  rintro _ _ ⟨I1, rfl, rfl, y1, fb⟩
  have hm1 : mInv S I1 L := mInv_o rfl (fun q hq => fb q (by omega) (by omega)) hm
  refine bk hX lkL_ok (pc' := 937) [.aload_n 2, .aload_n 0, .iload_n 3, .iconst 1, .iadd] (by decide +kernel) (And.intro trivial ?_)
  rw [nI_add]
  refine hsc.1 _ _ _ _ _ _ (i + 1) (by omega) (by decide +kernel) ?_
  refine bk hX lkL_ok (pc' := 942) [.aload_n 0, .iload_n 3, .iconst 2, .iadd] (by decide +kernel) (And.intro trivial ?_)
  rw [nI_add]
  refine hsc.1 _ _ _ _ _ _ (i + 2) (by omega) (by decide +kernel) ?_
  refine bk hX lkL_ok (pc' := 947) [.aload_n 0, .iload_n 3, .iconst 3, .iadd] (by decide +kernel) (And.intro trivial ?_)
  rw [nI_add]
  refine hsc.1 _ _ _ _ _ _ (i + 3) (by omega) (by decide +kernel) ?_
  refine z_callV hX kw_L_123 (c_M_act E K N R I1 L hg hm1.1.1 (xs (i + 1)) (xs (i + 2)) (xs (i + 3))) rfl rfl rfl rfl rfl (by decide +kernel) (by decide) (by decide) (by omega) (by omega) (Nat.le_of_ble_eq_true rfl) ?_
  rintro _ _ ⟨I2, rfl, rfl, y2, f⟩
  refine ic_eq hX (297) 1248 (by decide +kernel) (by decide) (fun c_951 => ?_) (fun c => absurd (rfl) c)
  refine z_lvk (lv' := [(0, _), (1, _), (2, _), (3, _)]) [0, 1, 2, 3] rfl ?_
  exact kk _ _ _ _ _ _ _ _ (iv_act h y1 fb y2 f) (by omega) (by omega)
theorem lc_26 {X : zX} {E : zE} (hX : zD X E mL 100 600000 7302250 PoL) {n : Nat} {xs : Nat → Int32} (hsc : scR X n xs) {S : St} {K N : Nat → Nat} {R : Nat → Nat → Option Nat} {I : Nat → Nat → Int32} {L : Nat → Nat → Int64} (h : Inv S K N R I L) {i : Nat} (hi : i + 6 ≤ n) (hn : n ≤ 3072) {cells slots : Nat} (hc : cells + 10 ≤ 600000) (hs : slots + 309 ≤ 7302250) (kk : ∀ (S' : St) (K' N' : Nat → Nat) (R' : Nat → Nat → Option Nat) (I' : Nat → Nat → Int32) (L' : Nat → Nat → Int64) (c s : Nat), Inv S' K' N' R' I' L' → c ≤ cells + 10 → s ≤ slots + 309 → zS X (sg K' N' R' I' L') c s 1248 [(0, .ref 1000), (1, .ref 200), (2, .ref 100), (3, .int (nI i))] []) : zS X (sg K N R I L) cells slots 956 [(0, .ref 1000), (1, .ref 200), (2, .ref 100), (3, .int (nI i))] [] := by
  have hw := h.1
  have hm := h.2.1
  have hx := h.2.2
  have hk := hw.1
  have hg := hk.1
  have hd := hk.2.1
  have hok := wok_th hw hk
  have hT := hw.2.2.2.2.2
  have hN : xN S.k.g (thW S.ml S.k.th) K N R I := ⟨hx.1.1, hx.1.2.1, hx.1.2.2.1⟩
  refine bk hX lkL_ok (pc' := 961) [.aload_n 1, .aload_n 0, .iload_n 3, .iconst 1, .iadd] (by decide +kernel) (And.intro trivial ?_)
  rw [nI_add]
  refine hsc.1 _ _ _ _ _ _ (i + 1) (by omega) (by decide +kernel) ?_
  refine z_callV hX kw_L_124 (c_X_trace E K N R I L hx.2.2.2.2.1 (xs (i + 1))) rfl rfl rfl rfl rfl (by decide +kernel) (by decide) (by decide) (by omega) (by omega) (Nat.le_of_ble_eq_true rfl) ?_
  rintro _ _ ⟨rfl, rfl⟩
  refine bk hX lkL_ok (pc' := 970) [.aload_n 2, .aload_n 0, .iload_n 3, .iconst 1, .iadd] (by decide +kernel) (And.intro trivial ?_)
  rw [nI_add]
  refine hsc.1 _ _ _ _ _ _ (i + 1) (by omega) (by decide +kernel) ?_
  refine z_callV hX kw_L_127 (c_M_trace E K N R I L hm.2.2.2.2.2.1 (xs (i + 1))) rfl rfl rfl rfl rfl (by decide +kernel) (by decide) (by decide) (by omega) (by omega) (Nat.le_of_ble_eq_true rfl) ?_
  rintro _ _ ⟨rfl, rfl⟩
  refine ic_eq hX (274) 1248 (by decide +kernel) (by decide) (fun c_974 => ?_) (fun c => absurd (rfl) c)
  refine z_lvk (lv' := [(0, _), (1, _), (2, _), (3, _)]) [0, 1, 2, 3] rfl ?_
  exact kk _ _ _ _ _ _ _ _ (h) (by omega) (by omega)
theorem lc_27 {X : zX} {E : zE} (hX : zD X E mL 100 600000 7302250 PoL) {n : Nat} {xs : Nat → Int32} (hsc : scR X n xs) {S : St} {K N : Nat → Nat} {R : Nat → Nat → Option Nat} {I : Nat → Nat → Int32} {L : Nat → Nat → Int64} (h : Inv S K N R I L) {i : Nat} (hi : i + 6 ≤ n) (hn : n ≤ 3072) {cells slots : Nat} (hc : cells + 10 ≤ 600000) (hs : slots + 309 ≤ 7302250) (kk : ∀ (S' : St) (K' N' : Nat → Nat) (R' : Nat → Nat → Option Nat) (I' : Nat → Nat → Int32) (L' : Nat → Nat → Int64) (c s : Nat), Inv S' K' N' R' I' L' → c ≤ cells + 10 → s ≤ slots + 309 → zS X (sg K' N' R' I' L') c s 1248 [(0, .ref 1000), (1, .ref 200), (2, .ref 100), (3, .int (nI i))] []) : zS X (sg K N R I L) cells slots 979 [(0, .ref 1000), (1, .ref 200), (2, .ref 100), (3, .int (nI i))] [] := by
  have hw := h.1
  have hm := h.2.1
  have hx := h.2.2
  have hk := hw.1
  have hg := hk.1
  have hd := hk.2.1
  have hok := wok_th hw hk
  have hT := hw.2.2.2.2.2
  have hN : xN S.k.g (thW S.ml S.k.th) K N R I := ⟨hx.1.1, hx.1.2.1, hx.1.2.2.1⟩
  refine bk hX lkL_ok (pc' := 984) [.aload_n 1, .aload_n 0, .iload_n 3, .iconst 1, .iadd] (by decide +kernel) (And.intro trivial ?_)
  rw [nI_add]
  refine hsc.1 _ _ _ _ _ _ (i + 1) (by omega) (by decide +kernel) ?_
  refine bk hX lkL_ok (pc' := 989) [.aload_n 0, .iload_n 3, .iconst 2, .iadd] (by decide +kernel) (And.intro trivial ?_)
  rw [nI_add]
  refine hsc.1 _ _ _ _ _ _ (i + 2) (by omega) (by decide +kernel) ?_
  refine z_callV hX kw_L_128 (c_X_taken E K N R I L hg hx.1.1 (xs (i + 1)) (xs (i + 2))) rfl rfl rfl rfl rfl (by decide +kernel) (by decide) (by decide) (by omega) (by omega) (Nat.le_of_ble_eq_true rfl) ?_
  rintro _ _ ⟨rfl, rfl⟩
  refine bk hX lkL_ok (pc' := 998) [.aload_n 2, .aload_n 0, .iload_n 3, .iconst 1, .iadd] (by decide +kernel) (And.intro trivial ?_)
  rw [nI_add]
  refine hsc.1 _ _ _ _ _ _ (i + 1) (by omega) (by decide +kernel) ?_
  refine bk hX lkL_ok (pc' := 1003) [.aload_n 0, .iload_n 3, .iconst 2, .iadd] (by decide +kernel) (And.intro trivial ?_)
  rw [nI_add]
  refine hsc.1 _ _ _ _ _ _ (i + 2) (by omega) (by decide +kernel) ?_
  refine z_callV hX kw_L_131 (c_M_taken E K N R I L hg hm.1.1 (xs (i + 1)) (xs (i + 2))) rfl rfl rfl rfl rfl (by decide +kernel) (by decide) (by decide) (by omega) (by omega) (Nat.le_of_ble_eq_true rfl) ?_
  rintro _ _ ⟨rfl, rfl⟩
  refine ic_eq hX (241) 1248 (by decide +kernel) (by decide) (fun c_1007 => ?_) (fun c => absurd (rfl) c)
  refine z_lvk (lv' := [(0, _), (1, _), (2, _), (3, _)]) [0, 1, 2, 3] rfl ?_
  exact kk _ _ _ _ _ _ _ _ (h) (by omega) (by omega)
theorem lc_28 {X : zX} {E : zE} (hX : zD X E mL 100 600000 7302250 PoL) {n : Nat} {xs : Nat → Int32} (hsc : scR X n xs) {S : St} {K N : Nat → Nat} {R : Nat → Nat → Option Nat} {I : Nat → Nat → Int32} {L : Nat → Nat → Int64} (h : Inv S K N R I L) {i : Nat} (hi : i + 6 ≤ n) (hn : n ≤ 3072) {cells slots : Nat} (hc : cells + 10 ≤ 600000) (hs : slots + 309 ≤ 7302250) (kk : ∀ (S' : St) (K' N' : Nat → Nat) (R' : Nat → Nat → Option Nat) (I' : Nat → Nat → Int32) (L' : Nat → Nat → Int64) (c s : Nat), Inv S' K' N' R' I' L' → c ≤ cells + 10 → s ≤ slots + 309 → zS X (sg K' N' R' I' L') c s 1248 [(0, .ref 1000), (1, .ref 200), (2, .ref 100), (3, .int (nI i))] []) : zS X (sg K N R I L) cells slots 1012 [(0, .ref 1000), (1, .ref 200), (2, .ref 100), (3, .int (nI i))] [] := by
  have hw := h.1
  have hm := h.2.1
  have hx := h.2.2
  have hk := hw.1
  have hg := hk.1
  have hd := hk.2.1
  have hok := wok_th hw hk
  have hT := hw.2.2.2.2.2
  have hN : xN S.k.g (thW S.ml S.k.th) K N R I := ⟨hx.1.1, hx.1.2.1, hx.1.2.2.1⟩
  refine bk hX lkL_ok (pc' := 1017) [.aload_n 1, .aload_n 0, .iload_n 3, .iconst 1, .iadd] (by decide +kernel) (And.intro trivial ?_)
  rw [nI_add]
  refine hsc.1 _ _ _ _ _ _ (i + 1) (by omega) (by decide +kernel) ?_
  refine z_callV hX kw_L_132 (c_X_count E K N R I L hx.2.2.2.2.1 hx.1.1.1 hx.2.2.1 hx.1.2.2.2.1.1 hx.1.2.2.2.2.1.1 hx.1.2.2.2.2.2.1.1 hx.2.2.2.1.1 (xs (i + 1))) rfl rfl rfl rfl rfl (by decide +kernel) (by decide) (by decide) (by omega) (by omega) (Nat.le_of_ble_eq_true rfl) ?_
  rintro _ _ ⟨rfl, rfl⟩
  refine bk hX lkL_ok (pc' := 1026) [.aload_n 2, .aload_n 0, .iload_n 3, .iconst 1, .iadd] (by decide +kernel) (And.intro trivial ?_)
  rw [nI_add]
  refine hsc.1 _ _ _ _ _ _ (i + 1) (by omega) (by decide +kernel) ?_
  refine z_callV hX kw_L_135 (c_M_count E K N R I L hm.1.1.1 hm.2.2.1 hm.1.2.2.1.1 hm.1.2.2.2.1.1 hm.1.2.2.2.2.1 hm.2.2.2.2.1.1 hm.2.2.2.2.2.1.1 (xs (i + 1))) rfl rfl rfl rfl rfl (by decide +kernel) (by decide) (by decide) (by omega) (by omega) (Nat.le_of_ble_eq_true rfl) ?_
  rintro _ _ ⟨rfl, rfl⟩
  refine ic_eq hX (218) 1248 (by decide +kernel) (by decide) (fun c_1030 => ?_) (fun c => absurd (rfl) c)
  refine z_lvk (lv' := [(0, _), (1, _), (2, _), (3, _)]) [0, 1, 2, 3] rfl ?_
  exact kk _ _ _ _ _ _ _ _ (h) (by omega) (by omega)
theorem lc_29 {X : zX} {E : zE} (hX : zD X E mL 100 600000 7302250 PoL) {n : Nat} {xs : Nat → Int32} (hsc : scR X n xs) {S : St} {K N : Nat → Nat} {R : Nat → Nat → Option Nat} {I : Nat → Nat → Int32} {L : Nat → Nat → Int64} (h : Inv S K N R I L) {i : Nat} (hi : i + 6 ≤ n) (hn : n ≤ 3072) {cells slots : Nat} (hc : cells + 10 ≤ 600000) (hs : slots + 309 ≤ 7302250) (kk : ∀ (S' : St) (K' N' : Nat → Nat) (R' : Nat → Nat → Option Nat) (I' : Nat → Nat → Int32) (L' : Nat → Nat → Int64) (c s : Nat), Inv S' K' N' R' I' L' → c ≤ cells + 10 → s ≤ slots + 309 → zS X (sg K' N' R' I' L') c s 1248 [(0, .ref 1000), (1, .ref 200), (2, .ref 100), (3, .int (nI i))] []) : zS X (sg K N R I L) cells slots 1035 [(0, .ref 1000), (1, .ref 200), (2, .ref 100), (3, .int (nI i))] [] := by
  have hw := h.1
  have hm := h.2.1
  have hx := h.2.2
  have hk := hw.1
  have hg := hk.1
  have hd := hk.2.1
  have hok := wok_th hw hk
  have hT := hw.2.2.2.2.2
  have hN : xN S.k.g (thW S.ml S.k.th) K N R I := ⟨hx.1.1, hx.1.2.1, hx.1.2.2.1⟩
  refine bk hX lkL_ok (pc' := 1040) [.aload_n 1, .aload_n 0, .iload_n 3, .iconst 1, .iadd] (by decide +kernel) (And.intro trivial ?_)
  rw [nI_add]
  refine hsc.1 _ _ _ _ _ _ (i + 1) (by omega) (by decide +kernel) ?_
  refine bk hX lkL_ok (pc' := 1045) [.aload_n 0, .iload_n 3, .iconst 2, .iadd] (by decide +kernel) (And.intro trivial ?_)
  rw [nI_add]
  refine hsc.1 _ _ _ _ _ _ (i + 2) (by omega) (by decide +kernel) ?_
  refine bk hX lkL_ok (pc' := 1050) [.aload_n 0, .iload_n 3, .iconst 3, .iadd] (by decide +kernel) (And.intro trivial ?_)
  rw [nI_add]
  refine hsc.1 _ _ _ _ _ _ (i + 3) (by omega) (by decide +kernel) ?_
  refine z_callV hX kw_L_136 (c_X_tape E K N R I L hT hx.2.2.2.2.2.1 (xs (i + 1)) (xs (i + 2)) (xs (i + 3))) rfl rfl rfl rfl rfl (by decide +kernel) (by decide) (by decide) (by omega) (by omega) (Nat.le_of_ble_eq_true rfl) ?_
  rintro _ _ ⟨I1, L1, rfl, rfl, y1, e, fk⟩
  have hm1 := mi_tape h e fk
  refine bk hX lkL_ok (pc' := 1059) [.aload_n 2, .aload_n 0, .iload_n 3, .iconst 1, .iadd] (by decide +kernel) (And.intro trivial ?_)
  rw [nI_add]
  refine hsc.1 _ _ _ _ _ _ (i + 1) (by omega) (by decide +kernel) ?_
  refine bk hX lkL_ok (pc' := 1064) [.aload_n 0, .iload_n 3, .iconst 2, .iadd] (by decide +kernel) (And.intro trivial ?_)
  rw [nI_add]
  refine hsc.1 _ _ _ _ _ _ (i + 2) (by omega) (by decide +kernel) ?_
  refine bk hX lkL_ok (pc' := 1069) [.aload_n 0, .iload_n 3, .iconst 3, .iadd] (by decide +kernel) (And.intro trivial ?_)
  rw [nI_add]
  refine hsc.1 _ _ _ _ _ _ (i + 3) (by omega) (by decide +kernel) ?_
  refine z_callV hX kw_L_139 (c_M_tape E K N R I1 L1 (fun t ht => (hT t ht).2) hm1.2.2.2.2.2.2.1 (xs (i + 1)) (xs (i + 2)) (xs (i + 3))) rfl rfl rfl rfl rfl (by decide +kernel) (by decide) (by decide) (by omega) (by omega) (Nat.le_of_ble_eq_true rfl) ?_
  rintro _ _ ⟨I2, L2, rfl, rfl, y2, f, fl⟩
  refine ic_eq hX (175) 1248 (by decide +kernel) (by decide) (fun c_1073 => ?_) (fun c => absurd (rfl) c)
  refine z_lvk (lv' := [(0, _), (1, _), (2, _), (3, _)]) [0, 1, 2, 3] rfl ?_
  exact kk _ _ _ _ _ _ _ _ (iv_tape h (tpw_tap hT (xs (i + 1)) (xs (i + 2)) (xs (i + 3))) y1 e fk y2 f fl) (by omega) (by omega)
theorem lc_30 {X : zX} {E : zE} (hX : zD X E mL 100 600000 7302250 PoL) {n : Nat} {xs : Nat → Int32} (hsc : scR X n xs) {S : St} {K N : Nat → Nat} {R : Nat → Nat → Option Nat} {I : Nat → Nat → Int32} {L : Nat → Nat → Int64} (h : Inv S K N R I L) {i : Nat} (hi : i + 6 ≤ n) (hn : n ≤ 3072) {cells slots : Nat} (hc : cells + 10 ≤ 600000) (hs : slots + 309 ≤ 7302250) (kk : ∀ (S' : St) (K' N' : Nat → Nat) (R' : Nat → Nat → Option Nat) (I' : Nat → Nat → Int32) (L' : Nat → Nat → Int64) (c s : Nat), Inv S' K' N' R' I' L' → c ≤ cells + 10 → s ≤ slots + 309 → zS X (sg K' N' R' I' L') c s 1248 [(0, .ref 1000), (1, .ref 200), (2, .ref 100), (3, .int (nI i))] []) : zS X (sg K N R I L) cells slots 1078 [(0, .ref 1000), (1, .ref 200), (2, .ref 100), (3, .int (nI i))] [] := by
  have hw := h.1
  have hm := h.2.1
  have hx := h.2.2
  have hk := hw.1
  have hg := hk.1
  have hd := hk.2.1
  have hok := wok_th hw hk
  have hT := hw.2.2.2.2.2
  have hN : xN S.k.g (thW S.ml S.k.th) K N R I := ⟨hx.1.1, hx.1.2.1, hx.1.2.2.1⟩
  refine bk hX lkL_ok (pc' := 1083) [.aload_n 1, .aload_n 0, .iload_n 3, .iconst 1, .iadd] (by decide +kernel) (And.intro trivial ?_)
  rw [nI_add]
  refine hsc.1 _ _ _ _ _ _ (i + 1) (by omega) (by decide +kernel) ?_
  refine bk hX lkL_ok (pc' := 1088) [.aload_n 0, .iload_n 3, .iconst 2, .iadd] (by decide +kernel) (And.intro trivial ?_)
  rw [nI_add]
  refine hsc.1 _ _ _ _ _ _ (i + 2) (by omega) (by decide +kernel) ?_
  refine bk hX lkL_ok (pc' := 1093) [.aload_n 0, .iload_n 3, .iconst 3, .iadd] (by decide +kernel) (And.intro trivial ?_)
  rw [nI_add]
  refine hsc.1 _ _ _ _ _ _ (i + 3) (by omega) (by decide +kernel) ?_
  refine bk hX lkL_ok (pc' := 1102) [.i2l, .bipush 32, .lshl, .aload_n 0, .iload_n 3, .iconst 4, .iadd] (by decide +kernel) (And.intro trivial ?_)
  rw [nI_add]
  refine hsc.1 _ _ _ _ _ _ (i + 4) (by omega) (by decide +kernel) ?_
  refine bk hX lkL_ok (pc' := 1109) [.i2l, .ldc2_w 140, .land, .lor] (by decide +kernel) (And.intro trivial ?_)
  refine z_callV hX kw_L_142 (c_X_item E K N R I L hT hx.2.2.2.2.2.1 (xs (i + 1)) (xs (i + 2)) _) rfl rfl rfl rfl rfl (by decide +kernel) (by decide) (by decide) (by omega) (by omega) (Nat.le_of_ble_eq_true rfl) ?_
  rintro _ _ ⟨L1, rfl, rfl, y1, fk⟩
  have hm1 := mi_tape h (fun _ _ _ => rfl) fk
  refine bk hX lkL_ok (pc' := 1117) [.aload_n 2, .aload_n 0, .iload_n 3, .iconst 1, .iadd] (by decide +kernel) (And.intro trivial ?_)
  rw [nI_add]
  refine hsc.1 _ _ _ _ _ _ (i + 1) (by omega) (by decide +kernel) ?_
  refine bk hX lkL_ok (pc' := 1122) [.aload_n 0, .iload_n 3, .iconst 2, .iadd] (by decide +kernel) (And.intro trivial ?_)
  rw [nI_add]
  refine hsc.1 _ _ _ _ _ _ (i + 2) (by omega) (by decide +kernel) ?_
  refine bk hX lkL_ok (pc' := 1127) [.aload_n 0, .iload_n 3, .iconst 3, .iadd] (by decide +kernel) (And.intro trivial ?_)
  rw [nI_add]
  refine hsc.1 _ _ _ _ _ _ (i + 3) (by omega) (by decide +kernel) ?_
  refine bk hX lkL_ok (pc' := 1136) [.i2l, .bipush 32, .lshl, .aload_n 0, .iload_n 3, .iconst 4, .iadd] (by decide +kernel) (And.intro trivial ?_)
  rw [nI_add]
  refine hsc.1 _ _ _ _ _ _ (i + 4) (by omega) (by decide +kernel) ?_
  refine bk hX lkL_ok (pc' := 1143) [.i2l, .ldc2_w 140, .land, .lor] (by decide +kernel) (And.intro trivial ?_)
  refine z_callV hX kw_L_146 (c_M_item E K N R I L1 hT hm1.2.2.2.2.2.2.1 (xs (i + 1)) (xs (i + 2)) _) rfl rfl rfl rfl rfl (by decide +kernel) (by decide) (by decide) (by omega) (by omega) (Nat.le_of_ble_eq_true rfl) ?_
  rintro _ _ ⟨L2, rfl, rfl, y2, fl⟩
  refine ic_eq hX (102) 1248 (by decide +kernel) (by decide) (fun c_1146 => ?_) (fun c => absurd (rfl) c)
  refine z_lvk (lv' := [(0, _), (1, _), (2, _), (3, _)]) [0, 1, 2, 3] rfl ?_
  exact kk _ _ _ _ _ _ _ _ (iv_tape h (tpw_itm hT _ _ _) y1 (fun _ _ _ => rfl) fk y2 (frX_rf _ _ _) fl) (by omega) (by omega)
theorem lc_31 {X : zX} {E : zE} (hX : zD X E mL 100 600000 7302250 PoL) {n : Nat} {xs : Nat → Int32} (hsc : scR X n xs) {S : St} {K N : Nat → Nat} {R : Nat → Nat → Option Nat} {I : Nat → Nat → Int32} {L : Nat → Nat → Int64} (h : Inv S K N R I L) {i : Nat} (hi : i + 6 ≤ n) (hn : n ≤ 3072) {cells slots : Nat} (hc : cells + 10 ≤ 600000) (hs : slots + 309 ≤ 7302250) (kk : ∀ (S' : St) (K' N' : Nat → Nat) (R' : Nat → Nat → Option Nat) (I' : Nat → Nat → Int32) (L' : Nat → Nat → Int64) (c s : Nat), Inv S' K' N' R' I' L' → c ≤ cells + 10 → s ≤ slots + 309 → zS X (sg K' N' R' I' L') c s 1248 [(0, .ref 1000), (1, .ref 200), (2, .ref 100), (3, .int (nI i))] []) : zS X (sg K N R I L) cells slots 1151 [(0, .ref 1000), (1, .ref 200), (2, .ref 100), (3, .int (nI i))] [] := by
  have hw := h.1
  have hm := h.2.1
  have hx := h.2.2
  have hk := hw.1
  have hg := hk.1
  have hd := hk.2.1
  have hok := wok_th hw hk
  have hT := hw.2.2.2.2.2
  have hN : xN S.k.g (thW S.ml S.k.th) K N R I := ⟨hx.1.1, hx.1.2.1, hx.1.2.2.1⟩
  refine bk hX lkL_ok (pc' := 1156) [.aload_n 1, .aload_n 0, .iload_n 3, .iconst 1, .iadd] (by decide +kernel) (And.intro trivial ?_)
  rw [nI_add]
  refine hsc.1 _ _ _ _ _ _ (i + 1) (by omega) (by decide +kernel) ?_
  refine bk hX lkL_ok (pc' := 1161) [.aload_n 0, .iload_n 3, .iconst 2, .iadd] (by decide +kernel) (And.intro trivial ?_)
  rw [nI_add]
  refine hsc.1 _ _ _ _ _ _ (i + 2) (by omega) (by decide +kernel) ?_
  refine z_callV hX kw_L_147 (c_X_read E K N R I L hT hx.2.2.2.2.2.1 (xs (i + 1)) (xs (i + 2))) rfl rfl rfl rfl rfl (by decide +kernel) (by decide) (by decide) (by omega) (by omega) (Nat.le_of_ble_eq_true rfl) ?_
  rintro _ _ ⟨rfl, rfl⟩
  refine bk hX lkL_ok (pc' := 1170) [.aload_n 2, .aload_n 0, .iload_n 3, .iconst 1, .iadd] (by decide +kernel) (And.intro trivial ?_)
  rw [nI_add]
  refine hsc.1 _ _ _ _ _ _ (i + 1) (by omega) (by decide +kernel) ?_
  refine bk hX lkL_ok (pc' := 1175) [.aload_n 0, .iload_n 3, .iconst 2, .iadd] (by decide +kernel) (And.intro trivial ?_)
  rw [nI_add]
  refine hsc.1 _ _ _ _ _ _ (i + 2) (by omega) (by decide +kernel) ?_
  refine z_callV hX kw_L_150 (c_M_read E K N R I L hT hm.2.2.2.2.2.2.1 (xs (i + 1)) (xs (i + 2))) rfl rfl rfl rfl rfl (by decide +kernel) (by decide) (by decide) (by omega) (by omega) (Nat.le_of_ble_eq_true rfl) ?_
  rintro _ _ ⟨rfl, rfl⟩
  refine bk hX lkL_ok (pc' := 1180) [.lcmp] (by decide +kernel) (And.intro trivial ?_)
  refine if_eq hX (68) 1248 (by decide +kernel) (by decide) (fun c_1180 => ?_) (fun c => absurd (lg_same _) c)
  refine z_lvk (lv' := [(0, _), (1, _), (2, _), (3, _)]) [0, 1, 2, 3] rfl ?_
  exact kk _ _ _ _ _ _ _ _ (h) (by omega) (by omega)
theorem lc_32 {X : zX} {E : zE} (hX : zD X E mL 100 600000 7302250 PoL) {n : Nat} {xs : Nat → Int32} (hsc : scR X n xs) {S : St} {K N : Nat → Nat} {R : Nat → Nat → Option Nat} {I : Nat → Nat → Int32} {L : Nat → Nat → Int64} (h : Inv S K N R I L) {i : Nat} (hi : i + 6 ≤ n) (hn : n ≤ 3072) {cells slots : Nat} (hc : cells + 10 ≤ 600000) (hs : slots + 309 ≤ 7302250) (kk : ∀ (S' : St) (K' N' : Nat → Nat) (R' : Nat → Nat → Option Nat) (I' : Nat → Nat → Int32) (L' : Nat → Nat → Int64) (c s : Nat), Inv S' K' N' R' I' L' → c ≤ cells + 10 → s ≤ slots + 309 → zS X (sg K' N' R' I' L') c s 1248 [(0, .ref 1000), (1, .ref 200), (2, .ref 100), (3, .int (nI i))] []) : zS X (sg K N R I L) cells slots 1185 [(0, .ref 1000), (1, .ref 200), (2, .ref 100), (3, .int (nI i))] [] := by
  have hw := h.1
  have hm := h.2.1
  have hx := h.2.2
  have hk := hw.1
  have hg := hk.1
  have hd := hk.2.1
  have hok := wok_th hw hk
  have hT := hw.2.2.2.2.2
  have hN : xN S.k.g (thW S.ml S.k.th) K N R I := ⟨hx.1.1, hx.1.2.1, hx.1.2.2.1⟩
  refine bk hX lkL_ok (pc' := 1190) [.aload_n 1, .aload_n 0, .iload_n 3, .iconst 1, .iadd] (by decide +kernel) (And.intro trivial ?_)
  rw [nI_add]
  refine hsc.1 _ _ _ _ _ _ (i + 1) (by omega) (by decide +kernel) ?_
  refine bk hX lkL_ok (pc' := 1195) [.aload_n 0, .iload_n 3, .iconst 2, .iadd] (by decide +kernel) (And.intro trivial ?_)
  rw [nI_add]
  refine hsc.1 _ _ _ _ _ _ (i + 2) (by omega) (by decide +kernel) ?_
  refine bk hX lkL_ok (pc' := 1200) [.aload_n 0, .iload_n 3, .iconst 3, .iadd] (by decide +kernel) (And.intro trivial ?_)
  rw [nI_add]
  refine hsc.1 _ _ _ _ _ _ (i + 3) (by omega) (by decide +kernel) ?_
  refine bk hX lkL_ok (pc' := 1205) [.aload_n 0, .iload_n 3, .iconst 4, .iadd] (by decide +kernel) (And.intro trivial ?_)
  rw [nI_add]
  refine hsc.1 _ _ _ _ _ _ (i + 4) (by omega) (by decide +kernel) ?_
  refine bk hX lkL_ok (pc' := 1210) [.aload_n 0, .iload_n 3, .iconst 5, .iadd] (by decide +kernel) (And.intro trivial ?_)
  rw [nI_add]
  refine hsc.1 _ _ _ _ _ _ (i + 5) (by omega) (by decide +kernel) ?_
  refine z_callV hX kw_L_151 (c_X_shift E K N R I L hT hx.2.2.2.2.2.1 (xs (i + 1)) (xs (i + 2)) (xs (i + 3)) (xs (i + 4)) (xs (i + 5))) rfl rfl rfl rfl rfl (by decide +kernel) (by decide) (by decide) (by omega) (by omega) (Nat.le_of_ble_eq_true rfl) ?_
  rintro _ _ ⟨L1, rfl, rfl, y1, fk⟩
  have hm1 := mi_tape h (fun _ _ _ => rfl) fk
  refine bk hX lkL_ok (pc' := 1219) [.aload_n 2, .aload_n 0, .iload_n 3, .iconst 1, .iadd] (by decide +kernel) (And.intro trivial ?_)
  rw [nI_add]
  refine hsc.1 _ _ _ _ _ _ (i + 1) (by omega) (by decide +kernel) ?_
  refine bk hX lkL_ok (pc' := 1224) [.aload_n 0, .iload_n 3, .iconst 2, .iadd] (by decide +kernel) (And.intro trivial ?_)
  rw [nI_add]
  refine hsc.1 _ _ _ _ _ _ (i + 2) (by omega) (by decide +kernel) ?_
  refine bk hX lkL_ok (pc' := 1229) [.aload_n 0, .iload_n 3, .iconst 3, .iadd] (by decide +kernel) (And.intro trivial ?_)
  rw [nI_add]
  refine hsc.1 _ _ _ _ _ _ (i + 3) (by omega) (by decide +kernel) ?_
  refine bk hX lkL_ok (pc' := 1234) [.aload_n 0, .iload_n 3, .iconst 4, .iadd] (by decide +kernel) (And.intro trivial ?_)
  rw [nI_add]
  refine hsc.1 _ _ _ _ _ _ (i + 4) (by omega) (by decide +kernel) ?_
  refine bk hX lkL_ok (pc' := 1239) [.aload_n 0, .iload_n 3, .iconst 5, .iadd] (by decide +kernel) (And.intro trivial ?_)
  rw [nI_add]
  refine hsc.1 _ _ _ _ _ _ (i + 5) (by omega) (by decide +kernel) ?_
  refine z_callV hX kw_L_155 (c_M_shift E K N R I L1 hT hm1.2.2.2.2.2.2.1 (xs (i + 1)) (xs (i + 2)) (xs (i + 3)) (xs (i + 4)) (xs (i + 5))) rfl rfl rfl rfl rfl (by decide +kernel) (by decide) (by decide) (by omega) (by omega) (Nat.le_of_ble_eq_true rfl) ?_
  rintro _ _ ⟨L2, rfl, rfl, y2, fl⟩
  refine ic_eq hX (5) 1248 (by decide +kernel) (by decide) (fun c_1243 => ?_) (fun c => absurd (rfl) c)
  refine z_lvk (lv' := [(0, _), (1, _), (2, _), (3, _)]) [0, 1, 2, 3] rfl ?_
  exact kk _ _ _ _ _ _ _ _ (iv_tape h (tpw_shf hT _ _ _ _ _) y1 (fun _ _ _ => rfl) fk y2 (frX_rf _ _ _) fl) (by omega) (by omega)
theorem lc_4 {X : zX} {E : zE} (hX : zD X E mL 100 600000 7302250 PoL) {n : Nat} {xs : Nat → Int32} (hsc : scR X n xs) {S : St} {K N : Nat → Nat} {R : Nat → Nat → Option Nat} {I : Nat → Nat → Int32} {L : Nat → Nat → Int64} (h : Inv S K N R I L) {i : Nat} (hi : i + 6 ≤ n) (hn : n ≤ 3072) {cells slots : Nat} (hc : cells + 10 ≤ 600000) (hs : slots + 309 ≤ 7302250) (kk : ∀ (S' : St) (K' N' : Nat → Nat) (R' : Nat → Nat → Option Nat) (I' : Nat → Nat → Int32) (L' : Nat → Nat → Int64) (c s : Nat), Inv S' K' N' R' I' L' → c ≤ cells + 10 → s ≤ slots + 309 → zS X (sg K' N' R' I' L') c s 1248 [(0, .ref 1000), (1, .ref 200), (2, .ref 100), (3, .int (nI i))] []) : zS X (sg K N R I L) cells slots 312 [(0, .ref 1000), (1, .ref 200), (2, .ref 100), (3, .int (nI i))] [] := by
  have hw := h.1
  have hm := h.2.1
  have hx := h.2.2
  have hk := hw.1
  have hg := hk.1
  have hd := hk.2.1
  have hok := wok_th hw hk
  have hT := hw.2.2.2.2.2
  have hN : xN S.k.g (thW S.ml S.k.th) K N R I := ⟨hx.1.1, hx.1.2.1, hx.1.2.2.1⟩
  by_cases c0 : xs (i + 2) = 0
  · refine bk hX lkL_ok (pc' := 317) [.aload_n 1, .aload_n 0, .iload_n 3, .iconst 1, .iadd] (by decide +kernel) (And.intro trivial ?_)
    rw [nI_add]
    refine hsc.1 _ _ _ _ _ _ (i + 1) (by omega) (by decide +kernel) ?_
    refine bk hX lkL_ok (pc' := 322) [.aload_n 0, .iload_n 3, .iconst 2, .iadd] (by decide +kernel) (And.intro trivial ?_)
    rw [nI_add]
    refine hsc.1 _ _ _ _ _ _ (i + 2) (by omega) (by decide +kernel) ?_
    refine if_eq hX (7) 330 (by decide +kernel) (by decide) (fun c_323 => ?_) (fun c => absurd (c0) c)
    refine bk hX lkL_ok (pc' := 331) [.iconst 0] (by decide +kernel) (And.intro trivial ?_)
    refine z_callV hX kw_L_30 (c_X_stay E K N R I L hg hx.1.1 (xs (i + 1)) (nI 0)) rfl rfl rfl rfl rfl (by decide +kernel) (by decide) (by decide) (by omega) (by omega) (Nat.le_of_ble_eq_true rfl) ?_
    rintro _ _ ⟨I1, rfl, rfl, y1, nf⟩
    have hm1 := mi_n h nf
    refine bk hX lkL_ok (pc' := 339) [.aload_n 2, .aload_n 0, .iload_n 3, .iconst 1, .iadd] (by decide +kernel) (And.intro trivial ?_)
    rw [nI_add]
    refine hsc.1 _ _ _ _ _ _ (i + 1) (by omega) (by decide +kernel) ?_
    refine bk hX lkL_ok (pc' := 344) [.aload_n 0, .iload_n 3, .iconst 2, .iadd] (by decide +kernel) (And.intro trivial ?_)
    rw [nI_add]
    refine hsc.1 _ _ _ _ _ _ (i + 2) (by omega) (by decide +kernel) ?_
    refine if_eq hX (7) 352 (by decide +kernel) (by decide) (fun c_345 => ?_) (fun c => absurd (c0) c)
    refine bk hX lkL_ok (pc' := 353) [.iconst 0] (by decide +kernel) (And.intro trivial ?_)
    refine z_callV hX kw_L_34 (c_M_stay E K N R I1 L hg hm1.1.1 (xs (i + 1)) (nI 0)) rfl rfl rfl rfl rfl (by decide +kernel) (by decide) (by decide) (by omega) (by omega) (Nat.le_of_ble_eq_true rfl) ?_
    rintro _ _ ⟨I2, rfl, rfl, y2, f⟩
    refine ic_eq hX (892) 1248 (by decide +kernel) (by decide) (fun c_356 => ?_) (fun c => absurd (rfl) c)
    refine z_lvk (lv' := [(0, _), (1, _), (2, _), (3, _)]) [0, 1, 2, 3] rfl ?_
    exact kk _ _ _ _ _ _ _ _ (iv_n h (st_stay hw (xs (i + 1)) (nI 0)).1 (st_stay hw (xs (i + 1)) (nI 0)).2 y1 nf y2 f) (by omega) (by omega)
  · refine bk hX lkL_ok (pc' := 317) [.aload_n 1, .aload_n 0, .iload_n 3, .iconst 1, .iadd] (by decide +kernel) (And.intro trivial ?_)
    rw [nI_add]
    refine hsc.1 _ _ _ _ _ _ (i + 1) (by omega) (by decide +kernel) ?_
    refine bk hX lkL_ok (pc' := 322) [.aload_n 0, .iload_n 3, .iconst 2, .iadd] (by decide +kernel) (And.intro trivial ?_)
    rw [nI_add]
    refine hsc.1 _ _ _ _ _ _ (i + 2) (by omega) (by decide +kernel) ?_
    refine if_eq hX (7) 330 (by decide +kernel) (by decide) (fun c => absurd c (c0)) (fun c_323 => ?_)
    refine bk hX lkL_ok (pc' := 327) [.iconst 1] (by decide +kernel) (And.intro trivial ?_)
    refine gt_ hX (4) 331 (by decide +kernel) (by decide) ?_
    refine z_callV hX kw_L_30 (c_X_stay E K N R I L hg hx.1.1 (xs (i + 1)) (nI 1)) rfl rfl rfl rfl rfl (by decide +kernel) (by decide) (by decide) (by omega) (by omega) (Nat.le_of_ble_eq_true rfl) ?_
    rintro _ _ ⟨I1, rfl, rfl, y1, nf⟩
    have hm1 := mi_n h nf
    refine bk hX lkL_ok (pc' := 339) [.aload_n 2, .aload_n 0, .iload_n 3, .iconst 1, .iadd] (by decide +kernel) (And.intro trivial ?_)
    rw [nI_add]
    refine hsc.1 _ _ _ _ _ _ (i + 1) (by omega) (by decide +kernel) ?_
    refine bk hX lkL_ok (pc' := 344) [.aload_n 0, .iload_n 3, .iconst 2, .iadd] (by decide +kernel) (And.intro trivial ?_)
    rw [nI_add]
    refine hsc.1 _ _ _ _ _ _ (i + 2) (by omega) (by decide +kernel) ?_
    refine if_eq hX (7) 352 (by decide +kernel) (by decide) (fun c => absurd c (c0)) (fun c_345 => ?_)
    refine bk hX lkL_ok (pc' := 349) [.iconst 1] (by decide +kernel) (And.intro trivial ?_)
    refine gt_ hX (4) 353 (by decide +kernel) (by decide) ?_
    refine z_callV hX kw_L_34 (c_M_stay E K N R I1 L hg hm1.1.1 (xs (i + 1)) (nI 1)) rfl rfl rfl rfl rfl (by decide +kernel) (by decide) (by decide) (by omega) (by omega) (Nat.le_of_ble_eq_true rfl) ?_
    rintro _ _ ⟨I2, rfl, rfl, y2, f⟩
    refine ic_eq hX (892) 1248 (by decide +kernel) (by decide) (fun c_356 => ?_) (fun c => absurd (rfl) c)
    refine z_lvk (lv' := [(0, _), (1, _), (2, _), (3, _)]) [0, 1, 2, 3] rfl ?_
    exact kk _ _ _ _ _ _ _ _ (iv_n h (st_stay hw (xs (i + 1)) (nI 1)).1 (st_stay hw (xs (i + 1)) (nI 1)).2 y1 nf y2 f) (by omega) (by omega)
set_option maxHeartbeats 1000000 in
theorem lc_7 {X : zX} {E : zE} (hX : zD X E mL 100 600000 7302250 PoL) {n : Nat} {xs : Nat → Int32} (hsc : scR X n xs) {S : St} {K N : Nat → Nat} {R : Nat → Nat → Option Nat} {I : Nat → Nat → Int32} {L : Nat → Nat → Int64} (h : Inv S K N R I L) {i : Nat} (hi : i + 6 ≤ n) (hn : n ≤ 3072) {cells slots : Nat} (hc : cells + 10 ≤ 600000) (hs : slots + 309 ≤ 7302250) (kk : ∀ (S' : St) (K' N' : Nat → Nat) (R' : Nat → Nat → Option Nat) (I' : Nat → Nat → Int32) (L' : Nat → Nat → Int64) (c s : Nat), Inv S' K' N' R' I' L' → c ≤ cells + 10 → s ≤ slots + 309 → zS X (sg K' N' R' I' L') c s 1248 [(0, .ref 1000), (1, .ref 200), (2, .ref 100), (3, .int (nI i))] []) : zS X (sg K N R I L) cells slots 427 [(0, .ref 1000), (1, .ref 200), (2, .ref 100), (3, .int (nI i))] [] := by
  have hw := h.1
  have hm := h.2.1
  have hx := h.2.2
  have hk := hw.1
  have hg := hk.1
  have hd := hk.2.1
  have hok := wok_th hw hk
  have hT := hw.2.2.2.2.2
  have hN : xN S.k.g (thW S.ml S.k.th) K N R I := ⟨hx.1.1, hx.1.2.1, hx.1.2.2.1⟩
  refine bk hX lkL_ok (pc' := 428) [.aload_n 1] (by decide +kernel) (And.intro trivial ?_)
  refine z_callV hX kw_L_45 (c_X_works E K N R I L hw.2.2.2.2.1 hx.2.2.2.1 hx.2.2.1 hw.2.2.1 hx.2.2.2.2.2.2) rfl rfl rfl rfl rfl (by decide +kernel) (by decide) (by decide) (by omega) (by omega) (Nat.le_of_ble_eq_true rfl) ?_
  rintro v1 _ ⟨K1, N1, R1, I1, L1, rfl, gr, hf, eL, e, e2, eR, eR3, hxx⟩
  have hm1 := mi_works h eL e
  obtain ⟨u1, rfl⟩ : ∃ u, v1 = some (.int u) := by
    rcases hxx with ⟨-, z, -⟩ | ⟨-, -, ⟨-, z, -⟩ | ⟨w, -, z, -⟩⟩ <;> exact ⟨_, z⟩
  refine bk hX lkL_ok (pc' := 432) [.aload_n 2] (by decide +kernel) (And.intro trivial ?_)
  refine z_callV hX kw_L_49 (c_M_works E K1 N1 R1 I1 L1 rfl rfl hw.2.2.2.2.1 hm1.2.2.2.2.1 hm1.2.2.2.2.2.2.2 hm1.2.2.1 hw.2.2.1) rfl rfl rfl rfl rfl (by decide +kernel) (by decide) (by decide) (by omega) (by omega) (Nat.le_of_ble_eq_true rfl) ?_
  rintro v2 _ ⟨I2, rfl, hyy⟩
  obtain ⟨v0, S2, q1, q2, hv2⟩ := iv_works h gr hf eL e e2 eR eR3 hxx hyy
  obtain rfl := Value.int.inj (Option.some.inj q1)
  subst q2
  refine ic_eq hX (813) 1248 (by decide +kernel) (by decide) (fun c_435 => ?_) (fun c => absurd (rfl) c)
  refine z_lvk (lv' := [(0, _), (1, _), (2, _), (3, _)]) [0, 1, 2, 3] rfl ?_
  exact kk _ _ _ _ _ _ _ _ (hv2) (by omega) (by omega)
theorem lc_24 {X : zX} {E : zE} (hX : zD X E mL 100 600000 7302250 PoL) {n : Nat} {xs : Nat → Int32} (hsc : scR X n xs) {S : St} {K N : Nat → Nat} {R : Nat → Nat → Option Nat} {I : Nat → Nat → Int32} {L : Nat → Nat → Int64} (h : Inv S K N R I L) {i : Nat} (hi : i + 6 ≤ n) (hn : n ≤ 3072) {cells slots : Nat} (hc : cells + 10 ≤ 600000) (hs : slots + 309 ≤ 7302250) (kk : ∀ (S' : St) (K' N' : Nat → Nat) (R' : Nat → Nat → Option Nat) (I' : Nat → Nat → Int32) (L' : Nat → Nat → Int64) (c s : Nat), Inv S' K' N' R' I' L' → c ≤ cells + 10 → s ≤ slots + 309 → zS X (sg K' N' R' I' L') c s 1248 [(0, .ref 1000), (1, .ref 200), (2, .ref 100), (3, .int (nI i))] []) : zS X (sg K N R I L) cells slots 900 [(0, .ref 1000), (1, .ref 200), (2, .ref 100), (3, .int (nI i))] [] := by
  have hw := h.1
  have hm := h.2.1
  have hx := h.2.2
  have hk := hw.1
  have hg := hk.1
  have hd := hk.2.1
  have hok := wok_th hw hk
  have hT := hw.2.2.2.2.2
  have hN : xN S.k.g (thW S.ml S.k.th) K N R I := ⟨hx.1.1, hx.1.2.1, hx.1.2.2.1⟩
  cases ho : S.im with
  | none =>
    have h0 : I 200 3 = 0 := by have z := hx.2.1; rw [ho] at z; exact z
    have h1 : I 100 44 = 0 := by have z := hm.2.1; rw [ho] at z; exact z
    refine bk hX lkL_ok (pc' := 901) [.aload_n 1] (by decide +kernel) (And.intro trivial ?_)
    refine z_callV hX kw_L_116 (c_X_undo E K N R I L (fun z => absurd h0 z) (n0 := 0) (n1 := 0) (n2 := 0) (n3 := 0) (by decide) (by decide) (by decide) (fun z => absurd h0 z)) rfl rfl rfl rfl rfl (by decide +kernel) (by decide) (by decide) (by omega) (by omega) (Nat.le_of_ble_eq_true rfl) ?_
    rintro _ _ (⟨-, rfl, rfl⟩ | ⟨z, -⟩)
    rotate_left 1
    · exact absurd h0 z
    refine bk hX lkL_ok (pc' := 905) [.aload_n 2] (by decide +kernel) (And.intro trivial ?_)
    refine z_callV hX kw_L_119 (c_M_undo E K N R I L) rfl rfl rfl rfl rfl (by decide +kernel) (by decide) (by decide) (by omega) (by omega) (Nat.le_of_ble_eq_true rfl) ?_
    rintro _ _ ⟨I2, rfl, (⟨-, rfl, rfl⟩ | ⟨z, -⟩)⟩
    rotate_left 1
    · exact absurd h1 z
    refine ic_eq hX (340) 1248 (by decide +kernel) (by decide) (fun c_908 => ?_) (fun c => absurd (rfl) c)
    refine z_lvk (lv' := [(0, _), (1, _), (2, _), (3, _)]) [0, 1, 2, 3] rfl ?_
    exact kk _ _ _ _ _ _ _ _ (h) (by omega) (by omega)
  | some k =>
    have hk0 := hw.2.1 k ho
    have hx0 : ¬ I 200 3 = 0 ∧ xkp 380 S.ml k K N R I := by have z := hx.2.1; rw [ho] at z; exact z
    refine bk hX lkL_ok (pc' := 901) [.aload_n 1] (by decide +kernel) (And.intro trivial ?_)
    refine z_callV hX kw_L_116 (c_X_undo E K N R I L (fun _ => hx0.2.2.2.1) (n0 := gn k.g) (n1 := k.s.1) (n2 := k.p.1) (n3 := k.b.1) hk0.2.2.2.2.1.1 hk0.2.2.2.2.2.1.1 hk0.2.2.2.2.2.2.1 (fun _ => ⟨hx0.2.1.1, hx0.2.2.2.2.1.1, hx0.2.2.2.2.2.1.1, hx0.2.2.2.2.2.2.1.1⟩)) rfl rfl rfl rfl rfl (by decide +kernel) (by decide) (by decide) (by omega) (by omega) (Nat.le_of_ble_eq_true rfl) ?_
    rintro _ _ (⟨z, -⟩ | ⟨-, rfl, rfl⟩)
    · exact absurd z hx0.1
    have hm1 := mi_undo h k
    have hi1 := hm1.2.1
    rw [ho] at hi1
    obtain ⟨j1, J, j2, j3, j4⟩ := hi1
    show zS _ (sg K N (flR 300 380 R) (undI k I) L) _ _ _ _ _
    refine bk hX lkL_ok (pc' := 905) [.aload_n 2] (by decide +kernel) (And.intro trivial ?_)
    refine z_callV hX kw_L_119 (c_M_undo E K N (flR 300 380 R) (undI k I) L) rfl rfl rfl rfl rfl (by decide +kernel) (by decide) (by decide) (by omega) (by omega) (Nat.le_of_ble_eq_true rfl) ?_
    rintro _ _ ⟨I2, rfl, (⟨z, -⟩ | ⟨-, rfl, y1, y2, f⟩)⟩
    · exact absurd z j1
    rw [show undI k I 100 46 = nI (gn k.g) from (j4 1 (by decide)).trans j2.1.1]
    refine ic_eq hX (340) 1248 (by decide +kernel) (by decide) (fun c_908 => ?_) (fun c => absurd (rfl) c)
    refine z_lvk (lv' := [(0, _), (1, _), (2, _), (3, _)]) [0, 1, 2, 3] rfl ?_
    exact kk _ _ _ _ _ _ _ _ (iv_undo h ho y1 y2 f) (by omega) (by omega)
