/-! ===== the other calls keep both halves ===== -/
theorem xk_e {S : St} (hw : stw S) {K N : Nat → Nat} {R : Nat → Nat → Option Nat} {I I1 : Nat → Nat → Int32} (e : ∀ q, 300 ≤ q → I1 q = I q) (h : xkp 300 S.ml S.k K N R I) : xkp 300 S.ml S.k K N R I1 := xkp_g hw.1.1 (grw_I (fun q hq => e q (by omega))) (fun q h1 _ => e q h1) rfl rfl h
theorem xi_e {S : St} (hw : stw S) {K N : Nat → Nat} {R : Nat → Nat → Option Nat} {I I1 : Nat → Nat → Int32} (e : ∀ q, 380 ≤ q → I1 q = I q) (e3 : I1 200 3 = I 200 3) (h : xIm S.ml S.im K N R I) : xIm S.ml S.im K N R I1 := xIm_g hw (grw_I (fun q hq => e q (by omega))) (fun q h1 _ => e q h1) e3 rfl rfl h
def stF (S : St) (t : List Nat) : St := stM S.k S.ml S.m t S.tr S.T S.im
def stR (S : St) (t : List Nat) : St := stM S.k S.ml S.m S.t t S.T S.im
def stT' (S : St) (T : Tp) : St := stM S.k S.ml S.m S.t S.tr T S.im
theorem txw_feed {t : List Nat} (h : txw t) (x : Int32) : txw (feedS t x).2 := by
  unfold feedS
  split
  · split
    · exact h
    · rename_i h1 h2
      refine ⟨?_, fun y hy => ?_⟩
      · show (t ++ [jx x]).length ≤ 100
        rw [List.length_append, List.length_singleton]
        have := h.1
        omega
      · rcases List.mem_append.mp hy with z | z
        · exact h.2 y z
        · rw [List.mem_singleton.mp z]; exact (isIn_jx h1).1
  · exact h
theorem iv_feed {S : St} {K N : Nat → Nat} {R : Nat → Nat → Option Nat} {I I1 I2 : Nat → Nat → Int32} {L : Nat → Nat → Int64} (h : Inv S K N R I L) {t : List Nat} (ht : txw t) (y1 : xTx t I1) (fy : frY [205] [5] I I1) (y2 : mTx t I2) (f : frX [114] [10] I1 I2) : Inv (stF S t) K N R I2 L := by
  obtain ⟨hw, hm, hx⟩ := h
  have hw' : stw (stF S t) := ⟨hw.1, hw.2.1, hw.2.2.1, hw.2.2.2.1, ht, hw.2.2.2.2.2⟩
  have e : ∀ q, q ≠ 205 → q ≠ 200 → I1 q = I q := fun q h1 h2 => fy.1 q (by simpa using h1) h2
  obtain ⟨a, b1, b2, b3, b4, b5, b6, b7⟩ : mInv S I1 L := mInv_o rfl (fun q hq => e q (by omega) (by omega)) hm
  obtain ⟨c1, c2, c3, c4, c5, c6, c7⟩ := hx
  refine ⟨hw', ⟨⟨mG_x (by decide) (by decide) f a.1, (f.2 9 (by decide)).trans a.2.1, mSn_x (by decide) (by decide) f a.2.2.1, mPl_x (by decide) (by decide) f a.2.2.2.1, mBk_x (by decide) (by decide) f a.2.2.2.2⟩, mIm_x (by decide) (by decide) f b1, (f.2 8 (by decide)).trans b2, fun fi hfi => mWr_x (by decide) (by decide) f (b3 fi hfi), y2, mTr_x (by decide) (by decide) f b5, mTp_x rfl (by decide) (by decide) f b6, mLe_x (by decide) (by decide) f b7⟩, ?_⟩
  refine xInv_m hw' (frX_hi (by decide) f) rfl (I := I1) (L := L) ⟨xk_e hw (fun q hq => e q (by omega) (by omega)) c1, xi_e hw (fun q hq => e q (by omega) (by omega)) (fy.2 3 (by decide)) c2, (fy.2 6 (by decide)).trans c3, y1, xTr_e (e _ (by decide) (by decide)) (e _ (by decide) (by decide)) c5, xTp_e (e _ (by decide) (by decide)) (e _ (by decide) (by decide)) rfl c6, c7⟩
theorem iv_act {S : St} {K N : Nat → Nat} {R : Nat → Nat → Option Nat} {I I1 I2 : Nat → Nat → Int32} {L : Nat → Nat → Int64} (h : Inv S K N R I L) {t : List Nat} (y1 : xTr t I1) (fb : frB I I1) (y2 : mTr t I2) (f : frX [166] [64] I1 I2) : Inv (stR S t) K N R I2 L := by
  obtain ⟨hw, hm, hx⟩ := h
  have hw' : stw (stR S t) := hw
  obtain ⟨a, b1, b2, b3, b4, b5, b6, b7⟩ : mInv S I1 L := mInv_o rfl (fun q hq => fb q (by omega) (by omega)) hm
  obtain ⟨c1, c2, c3, c4, c5, c6, c7⟩ := hx
  refine ⟨hw', ⟨⟨mG_x (by decide) (by decide) f a.1, (f.2 9 (by decide)).trans a.2.1, mSn_x (by decide) (by decide) f a.2.2.1, mPl_x (by decide) (by decide) f a.2.2.2.1, mBk_x (by decide) (by decide) f a.2.2.2.2⟩, mIm_x (by decide) (by decide) f b1, (f.2 8 (by decide)).trans b2, fun fi hfi => mWr_x (by decide) (by decide) f (b3 fi hfi), mTx_x (by decide) (by decide) f b4, y2, mTp_x rfl (by decide) (by decide) f b6, mLe_x (by decide) (by decide) f b7⟩, ?_⟩
  refine xInv_m hw' (frX_hi (by decide) f) rfl (I := I1) (L := L) ⟨xk_e hw (fun q hq => fb q (by omega) (by omega)) c1, xi_e hw (fun q hq => fb q (by omega) (by omega)) (by rw [fb 200 (by decide) (by decide)]) c2, by rw [fb 200 (by decide) (by decide)]; exact c3, xTx_e (fb _ (by decide) (by decide)) (by rw [fb 200 (by decide) (by decide)]) c4, y1, xTp_e (fb _ (by decide) (by decide)) (fb _ (by decide) (by decide)) rfl c6, c7⟩
theorem tpw_tap {T : Tp} (h : tpw T) (t s n : Int32) : tpw (tapS T t s n).2 := by
  unfold tapS
  split
  · split
    · rename_i h1 h2
      exact tpw_set h (Or.inl ⟨h2, rfl⟩) (by decide)
    · split
      · split
        · exact h
        · split
          · exact h
          · rename_i h1 h2 h3 h4 h5
            obtain ⟨j, hj, e⟩ := isIn_ex h3
            refine tpw_set h (Or.inr ⟨j, hj, e⟩) ?_
            have := i_nlt.mp h4
            rw [Int32.le_iff_toInt_le, nI_toInt (by decide)] at this
            unfold jx
            rw [Int32.toNatClampNeg]
            omega
      · exact h
  · exact h
theorem tpw_itm {T : Tp} (h : tpw T) (t i : Int32) (z : Int64) : tpw (itmS T t i z).2 := by
  unfold itmS
  split
  · split
    · exact h
    · split
      · exact h
      · exact h
  · exact h
theorem tpw_shf {T : Tp} (h : tpw T) (t i o j n : Int32) : tpw (shfS T t i o j n).2 := by
  unfold shfS
  split
  · split
    · exact h
    · split
      · split
        · exact h
        · exact h
      · exact h
  · exact h
theorem iv_tape {S : St} {K N : Nat → Nat} {R : Nat → Nat → Option Nat} {I I1 I2 : Nat → Nat → Int32} {L : Nat → Nat → Int64} {L1 L2 : Nat → Nat → Int64} (h : Inv S K N R I L) {T : Tp} (hT : tpw T) (y1 : xTp T I1 L1) (e : ∀ q, q ≠ 211 → q ≠ 212 → I1 q = I q) (fk : frK L L1) (y2 : mTp T I2 L2) (f : frX [167, 168] [] I1 I2) (fl : frL L1 L2) : Inv (stT' S T) K N R I2 L2 := by
  obtain ⟨hw, hm, hx⟩ := h
  have hw' : stw (stT' S T) := ⟨hw.1, hw.2.1, hw.2.2.1, hw.2.2.2.1, hw.2.2.2.2.1, hT⟩
  obtain ⟨a, b1, b2, b3, b4, b5, b6, b7⟩ : mInv S I1 L1 := mInv_o (fk 169 (by decide)) (fun q hq => e q (by omega) (by omega)) hm
  obtain ⟨c1, c2, c3, c4, c5, c6, c7⟩ := hx
  refine ⟨hw', ⟨⟨mG_x (by decide) (by decide) f a.1, (f.2 9 (by decide)).trans a.2.1, mSn_x (by decide) (by decide) f a.2.2.1, mPl_x (by decide) (by decide) f a.2.2.2.1, mBk_x (by decide) (by decide) f a.2.2.2.2⟩, mIm_x (by decide) (by decide) f b1, (f.2 8 (by decide)).trans b2, fun fi hfi => mWr_x (by decide) (by decide) f (b3 fi hfi), mTx_x (by decide) (by decide) f b4, mTr_x (by decide) (by decide) f b5, y2, mLe_x (by decide) (by decide) f b7⟩, ?_⟩
  refine xInv_m hw' (frX_hi (by decide) f) (fl 213 (by decide) (by decide)) (I := I1) (L := L1) ⟨xk_e hw (fun q hq => e q (by omega) (by omega)) c1, xi_e hw (fun q hq => e q (by omega) (by omega)) (by rw [e 200 (by decide) (by decide)]) c2, by rw [e 200 (by decide) (by decide)]; exact c3, xTx_e (e _ (by decide) (by decide)) (by rw [e 200 (by decide) (by decide)]) c4, xTr_e (e _ (by decide) (by decide)) (e _ (by decide) (by decide)) c5, y1, c7⟩
theorem mi_tape {S : St} {K N : Nat → Nat} {R : Nat → Nat → Option Nat} {I I1 : Nat → Nat → Int32} {L L1 : Nat → Nat → Int64} (h : Inv S K N R I L) (e : ∀ q, q ≠ 211 → q ≠ 212 → I1 q = I q) (fk : frK L L1) : mInv S I1 L1 := mInv_o (fk 169 (by decide)) (fun q hq => e q (by omega) (by omega)) h.2.1
theorem iv_see {S : St} {K N : Nat → Nat} {R : Nat → Nat → Option Nat} {I I1 I2 : Nat → Nat → Int32} {L : Nat → Nat → Int64} (h : Inv S K N R I L) {s : Rw} (hs : s.1 ≤ 5 ∧ wSn s S.k.g) (y1 : xSn 310 s I1) (fz : frZ [310, 310 + 1, 310 + 2, 310 + 3] I I1) (y2 : mSn s I2) (f : frX [136, 137, 138] [34] I1 I2) : Inv (stS S s) K N R I2 L := by
  obtain ⟨hw, hm, hx⟩ := h
  have hw' : stw (stS S s) := ⟨⟨hw.1.1, hw.1.2.1, hw.1.2.2.1, hw.1.2.2.2.1, hs, hw.1.2.2.2.2.2.1, hw.1.2.2.2.2.2.2⟩, hw.2⟩
  have e : ∀ q, q ∉ [310, 311, 312, 313] → I1 q = I q := fun q hq => fz q hq
  have e2 : ∀ q, q < 310 ∨ 313 < q → I1 q = I q := fun q hq => e q (by simp; omega)
  obtain ⟨a, b1, b2, b3, b4, b5, b6, b7⟩ : mInv S I1 L := mInv_o rfl (fun q hq => e2 q (by omega)) hm
  obtain ⟨c1, c2, c3, c4, c5, c6, c7⟩ := hx
  have gr : grw K N R I K N R I1 := grw_I (fun q hq => e2 q (by omega))
  refine ⟨hw', ⟨⟨mG_x (by decide) (by decide) f a.1, (f.2 9 (by decide)).trans a.2.1, y2, mPl_x (by decide) (by decide) f a.2.2.2.1, mBk_x (by decide) (by decide) f a.2.2.2.2⟩, mIm_x (by decide) (by decide) f b1, (f.2 8 (by decide)).trans b2, fun fi hfi => mWr_x (by decide) (by decide) f (b3 fi hfi), mTx_x (by decide) (by decide) f b4, mTr_x (by decide) (by decide) f b5, mTp_x rfl (by decide) (by decide) f b6, mLe_x (by decide) (by decide) f b7⟩, ?_⟩
  refine xInv_m hw' (frX_hi (by decide) f) rfl (I := I1) (L := L) ⟨⟨xG_g hw.1.1 c1.1 gr rfl (e2 _ (by decide)) (e2 _ (by decide)) (e2 _ (by decide)) (e2 _ (by decide)), xH_g c1.2.1 gr rfl, c1.2.2.1, y1, (by have z := c1.2.2.2.2.1; unfold xPl at z ⊢; rw [e (300 + 14) (by decide), e (300 + 14 + 1) (by decide), e (300 + 14 + 2) (by decide)]; exact z), (by have z := c1.2.2.2.2.2.1; unfold xBk at z ⊢; rw [e (300 + 18) (by decide), e (300 + 18 + 1) (by decide), e (300 + 18 + 2) (by decide)]; exact z), (by rw [e2 (300 + 2) (by decide)]; exact c1.2.2.2.2.2.2.1), (by rw [e2 (300 + 4) (by decide)]; exact c1.2.2.2.2.2.2.2)⟩, xi_e hw (fun q hq => e2 q (by omega)) (by rw [e2 200 (by decide)]) c2, by rw [e2 200 (by decide)]; exact c3, xTx_e (e2 _ (by decide)) (by rw [e2 200 (by decide)]) c4, xTr_e (e2 _ (by decide)) (e2 _ (by decide)) c5, xTp_e (e2 _ (by decide)) (e2 _ (by decide)) rfl c6, c7⟩
theorem mi_see {S : St} {K N : Nat → Nat} {R : Nat → Nat → Option Nat} {I I1 : Nat → Nat → Int32} {L : Nat → Nat → Int64} (h : Inv S K N R I L) (fz : frZ [310, 310 + 1, 310 + 2, 310 + 3] I I1) : mInv S I1 L := mInv_o rfl (fun q hq => fz q (by simp; omega)) h.2.1
theorem iv_plan {S : St} {K N : Nat → Nat} {R : Nat → Nat → Option Nat} {I I1 I2 : Nat → Nat → Int32} {L : Nat → Nat → Int64} (h : Inv S K N R I L) {s : Rw} (hs : s.1 ≤ 10 ∧ wPl s S.k.g) (y1 : xPl 314 s I1) (fz : frZ [314, 314 + 1, 314 + 2, 314 + 3] I I1) (y2 : mPl s I2) (f : frX [141, 142] [38] I1 I2) : Inv (stP S s) K N R I2 L := by
  obtain ⟨hw, hm, hx⟩ := h
  have hw' : stw (stP S s) := ⟨⟨hw.1.1, hw.1.2.1, hw.1.2.2.1, hw.1.2.2.2.1, hw.1.2.2.2.2.1, hs, hw.1.2.2.2.2.2.2⟩, hw.2⟩
  have e : ∀ q, q ∉ [314, 315, 316, 317] → I1 q = I q := fun q hq => fz q hq
  have e2 : ∀ q, q < 314 ∨ 317 < q → I1 q = I q := fun q hq => e q (by simp; omega)
  obtain ⟨a, b1, b2, b3, b4, b5, b6, b7⟩ : mInv S I1 L := mInv_o rfl (fun q hq => e2 q (by omega)) hm
  obtain ⟨c1, c2, c3, c4, c5, c6, c7⟩ := hx
  have gr : grw K N R I K N R I1 := grw_I (fun q hq => e2 q (by omega))
  refine ⟨hw', ⟨⟨mG_x (by decide) (by decide) f a.1, (f.2 9 (by decide)).trans a.2.1, mSn_x (by decide) (by decide) f a.2.2.1, y2, mBk_x (by decide) (by decide) f a.2.2.2.2⟩, mIm_x (by decide) (by decide) f b1, (f.2 8 (by decide)).trans b2, fun fi hfi => mWr_x (by decide) (by decide) f (b3 fi hfi), mTx_x (by decide) (by decide) f b4, mTr_x (by decide) (by decide) f b5, mTp_x rfl (by decide) (by decide) f b6, mLe_x (by decide) (by decide) f b7⟩, ?_⟩
  refine xInv_m hw' (frX_hi (by decide) f) rfl (I := I1) (L := L) ⟨⟨xG_g hw.1.1 c1.1 gr rfl (e2 _ (by decide)) (e2 _ (by decide)) (e2 _ (by decide)) (e2 _ (by decide)), xH_g c1.2.1 gr rfl, c1.2.2.1, (by have z := c1.2.2.2.1; unfold xSn at z ⊢; rw [e (300 + 10) (by decide), e (300 + 10 + 1) (by decide), e (300 + 10 + 2) (by decide), e (300 + 10 + 3) (by decide)]; exact z), y1, (by have z := c1.2.2.2.2.2.1; unfold xBk at z ⊢; rw [e (300 + 18) (by decide), e (300 + 18 + 1) (by decide), e (300 + 18 + 2) (by decide)]; exact z), (by rw [e2 (300 + 2) (by decide)]; exact c1.2.2.2.2.2.2.1), (by rw [e2 (300 + 4) (by decide)]; exact c1.2.2.2.2.2.2.2)⟩, xi_e hw (fun q hq => e2 q (by omega)) (by rw [e2 200 (by decide)]) c2, by rw [e2 200 (by decide)]; exact c3, xTx_e (e2 _ (by decide)) (by rw [e2 200 (by decide)]) c4, xTr_e (e2 _ (by decide)) (e2 _ (by decide)) c5, xTp_e (e2 _ (by decide)) (e2 _ (by decide)) rfl c6, c7⟩
theorem mi_plan {S : St} {K N : Nat → Nat} {R : Nat → Nat → Option Nat} {I I1 : Nat → Nat → Int32} {L : Nat → Nat → Int64} (h : Inv S K N R I L) (fz : frZ [314, 314 + 1, 314 + 2, 314 + 3] I I1) : mInv S I1 L := mInv_o rfl (fun q hq => fz q (by simp; omega)) h.2.1
theorem iv_book {S : St} {K N : Nat → Nat} {R : Nat → Nat → Option Nat} {I I1 I2 : Nat → Nat → Int32} {L : Nat → Nat → Int64} (h : Inv S K N R I L) {s : Rw} (hs : s.1 ≤ 8 ∧ wBk s S.k.g) (y1 : xBk 318 s I1) (fz : frZ [318, 318 + 1, 318 + 2, 318 + 3] I I1) (y2 : mBk s I2) (f : frX [143, 144] [39] I1 I2) : Inv (stB S s) K N R I2 L := by
  obtain ⟨hw, hm, hx⟩ := h
  have hw' : stw (stB S s) := ⟨⟨hw.1.1, hw.1.2.1, hw.1.2.2.1, hw.1.2.2.2.1, hw.1.2.2.2.2.1, hw.1.2.2.2.2.2.1, hs⟩, hw.2⟩
  have e : ∀ q, q ∉ [318, 319, 320, 321] → I1 q = I q := fun q hq => fz q hq
  have e2 : ∀ q, q < 318 ∨ 321 < q → I1 q = I q := fun q hq => e q (by simp; omega)
  obtain ⟨a, b1, b2, b3, b4, b5, b6, b7⟩ : mInv S I1 L := mInv_o rfl (fun q hq => e2 q (by omega)) hm
  obtain ⟨c1, c2, c3, c4, c5, c6, c7⟩ := hx
  have gr : grw K N R I K N R I1 := grw_I (fun q hq => e2 q (by omega))
  refine ⟨hw', ⟨⟨mG_x (by decide) (by decide) f a.1, (f.2 9 (by decide)).trans a.2.1, mSn_x (by decide) (by decide) f a.2.2.1, mPl_x (by decide) (by decide) f a.2.2.2.1, y2⟩, mIm_x (by decide) (by decide) f b1, (f.2 8 (by decide)).trans b2, fun fi hfi => mWr_x (by decide) (by decide) f (b3 fi hfi), mTx_x (by decide) (by decide) f b4, mTr_x (by decide) (by decide) f b5, mTp_x rfl (by decide) (by decide) f b6, mLe_x (by decide) (by decide) f b7⟩, ?_⟩
  refine xInv_m hw' (frX_hi (by decide) f) rfl (I := I1) (L := L) ⟨⟨xG_g hw.1.1 c1.1 gr rfl (e2 _ (by decide)) (e2 _ (by decide)) (e2 _ (by decide)) (e2 _ (by decide)), xH_g c1.2.1 gr rfl, c1.2.2.1, (by have z := c1.2.2.2.1; unfold xSn at z ⊢; rw [e (300 + 10) (by decide), e (300 + 10 + 1) (by decide), e (300 + 10 + 2) (by decide), e (300 + 10 + 3) (by decide)]; exact z), (by have z := c1.2.2.2.2.1; unfold xPl at z ⊢; rw [e (300 + 14) (by decide), e (300 + 14 + 1) (by decide), e (300 + 14 + 2) (by decide)]; exact z), y1, (by rw [e2 (300 + 2) (by decide)]; exact c1.2.2.2.2.2.2.1), (by rw [e2 (300 + 4) (by decide)]; exact c1.2.2.2.2.2.2.2)⟩, xi_e hw (fun q hq => e2 q (by omega)) (by rw [e2 200 (by decide)]) c2, by rw [e2 200 (by decide)]; exact c3, xTx_e (e2 _ (by decide)) (by rw [e2 200 (by decide)]) c4, xTr_e (e2 _ (by decide)) (e2 _ (by decide)) c5, xTp_e (e2 _ (by decide)) (e2 _ (by decide)) rfl c6, c7⟩
theorem mi_book {S : St} {K N : Nat → Nat} {R : Nat → Nat → Option Nat} {I I1 : Nat → Nat → Int32} {L : Nat → Nat → Int64} (h : Inv S K N R I L) (fz : frZ [318, 318 + 1, 318 + 2, 318 + 3] I I1) : mInv S I1 L := mInv_o rfl (fun q hq => fz q (by simp; omega)) h.2.1
