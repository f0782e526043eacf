/-! ===== the class's half, kept ===== -/
theorem xkp_g {b : Nat} {ml : Nat → Wk} {k : Kp} (hg : gwf k.g) {K N K' N' : Nat → Nat} {R R' : Nat → Nat → Option Nat} {I I' : Nat → Nat → Int32} (gr : grw K N R I K' N' R' I') (e : ∀ q, b ≤ q → q < b + 22 → I' q = I q) (eR : R' b = R b) (eR1 : R' (b + 1) = R (b + 1)) (h : xkp b ml k K N R I) : xkp b ml k K' N' R' I' := by
  obtain ⟨a1, a2, a3, a4, a5, a6, a7, a8⟩ := h
  refine ⟨xG_g hg a1 gr eR1 (e _ (by omega) (by omega)) (e _ (by omega) (by omega)) (e _ (by omega) (by omega)) (e _ (by omega) (by omega)), xH_g a2 gr (by rw [eR]), xHs_g a3 gr eR1, ?_, ?_, ?_, ?_, ?_⟩
  · unfold xSn at a4 ⊢
    rw [e (b + 10) (by omega) (by omega), e (b + 10 + 1) (by omega) (by omega), e (b + 10 + 2) (by omega) (by omega), e (b + 10 + 3) (by omega) (by omega)]
    exact a4
  · unfold xPl at a5 ⊢
    rw [e (b + 14) (by omega) (by omega), e (b + 14 + 1) (by omega) (by omega), e (b + 14 + 2) (by omega) (by omega)]
    exact a5
  · unfold xBk at a6 ⊢
    rw [e (b + 18) (by omega) (by omega), e (b + 18 + 1) (by omega) (by omega), e (b + 18 + 2) (by omega) (by omega)]
    exact a6
  · rw [e (b + 2) (by omega) (by omega)]; exact a7
  · rw [e (b + 4) (by omega) (by omega)]; exact a8
theorem xIm_g {S : St} (hw : stw S) {K N K' N' : Nat → Nat} {R R' : Nat → Nat → Option Nat} {I I' : Nat → Nat → Int32} (gr : grw K N R I K' N' R' I') (e : ∀ q, 380 ≤ q → q < 402 → I' q = I q) (e3 : I' 200 3 = I 200 3) (eR : R' 380 = R 380) (eR1 : R' 381 = R 381) (h : xIm S.ml S.im K N R I) : xIm S.ml S.im K' N' R' I' := by
  cases ho : S.im with
  | none => rw [ho] at h; exact e3.trans h
  | some k =>
    rw [ho] at h
    exact ⟨by rw [e3]; exact h.1, xkp_g (hw.2.1 k ho).1 gr e eR eR1 h.2⟩
theorem xTx_e {t : List Nat} {I I' : Nat → Nat → Int32} (e : I' 205 = I 205) (e5 : I' 200 5 = I 200 5) (h : xTx t I) : xTx t I' := by
  unfold xTx at h ⊢
  rw [e, e5]
  exact h
theorem xTr_e {t : List Nat} {I I' : Nat → Nat → Int32} (e : I' 208 = I 208) (e5 : I' 220 = I 220) (h : xTr t I) : xTr t I' := by
  unfold xTr at h ⊢
  rw [e, e5]
  exact h
theorem xTp_e {T : Tp} {I I' : Nat → Nat → Int32} {L L' : Nat → Nat → Int64} (e : I' 211 = I 211) (e2 : I' 212 = I 212) (eL : L' 213 = L 213) (h : xTp T I L) : xTp T I' L' := by
  unfold xTp at h ⊢
  rw [e, e2, eL]
  exact h
theorem xInv_q {S : St} (hw : stw S) {K N K' N' : Nat → Nat} {R R' : Nat → Nat → Option Nat} {I I' : Nat → Nat → Int32} {L L' : Nat → Nat → Int64} (gr : grw K N R I K' N' R' I') (hf : fre K') (e : ∀ q, 200 < q → q < 1000 → (q < 340 ∨ 380 ≤ q) → q ≠ 209 → q ≠ 210 → I' q = I q) (e2 : ∀ k, k = 3 ∨ k = 5 ∨ k = 6 → I' 200 k = I 200 k) (eR : ∀ q, q < 1000 → q ≠ 340 → q ≠ 341 → R' q = R q) (eL : L' 213 = L 213) (h : xInv S K N R I L) : xInv S K' N' R' I' L' := by
  obtain ⟨a1, a2, a3, a4, a5, a6, a7⟩ := h
  refine ⟨xkp_g hw.1.1 gr (fun q h1 h2 => e q (by omega) (by omega) (by omega) (by omega) (by omega)) (eR _ (by decide) (by decide) (by decide)) (eR _ (by decide) (by decide) (by decide)) a1, xIm_g hw gr (fun q h1 h2 => e q (by omega) (by omega) (by omega) (by omega) (by omega)) (e2 3 (Or.inl rfl)) (eR _ (by decide) (by decide) (by decide)) (eR _ (by decide) (by decide) (by decide)) a2, (e2 6 (by omega)).trans a3, xTx_e (e _ (by decide) (by decide) (by decide) (by decide) (by decide)) (e2 5 (by omega)) a4, xTr_e (e _ (by decide) (by decide) (by decide) (by decide) (by decide)) (e _ (by decide) (by decide) (by decide) (by decide) (by decide)) a5, xTp_e (e _ (by decide) (by decide) (by decide) (by decide) (by decide)) (e _ (by decide) (by decide) (by decide) (by decide) (by decide)) eL a6, hf⟩
theorem grw_I {K N : Nat → Nat} {R : Nat → Nat → Option Nat} {I I' : Nat → Nat → Int32} (e : ∀ q, 1000 ≤ q → I' q = I q) : grw K N R I K N R I' := fun q hq _ => ⟨rfl, rfl, rfl, e q hq⟩
/-- the class's half stays, when only the model's half changes -/
theorem xInv_m {S : St} (hw : stw S) {K N : Nat → Nat} {R : Nat → Nat → Option Nat} {I I' : Nat → Nat → Int32} {L L' : Nat → Nat → Int64} (e : ∀ q, 200 ≤ q → I' q = I q) (eL : L' 213 = L 213) (h : xInv S K N R I L) : xInv S K N R I' L' :=
  xInv_q hw (grw_I (fun q hq => e q (by omega))) h.2.2.2.2.2.2 (fun q h1 _ _ _ _ => e q (by omega)) (fun k _ => by rw [e 200 (by decide)]) (fun _ _ _ _ => rfl) eL h
theorem frX_hi {Ps Fs : List Nat} {I I' : Nat → Nat → Int32} (hP : ∀ q ∈ Ps, q < 200) (f : frX Ps Fs I I') : ∀ q, 200 ≤ q → I' q = I q := fun q hq => f.1 q (fun z => by have := hP q z; omega) (by omega)
def Inv (S : St) (K N : Nat → Nat) (R : Nat → Nat → Option Nat) (I : Nat → Nat → Int32) (L : Nat → Nat → Int64) : Prop := stw S ∧ mInv S I L ∧ xInv S K N R I L
theorem iv_can {S : St} {K N K1 N1 : Nat → Nat} {R R1 : Nat → Nat → Option Nat} {I I1 I2 : Nat → Nat → Int32} {L : Nat → Nat → Int64} (h : Inv S K N R I L) (a : aG K N R I K1 N1 R1 I1) (b : sE I1 I2) : Inv S K1 N1 R1 I2 L := by
  obtain ⟨hw, hm, hx⟩ := h
  have hm1 : mInv S I1 L := mInv_o rfl (fun q hq => a.2.2.2 q (by omega) (by omega) (by omega) (by omega)) hm
  have hx1 : xInv S K1 N1 R1 I1 L := xInv_q hw a.1 a.2.1 (fun q h1 h2 h3 h4 h5 => a.2.2.2 q h2 h3 h4 h5) (fun k _ => by rw [a.2.2.2 200 (by decide) (by decide) (by decide) (by decide)]) (fun q h1 h2 h3 => a.2.2.1 q h1 h2 h3) rfl hx
  exact ⟨hw, mInv_x rfl (by decide) (by decide) b hm1, xInv_m hw (frX_hi (by decide) b) rfl hx1⟩
theorem iv_ask {S : St} {K N : Nat → Nat} {R R1 : Nat → Nat → Option Nat} {I I1 I2 : Nat → Nat → Int32} {L : Nat → Nat → Int64} (h : Inv S K N R I L) (a1 : aR R R1) (a2 : aE I I1) (b : sE I1 I2) : Inv S K N R1 I2 L := iv_can h (aG_of h.2.2.2.2.2.2.2.2 a1 a2) b
theorem mi_ask {S : St} {K N : Nat → Nat} {R : Nat → Nat → Option Nat} {I I1 : Nat → Nat → Int32} {L : Nat → Nat → Int64} (h : Inv S K N R I L) (a2 : aE I I1) : mInv S I1 L := mInv_o rfl (fun q hq => a2 q (by omega) (by omega) (by omega)) h.2.1
theorem mi_can {S : St} {K N K1 N1 : Nat → Nat} {R R1 : Nat → Nat → Option Nat} {I I1 : Nat → Nat → Int32} {L : Nat → Nat → Int64} (h : Inv S K N R I L) (a : aG K N R I K1 N1 R1 I1) : mInv S I1 L := mInv_o rfl (fun q hq => a.2.2.2 q (by omega) (by omega) (by omega) (by omega)) h.2.1
theorem wSn_mono {s : Rw} {g g' : Gv} (h : gn g ≤ gn g') (w : wSn s g) : wSn s g' := fun k hk => ⟨by have := (w k hk).1; omega, (w k hk).2⟩
theorem wPl_mono {s : Rw} {g g' : Gv} (h : gn g ≤ gn g') (w : wPl s g) : wPl s g' := fun k hk => by
  obtain ⟨w1, w2, w3, w4⟩ := w k hk
  exact ⟨w1, w2, fun z => ⟨by have := (w3 z).1; omega, by have := (w3 z).2; omega⟩, fun z => by have := w4 z; omega⟩
theorem wBk_mono {s : Rw} {g g' : Gv} (h : gn g ≤ gn g') (w : wBk s g) : wBk s g' := fun k hk => ⟨by have := (w k hk).1; omega, (w k hk).2⟩
/-- another gate -/
def stG (S : St) (g : Gv) : St := stM (kpM g S.k.th S.k.s S.k.p S.k.b) S.ml S.m S.t S.tr S.T S.im
theorem stw_G {S : St} (hw : stw S) {g : Gv} (h1 : gwf g) (h2 : gd g ≤ 9999) (h3 : ∃ z, z < 2 ^ gn g ∧ ga g = nI z) (h4 : gn S.k.g ≤ gn g) : stw (stG S g) := by
  obtain ⟨⟨a1, a2, a3, a4, a5, a6, a7⟩, b, c⟩ := hw
  exact ⟨⟨h1, h2, h3, a4, ⟨a5.1, wSn_mono h4 a5.2⟩, ⟨a6.1, wPl_mono h4 a6.2⟩, ⟨a7.1, wBk_mono h4 a7.2⟩⟩, b, c⟩
theorem iv_g {S : St} {K N K1 : Nat → Nat} {R R1 : Nat → Nat → Option Nat} {I I1 I2 : Nat → Nat → Int32} {L : Nat → Nat → Int64} (h : Inv S K N R I L) {g : Gv} (hw' : stw (stG S g)) (gr : grw K N R I K1 N R1 I1) (hf : fre K1) (e : ∀ q, q < 1000 → q ≠ 300 → q ≠ 302 → q ≠ 303 → q ≠ 304 → I1 q = I q) (eR : ∀ q, q < 1000 → q ≠ 301 → R1 q = R q) (hs : xHs 300 K1 R1) (y1 : xG 300 g K1 R1 I1) (hz : ∀ q, gn g ≤ q → q < 6 → I1 302 q = 0) (hr : ∀ q, 4 * gn g ≤ q → q < 24 → I1 304 q = 0) (y2 : mG g I2) (f : frX [104, 105, 106, 107, 108, 127] [0, 1, 2] I1 I2) : Inv (stG S g) K1 N R1 I2 L := by
  obtain ⟨hw, hm, hx⟩ := h
  have hm1 : mInv S I1 L := mInv_o rfl (fun q hq => e q (by omega) (by omega) (by omega) (by omega) (by omega)) hm
  obtain ⟨⟨a1, a2, a3, a4, a5⟩, b1, b2, b3, b4, b5, b6, b7⟩ := hm1
  have hm2 : mInv (stG S g) I2 L := ⟨⟨y2, (f.2 9 (by decide)).trans a2, mSn_x (by decide) (by decide) f a3, mPl_x (by decide) (by decide) f a4, mBk_x (by decide) (by decide) f a5⟩, mIm_x (by decide) (by decide) f b1, (f.2 8 (by decide)).trans b2, fun fi hfi => mWr_x (by decide) (by decide) f (b3 fi hfi), mTx_x (by decide) (by decide) f b4, mTr_x (by decide) (by decide) f b5, mTp_x rfl (by decide) (by decide) f b6, mLe_x (by decide) (by decide) f b7⟩
  obtain ⟨⟨c1, c2, c3, c4, c5, c6, c7, c8⟩, d2, d3, d4, d5, d6, d7⟩ := hx
  have hx1 : xInv (stG S g) K1 N R1 I1 L := by
    refine ⟨⟨y1, xH_g c2 gr (by rw [eR 300 (by decide) (by decide)]), hs, ?_, ?_, ?_, hz, hr⟩, ?_, ?_, ?_, ?_, ?_, hf⟩
    · unfold xSn at c4 ⊢
      rw [e (300 + 10) (by decide) (by decide) (by decide) (by decide) (by decide), e (300 + 10 + 1) (by decide) (by decide) (by decide) (by decide) (by decide), e (300 + 10 + 2) (by decide) (by decide) (by decide) (by decide) (by decide), e (300 + 10 + 3) (by decide) (by decide) (by decide) (by decide) (by decide)]
      exact c4
    · unfold xPl at c5 ⊢
      rw [e (300 + 14) (by decide) (by decide) (by decide) (by decide) (by decide), e (300 + 14 + 1) (by decide) (by decide) (by decide) (by decide) (by decide), e (300 + 14 + 2) (by decide) (by decide) (by decide) (by decide) (by decide)]
      exact c5
    · unfold xBk at c6 ⊢
      rw [e (300 + 18) (by decide) (by decide) (by decide) (by decide) (by decide), e (300 + 18 + 1) (by decide) (by decide) (by decide) (by decide) (by decide), e (300 + 18 + 2) (by decide) (by decide) (by decide) (by decide) (by decide)]
      exact c6
    · exact xIm_g hw gr (fun q h1 h2 => e q (by omega) (by omega) (by omega) (by omega) (by omega)) (by rw [e 200 (by decide) (by decide) (by decide) (by decide) (by decide)]) (eR _ (by decide) (by decide)) (eR _ (by decide) (by decide)) d2
    · rw [e 200 (by decide) (by decide) (by decide) (by decide) (by decide)]; exact d3
    · exact xTx_e (e _ (by decide) (by decide) (by decide) (by decide) (by decide)) (by rw [e 200 (by decide) (by decide) (by decide) (by decide) (by decide)]) d4
    · exact xTr_e (e _ (by decide) (by decide) (by decide) (by decide) (by decide)) (e _ (by decide) (by decide) (by decide) (by decide) (by decide)) d5
    · exact xTp_e (e _ (by decide) (by decide) (by decide) (by decide) (by decide)) (e _ (by decide) (by decide) (by decide) (by decide) (by decide)) rfl d6
  exact ⟨hw', hm2, xInv_m hw' (frX_hi (by decide) f) rfl hx1⟩
theorem iv_n {S : St} {K N : Nat → Nat} {R : Nat → Nat → Option Nat} {I I1 I2 : Nat → Nat → Int32} {L : Nat → Nat → Int64} (h : Inv S K N R I L) {g : Gv} (hw' : stw (stG S g)) (hn : gn g = gn S.k.g) (y : xG 300 g K R I1) (nf : nfr (gn S.k.g) I I1) (y2 : mG g I2) (f : frX [104, 105, 106, 107, 108, 127] [0, 1, 2] I1 I2) : Inv (stG S g) K N R I2 L :=
  iv_g h hw' (grw_I (fun q hq => nf.1 q (by omega) (by omega) (by omega) (by omega))) h.2.2.2.2.2.2.2.2 (fun q h1 h2 h3 h4 h5 => nf.1 q h2 h3 h4 h5) (fun _ _ _ => rfl) h.2.2.1.2.2.1 y (fun q h1 h2 => by rw [nf.2.2.1 q (by omega)]; exact h.2.2.1.2.2.2.2.2.2.1 q (by omega) h2) (fun q h1 h2 => by rw [nf.2.2.2 q (by omega)]; exact h.2.2.1.2.2.2.2.2.2.2 q (by omega) h2) y2 f
theorem mi_n {S : St} {K N : Nat → Nat} {R : Nat → Nat → Option Nat} {I I1 : Nat → Nat → Int32} {L : Nat → Nat → Int64} (h : Inv S K N R I L) {n : Nat} (nf : nfr n I I1) : mInv S I1 L := mInv_o rfl (fun q hq => nf.1 q (by omega) (by omega) (by omega) (by omega)) h.2.1
theorem frX_D {n : Nat} {I I' : Nat → Nat → Int32} (f : frD n I I') : frX [104, 105, 106, 107, 108, 127] [0, 1, 2] I I' := ⟨fun q h1 h2 => f.1 q (fun z => h1 (by rw [z]; decide)) (fun z => h1 (by rw [z]; decide)) (fun z => h1 (by rw [z]; decide)) h2, fun k hk => f.2.1 k (fun z => hk (by rw [z]; decide))⟩
