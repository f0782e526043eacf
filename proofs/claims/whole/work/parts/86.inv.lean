/-! ===== both halves: what they hold ===== -/
def Kp : Type := Gv × Option Nat × Rw × Rw × Rw
def Kp.g (k : Kp) : Gv := Prod.fst k
def Kp.th (k : Kp) : Option Nat := Prod.fst (Prod.snd k)
def Kp.s (k : Kp) : Rw := Prod.fst (Prod.snd (Prod.snd k))
def Kp.p (k : Kp) : Rw := Prod.fst (Prod.snd (Prod.snd (Prod.snd k)))
def Kp.b (k : Kp) : Rw := Prod.snd (Prod.snd (Prod.snd (Prod.snd k)))
def kpM (g : Gv) (th : Option Nat) (s p b : Rw) : Kp := (g, th, s, p, b)
def St : Type := Kp × (Nat → Wk) × Nat × List Nat × List Nat × Tp × Option Kp
def St.k (S : St) : Kp := Prod.fst S
def St.ml (S : St) : Nat → Wk := Prod.fst (Prod.snd S)
def St.m (S : St) : Nat := Prod.fst (Prod.snd (Prod.snd S))
def St.t (S : St) : List Nat := Prod.fst (Prod.snd (Prod.snd (Prod.snd S)))
def St.tr (S : St) : List Nat := Prod.fst (Prod.snd (Prod.snd (Prod.snd (Prod.snd S))))
def St.T (S : St) : Tp := Prod.fst (Prod.snd (Prod.snd (Prod.snd (Prod.snd (Prod.snd S)))))
def St.im (S : St) : Option Kp := Prod.snd (Prod.snd (Prod.snd (Prod.snd (Prod.snd (Prod.snd S)))))
def stM (k : Kp) (ml : Nat → Wk) (m : Nat) (t tr : List Nat) (T : Tp) (im : Option Kp) : St := (k, ml, m, t, tr, T, im)
def thW (ml : Nat → Wk) : Option Nat → Wk
  | none => []
  | some f => ml f
def thI : Option Nat → Int32
  | none => -nI 1
  | some f => nI f
def kpw (m : Nat) (k : Kp) : Prop := gwf k.g ∧ gd k.g ≤ 9999 ∧ (∃ z, z < 2 ^ gn k.g ∧ ga k.g = nI z) ∧ (∀ f, k.th = some f → f < m) ∧ (k.s.1 ≤ 5 ∧ wSn k.s k.g) ∧ (k.p.1 ≤ 10 ∧ wPl k.p k.g) ∧ (k.b.1 ≤ 8 ∧ wBk k.b k.g)
def stw (S : St) : Prop := kpw S.m S.k ∧ (∀ k, S.im = some k → kpw S.m k) ∧ S.m ≤ 6 ∧ (∀ f, f < S.m → wok (S.ml f)) ∧ txw S.t ∧ tpw S.T
def mkp (k : Kp) (I : Nat → Nat → Int32) : Prop := mG k.g I ∧ I 100 9 = thI k.th ∧ mSn k.s I ∧ mPl k.p I ∧ mBk k.b I
def mIm (o : Option Kp) (I : Nat → Nat → Int32) : Prop := match o with
  | none => I 100 44 = 0
  | some k => ¬ I 100 44 = 0 ∧ ∃ J, mkp k J ∧ (∀ j, j < 12 → ∀ q, q < imL j → I (imD j) q = J (imS j) q) ∧ ∀ j, j < 7 → I 100 (45 + j) = J 100 (imF j)
def mInv (S : St) (I : Nat → Nat → Int32) (L : Nat → Nat → Int64) : Prop := mkp S.k I ∧ mIm S.im I ∧ I 100 8 = nI S.m ∧ (∀ f, f < S.m → mWr (S.ml f) f I) ∧ mTx S.t I ∧ mTr S.tr I ∧ mTp S.T I L ∧ mLe I
def xkp (b : Nat) (ml : Nat → Wk) (k : Kp) (K N : Nat → Nat) (R : Nat → Nat → Option Nat) (I : Nat → Nat → Int32) : Prop := xG b k.g K R I ∧ xH b (thW ml k.th) K N R I ∧ xHs b K R ∧ xSn (b + 10) k.s I ∧ xPl (b + 14) k.p I ∧ xBk (b + 18) k.b I ∧ (∀ q, gn k.g ≤ q → q < 6 → I (b + 2) q = 0) ∧ ∀ q, 4 * gn k.g ≤ q → q < 24 → I (b + 4) q = 0
def xIm (ml : Nat → Wk) (o : Option Kp) (K N : Nat → Nat) (R : Nat → Nat → Option Nat) (I : Nat → Nat → Int32) : Prop := match o with
  | none => I 200 3 = 0
  | some k => ¬ I 200 3 = 0 ∧ xkp 380 ml k K N R I
def xInv (S : St) (K N : Nat → Nat) (R : Nat → Nat → Option Nat) (I : Nat → Nat → Int32) (L : Nat → Nat → Int64) : Prop := xkp 300 S.ml S.k K N R I ∧ xIm S.ml S.im K N R I ∧ I 200 6 = nI S.m ∧ xTx S.t I ∧ xTr S.tr I ∧ xTp S.T I L ∧ fre K
theorem wok_nil : wok [] := ⟨Nat.zero_le _, fun c h => absurd h List.not_mem_nil⟩
theorem wok_th {S : St} (h : stw S) {k : Kp} (hk : kpw S.m k) : wok (thW S.ml k.th) := by
  cases ht : k.th with
  | none => exact wok_nil
  | some f => exact h.2.2.2.1 f (hk.2.2.2.1 f ht)
theorem wok_mWr {w : Wk} {f : Nat} {I : Nat → Nat → Int32} (h : mWr w f I) : wok w := by
  obtain ⟨a1, a2, a3, a4, a5⟩ := h
  refine ⟨a4, fun c hc => ?_⟩
  obtain ⟨i, hi, rfl⟩ := List.getElem_of_mem hc
  have := a5 i hi
  have e : wkd w i = w[i] := by
    unfold wkd
    rw [List.getD_eq_getElem?_getD, List.getElem?_eq_getElem hi]
    rfl
  rw [e] at this
  exact ⟨this.1, this.2.1, fun hlt => (this.2.2.2.2 hlt).1 hlt⟩
theorem mHB_th {S : St} {I : Nat → Nat → Int32} {L : Nat → Nat → Int64} (hw : stw S) (h : mInv S I L) : ∃ b, mHB (thW S.ml S.k.th) b I := by
  have h9 := h.1.2.1
  cases ht : S.k.th with
  | none => exact ⟨0, Or.inl ⟨by rw [h9, ht]; rfl, rfl, rfl⟩⟩
  | some f => exact ⟨10 * f, Or.inr ⟨f, by rw [h9, ht]; rfl, mWr_k (h.2.2.2.1 f (hw.1.2.2.2.1 f ht)), rfl⟩⟩
/-! the model's half, kept -/
theorem mG_x {g : Gv} {Ps Fs : List Nat} {I I' : Nat → Nat → Int32} (hP : ∀ q ∈ [104, 105, 106, 107, 108], q ∉ Ps ∧ q ≠ 100) (hF : ∀ k ∈ [0, 1, 2], k ∉ Fs) (f : frX Ps Fs I I') (h : mG g I) : mG g I' := by
  have e : ∀ q ∈ [104, 105, 106, 107, 108], I' q = I q := fun q hq => f.1 q (hP q hq).1 (hP q hq).2
  have e0 : ∀ k ∈ [0, 1, 2], I' 100 k = I 100 k := fun k hk => f.2 k (hF k hk)
  unfold mG at h ⊢
  rw [e 104 (by decide), e 105 (by decide), e 106 (by decide), e 107 (by decide), e 108 (by decide), e0 0 (by decide), e0 1 (by decide), e0 2 (by decide)]
  exact h
theorem mSn_x {s : Rw} {Ps Fs : List Nat} {I I' : Nat → Nat → Int32} (hP : ∀ q ∈ [136, 137, 138], q ∉ Ps ∧ q ≠ 100) (hF : ∀ k ∈ [34], k ∉ Fs) (f : frX Ps Fs I I') (h : mSn s I) : mSn s I' := by
  have e : ∀ q ∈ [136, 137, 138], I' q = I q := fun q hq => f.1 q (hP q hq).1 (hP q hq).2
  have e0 : ∀ k ∈ [34], I' 100 k = I 100 k := fun k hk => f.2 k (hF k hk)
  unfold mSn at h ⊢
  rw [e 136 (by decide), e 137 (by decide), e 138 (by decide), e0 34 (by decide)]
  exact h
theorem mPl_x {s : Rw} {Ps Fs : List Nat} {I I' : Nat → Nat → Int32} (hP : ∀ q ∈ [141, 142], q ∉ Ps ∧ q ≠ 100) (hF : ∀ k ∈ [38], k ∉ Fs) (f : frX Ps Fs I I') (h : mPl s I) : mPl s I' := by
  have e : ∀ q ∈ [141, 142], I' q = I q := fun q hq => f.1 q (hP q hq).1 (hP q hq).2
  have e0 : ∀ k ∈ [38], I' 100 k = I 100 k := fun k hk => f.2 k (hF k hk)
  unfold mPl at h ⊢
  rw [e 141 (by decide), e 142 (by decide), e0 38 (by decide)]
  exact h
theorem mBk_x {s : Rw} {Ps Fs : List Nat} {I I' : Nat → Nat → Int32} (hP : ∀ q ∈ [143, 144], q ∉ Ps ∧ q ≠ 100) (hF : ∀ k ∈ [39], k ∉ Fs) (f : frX Ps Fs I I') (h : mBk s I) : mBk s I' := by
  have e : ∀ q ∈ [143, 144], I' q = I q := fun q hq => f.1 q (hP q hq).1 (hP q hq).2
  have e0 : ∀ k ∈ [39], I' 100 k = I 100 k := fun k hk => f.2 k (hF k hk)
  unfold mBk at h ⊢
  rw [e 143 (by decide), e 144 (by decide), e0 39 (by decide)]
  exact h
theorem mTx_x {t : List Nat} {Ps Fs : List Nat} {I I' : Nat → Nat → Int32} (hP : ∀ q ∈ [114], q ∉ Ps ∧ q ≠ 100) (hF : ∀ k ∈ [10], k ∉ Fs) (f : frX Ps Fs I I') (h : mTx t I) : mTx t I' := by
  have e : ∀ q ∈ [114], I' q = I q := fun q hq => f.1 q (hP q hq).1 (hP q hq).2
  have e0 : ∀ k ∈ [10], I' 100 k = I 100 k := fun k hk => f.2 k (hF k hk)
  unfold mTx at h ⊢
  rw [e 114 (by decide), e0 10 (by decide)]
  exact h
theorem mTr_x {t : List Nat} {Ps Fs : List Nat} {I I' : Nat → Nat → Int32} (hP : ∀ q ∈ [166], q ∉ Ps ∧ q ≠ 100) (hF : ∀ k ∈ [64], k ∉ Fs) (f : frX Ps Fs I I') (h : mTr t I) : mTr t I' := by
  have e : ∀ q ∈ [166], I' q = I q := fun q hq => f.1 q (hP q hq).1 (hP q hq).2
  have e0 : ∀ k ∈ [64], I' 100 k = I 100 k := fun k hk => f.2 k (hF k hk)
  unfold mTr at h ⊢
  rw [e 166 (by decide), e0 64 (by decide)]
  exact h
theorem mLe_x {Ps Fs : List Nat} {I I' : Nat → Nat → Int32} (hP : ∀ q ∈ [125], q ∉ Ps ∧ q ≠ 100) (hF : ∀ k ∈ [], k ∉ Fs) (f : frX Ps Fs I I') (h : mLe I) : mLe I' := by
  have e : ∀ q ∈ [125], I' q = I q := fun q hq => f.1 q (hP q hq).1 (hP q hq).2
  have e0 : ∀ k ∈ [], I' 100 k = I 100 k := fun k hk => f.2 k (hF k hk)
  unfold mLe at h ⊢
  rw [e 125 (by decide)]
  exact h
theorem mTp_x {T : Tp} {L L' : Nat → Nat → Int64} (eL : L' 169 = L 169) {Ps Fs : List Nat} {I I' : Nat → Nat → Int32} (hP : ∀ q ∈ [167, 168], q ∉ Ps ∧ q ≠ 100) (hF : ∀ k ∈ [], k ∉ Fs) (f : frX Ps Fs I I') (h : mTp T I L) : mTp T I' L' := by
  have e : ∀ q ∈ [167, 168], I' q = I q := fun q hq => f.1 q (hP q hq).1 (hP q hq).2
  have e0 : ∀ k ∈ [], I' 100 k = I 100 k := fun k hk => f.2 k (hF k hk)
  unfold mTp at h ⊢
  rw [e 167 (by decide), e 168 (by decide), eL]
  exact h
theorem mWr_x {w : Wk} {fi : Nat} {Ps Fs : List Nat} {I I' : Nat → Nat → Int32} (hP : ∀ q ∈ [115, 116, 117, 118, 119, 120], q ∉ Ps ∧ q ≠ 100) (hF : ∀ k ∈ [], k ∉ Fs) (f : frX Ps Fs I I') (h : mWr w fi I) : mWr w fi I' := by
  have e : ∀ q ∈ [115, 116, 117, 118, 119, 120], I' q = I q := fun q hq => f.1 q (hP q hq).1 (hP q hq).2
  have e0 : ∀ k ∈ [], I' 100 k = I 100 k := fun k hk => f.2 k (hF k hk)
  unfold mWr clR at h ⊢
  rw [e 115 (by decide), e 116 (by decide), e 117 (by decide), e 118 (by decide), e 119 (by decide), e 120 (by decide)]
  exact h
theorem mIm_x {o : Option Kp} {Ps Fs : List Nat} {I I' : Nat → Nat → Int32} (hP : ∀ q ∈ [153, 154, 155, 156, 157, 158, 159, 160, 161, 162, 163, 164], q ∉ Ps ∧ q ≠ 100) (hF : ∀ k ∈ [44, 45, 46, 47, 48, 49, 50, 51], k ∉ Fs) (f : frX Ps Fs I I') (h : mIm o I) : mIm o I' := by
  have e : ∀ q ∈ [153, 154, 155, 156, 157, 158, 159, 160, 161, 162, 163, 164], I' q = I q := fun q hq => f.1 q (hP q hq).1 (hP q hq).2
  have e0 : ∀ k ∈ [44, 45, 46, 47, 48, 49, 50, 51], I' 100 k = I 100 k := fun k hk => f.2 k (hF k hk)
  cases o with
  | none => exact (e0 44 (by decide)).trans h
  | some k =>
    obtain ⟨h1, J, h2, h3, h4⟩ := h
    refine ⟨by rw [e0 44 (by decide)]; exact h1, J, h2, fun j hj q hq => ?_, fun j hj => ?_⟩
    · rw [e (imD j) ((show ∀ j, j < 12 → imD j ∈ [153, 154, 155, 156, 157, 158, 159, 160, 161, 162, 163, 164] by decide) j hj)]
      exact h3 j hj q hq
    · rw [e0 (45 + j) ((show ∀ j, j < 7 → 45 + j ∈ [44, 45, 46, 47, 48, 49, 50, 51] by decide) j hj)]
      exact h4 j hj
def mAllP : List Nat := [104, 105, 106, 107, 108, 136, 137, 138, 141, 142, 143, 144, 114, 166, 125, 167, 168, 115, 116, 117, 118, 119, 120, 153, 154, 155, 156, 157, 158, 159, 160, 161, 162, 163, 164]
def mAllF : List Nat := [0, 1, 2, 9, 34, 38, 39, 8, 10, 64, 44, 45, 46, 47, 48, 49, 50, 51]
theorem sub_P {P Ps : List Nat} (hs : ∀ q ∈ P, q ∈ mAllP) (hP : ∀ q ∈ mAllP, q ∉ Ps ∧ q ≠ 100) : ∀ q ∈ P, q ∉ Ps ∧ q ≠ 100 := fun q hq => hP q (hs q hq)
theorem sub_F {F Fs : List Nat} (hs : ∀ q ∈ F, q ∈ mAllF) (hF : ∀ q ∈ mAllF, q ∉ Fs) : ∀ q ∈ F, q ∉ Fs := fun q hq => hF q (hs q hq)
theorem mInv_x {S : St} {L L' : Nat → Nat → Int64} (eL : L' 169 = L 169) {Ps Fs : List Nat} {I I' : Nat → Nat → Int32} (hP : ∀ q ∈ mAllP, q ∉ Ps ∧ q ≠ 100) (hF : ∀ k ∈ mAllF, k ∉ Fs) (f : frX Ps Fs I I') (h : mInv S I L) : mInv S I' L' := by
  obtain ⟨⟨a1, a2, a3, a4, a5⟩, b, c, d, e1, e2, e3, e4⟩ := h
  exact ⟨⟨mG_x (sub_P (by decide) hP) (sub_F (by decide) hF) f a1, (f.2 9 (hF 9 (by decide))).trans a2, mSn_x (sub_P (by decide) hP) (sub_F (by decide) hF) f a3, mPl_x (sub_P (by decide) hP) (sub_F (by decide) hF) f a4, mBk_x (sub_P (by decide) hP) (sub_F (by decide) hF) f a5⟩, mIm_x (sub_P (by decide) hP) (sub_F (by decide) hF) f b, (f.2 8 (hF 8 (by decide))).trans c, fun fi hfi => mWr_x (sub_P (by decide) hP) (sub_F (by decide) hF) f (d fi hfi), mTx_x (sub_P (by decide) hP) (sub_F (by decide) hF) f e1, mTr_x (sub_P (by decide) hP) (sub_F (by decide) hF) f e2, mTp_x eL (sub_P (by decide) hP) (sub_F (by decide) hF) f e3, mLe_x (sub_P (by decide) hP) (sub_F (by decide) hF) f e4⟩
/-- the model's half stays, when only the class's half changes -/
theorem mInv_o {S : St} {L L' : Nat → Nat → Int64} (eL : L' 169 = L 169) {I I' : Nat → Nat → Int32} (e : ∀ q, q < 200 → I' q = I q) (h : mInv S I L) : mInv S I' L' := by
  obtain ⟨⟨a1, a2, a3, a4, a5⟩, b, c, d, e1, e2, e3, e4⟩ := h
  have e0 : ∀ k, I' 100 k = I 100 k := fun k => congrFun (e 100 (by decide)) k
  have f : frX [] [] (fun q => if q < 200 then I q else I' q) I' := ⟨fun q _ _ => by
    by_cases hq : q < 200
    · show _ = (if q < 200 then I q else I' q); rw [if_pos hq]; exact e q hq
    · show _ = (if q < 200 then I q else I' q); rw [if_neg hq], fun k _ => e0 k⟩
  have g : frX [] [] I I' → mInv S I' L' := fun f => mInv_x eL (by decide) (by decide) f ⟨⟨a1, a2, a3, a4, a5⟩, b, c, d, e1, e2, e3, e4⟩
  have hPs : ∀ q ∈ mAllP, q ∉ (List.range 0) ∧ q ≠ 100 := by decide
  have e9 : ∀ q ∈ mAllP, I' q = I q := fun q hq => e q ((show ∀ q ∈ mAllP, q < 200 by decide) q hq)
  exact mInv_x (Ps := []) (Fs := []) eL (by decide) (by decide) (I := fun q => if q < 200 then I q else I' q) f ⟨⟨a1, a2, a3, a4, a5⟩, (by
    cases ho : S.im with
    | none => rw [ho] at b; exact b
    | some k =>
      rw [ho] at b
      obtain ⟨h1, J, h2, h3, h4⟩ := b
      refine ⟨h1, J, h2, fun j hj q hq => ?_, h4⟩
      show (if imD j < 200 then I (imD j) else I' (imD j)) q = _
      rw [if_pos ((show ∀ j, j < 12 → imD j < 200 by decide) j hj)]
      exact h3 j hj q hq), c, d, e1, e2, e3, e4⟩
