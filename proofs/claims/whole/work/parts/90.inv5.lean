/-! ===== works, image, undo keep both halves ===== -/
def upM (ml : Nat → Wk) (m : Nat) (w : Wk) : Nat → Wk := fun f => if f = m then w else ml f
def stW1 (S : St) (w : Wk) : St := stM (kpM S.k.g (some S.m) S.k.s S.k.p S.k.b) (upM S.ml S.m w) (S.m + 1) [] S.tr S.T S.im
theorem thW_up {m : Nat} {ml : Nat → Wk} {w : Wk} {th : Option Nat} (h : ∀ f, th = some f → f < m) : thW (upM ml m w) th = thW ml th := by
  cases th with
  | none => rfl
  | some f =>
    have := h f rfl
    show (if f = m then w else ml f) = ml f
    rw [if_neg (by omega)]
theorem txw_nil : txw [] := ⟨Nat.zero_le _, fun x h => absurd h List.not_mem_nil⟩
theorem mTx_nil {I : Nat → Nat → Int32} (h : I 100 10 = nI 0) : mTx [] I := ⟨h, Nat.zero_le _, fun k hk => absurd hk (Nat.not_lt_zero _)⟩
theorem xTx_nil {I : Nat → Nat → Int32} (h : I 200 5 = nI 0) : xTx [] I := ⟨h, Nat.zero_le _, fun k hk => absurd hk (Nat.not_lt_zero _)⟩
theorem frX_W {Fs : List Nat} {f : Nat} {I I' : Nat → Nat → Int32} (h : frW Fs f I I') : frX [115, 116, 117, 118, 119, 120, 121] Fs I I' := ⟨h.1, h.2.1⟩
theorem kpw_up {m : Nat} {k : Kp} (h : kpw m k) : kpw (m + 1) k := ⟨h.1, h.2.1, h.2.2.1, fun f hf => Nat.lt_succ_of_lt (h.2.2.2.1 f hf), h.2.2.2.2⟩
theorem iv_works {S : St} {K N K1 N1 : Nat → Nat} {R R1 : Nat → Nat → Option Nat} {I I1 I2 : Nat → Nat → Int32} {L L1 : Nat → Nat → Int64} (h : Inv S K N R I L) (gr : grw K N R I K1 N1 R1 I1) (hf : fre K1) (eL : ∀ q, q < 1000 → L1 q = L q) (e : ∀ q, q < 1000 → q ≠ 200 → I1 q = I q) (e2 : ∀ k, k ≠ 5 → k ≠ 6 → I1 200 k = I 200 k) (eR : ∀ q, q < 1000 → q ≠ 300 → R1 q = R q) (eR3 : ∀ k, k ≠ 7 → R1 300 k = R 300 k) {r r' : Option Value}
    (hx : (S.m = 6 ∧ r = some (.int (-nI 4)) ∧ I1 200 = I 200 ∧ R1 300 = R 300) ∨ (S.m < 6 ∧ I1 200 5 = nI 0 ∧ (((pWk 100 10 S.t).1 = none ∧ r = some (.int (-nI 10 - nI (pWk 100 10 S.t).2)) ∧ I1 200 6 = nI S.m ∧ R1 300 = R 300) ∨ ∃ w, (pWk 100 10 S.t).1 = some w ∧ r = some (.int (nI S.m)) ∧ I1 200 6 = nI (S.m + 1) ∧ xH 300 w K1 N1 R1 I1)))
    (hy : (S.m = 6 ∧ r' = some (.int (-nI 4)) ∧ I2 = I1) ∨ (S.m < 6 ∧ I2 100 10 = nI 0 ∧ frW [11, 12, 21, 22, 23, 10, 9, 8] S.m I1 I2 ∧ (((pWk 100 10 S.t).1 = none ∧ r' = some (.int (-nI 10 - nI (pWk 100 10 S.t).2)) ∧ I2 100 9 = I1 100 9 ∧ I2 100 8 = nI S.m) ∨ ∃ w, (pWk 100 10 S.t).1 = some w ∧ r' = some (.int (nI S.m)) ∧ I2 100 9 = nI S.m ∧ I2 100 8 = nI (S.m + 1) ∧ mWr w S.m I2))) : ∃ v S', r = some (.int v) ∧ r' = some (.int v) ∧ Inv S' K1 N1 R1 I2 L1 := by
  obtain ⟨hw, hm, hxi⟩ := h
  have hm1 : mInv S I1 L1 := mInv_o (eL 169 (by decide)) (fun q hq => e q (by omega) (by omega)) hm
  obtain ⟨a, b1, b2, b3, b4, b5, b6, b7⟩ := hm1
  obtain ⟨c1, c2, c3, c4, c5, c6, c7⟩ := hxi
  have himg : xIm S.ml S.im K1 N1 R1 I1 := xIm_g hw gr (fun q h1 h2 => e q (by omega) (by omega)) (e2 3 (by decide) (by decide)) (eR _ (by decide) (by decide)) (eR _ (by decide) (by decide)) c2
  have hxT : xTr S.tr I1 := xTr_e (e _ (by decide) (by decide)) (e _ (by decide) (by decide)) c5
  have hxP : xTp S.T I1 L1 := xTp_e (e _ (by decide) (by decide)) (e _ (by decide) (by decide)) (eL _ (by decide)) c6
  have hkG : xG 300 S.k.g K1 R1 I1 := xG_g hw.1.1 c1.1 gr (eR _ (by decide) (by decide)) (e _ (by decide) (by decide)) (e _ (by decide) (by decide)) (e _ (by decide) (by decide)) (e _ (by decide) (by decide))
  have hkS : xHs 300 K1 R1 := xHs_g c1.2.2.1 gr (eR _ (by decide) (by decide))
  have hS : xSn (300 + 10) S.k.s I1 := by
    have z := c1.2.2.2.1
    unfold xSn at z ⊢
    rw [e (300 + 10) (by decide) (by decide), e (300 + 10 + 1) (by decide) (by decide), e (300 + 10 + 2) (by decide) (by decide), e (300 + 10 + 3) (by decide) (by decide)]
    exact z
  have hP : xPl (300 + 14) S.k.p I1 := by
    have z := c1.2.2.2.2.1
    unfold xPl at z ⊢
    rw [e (300 + 14) (by decide) (by decide), e (300 + 14 + 1) (by decide) (by decide), e (300 + 14 + 2) (by decide) (by decide)]
    exact z
  have hB : xBk (300 + 18) S.k.b I1 := by
    have z := c1.2.2.2.2.2.1
    unfold xBk at z ⊢
    rw [e (300 + 18) (by decide) (by decide), e (300 + 18 + 1) (by decide) (by decide), e (300 + 18 + 2) (by decide) (by decide)]
    exact z
  have hz : ∀ q, gn S.k.g ≤ q → q < 6 → I1 (300 + 2) q = 0 := by rw [e (300 + 2) (by decide) (by decide)]; exact c1.2.2.2.2.2.2.1
  have hr : ∀ q, 4 * gn S.k.g ≤ q → q < 24 → I1 (300 + 4) q = 0 := by rw [e (300 + 4) (by decide) (by decide)]; exact c1.2.2.2.2.2.2.2
  rcases hx with ⟨x1, x2, x3, x4⟩ | ⟨x1, x2, x3⟩
  · rcases hy with ⟨y1, y2, rfl⟩ | ⟨y1, -⟩
    · exact ⟨_, S, x2, y2, hw, ⟨a, b1, b2, b3, b4, b5, b6, b7⟩, ⟨hkG, xH_g c1.2.1 gr (by rw [x4]), hkS, hS, hP, hB, hz, hr⟩, himg, by rw [x3]; exact c3, xTx_e (e _ (by decide) (by decide)) (by rw [x3]) c4, hxT, hxP, hf⟩
    · omega
  · rcases hy with ⟨y1, -⟩ | ⟨y1, y2, fw, y3⟩
    · omega
    · have f := frX_W fw
      rcases x3 with ⟨z1, z2, z3, z4⟩ | ⟨w, z1, z2, z3, z4⟩
      · rcases y3 with ⟨u1, u2, u3, u4⟩ | ⟨w, u1, -⟩
        · have hw' : stw (stF S []) := ⟨hw.1, hw.2.1, hw.2.2.1, hw.2.2.2.1, txw_nil, hw.2.2.2.2.2⟩
          refine ⟨_, stF S [], z2, u2, hw', ⟨⟨mG_x (by decide) (by decide) f a.1, u3.trans a.2.1, mSn_x (by decide) (by decide) f a.2.2.1, mPl_x (by decide) (by decide) f a.2.2.2.1, mBk_x (by decide) (by decide) f a.2.2.2.2⟩, mIm_x (by decide) (by decide) f b1, u4, fun fi hfi => mWr_W (b3 fi hfi) fw hfi, mTx_nil y2, mTr_x (by decide) (by decide) f b5, mTp_x rfl (by decide) (by decide) f b6, mLe_x (by decide) (by decide) f b7⟩, ?_⟩
          exact xInv_m hw' (frX_hi (by decide) f) rfl (I := I1) (L := L1) ⟨⟨hkG, xH_g c1.2.1 gr (by rw [z4]), hkS, hS, hP, hB, hz, hr⟩, himg, z3, xTx_nil x2, hxT, hxP, hf⟩
        · rw [z1] at u1; cases u1
      · rcases y3 with ⟨u1, -⟩ | ⟨w', u1, u2, u3, u4, u5⟩
        · rw [z1] at u1; cases u1
        · rw [z1] at u1
          obtain rfl : w = w' := Option.some.inj u1
          have hup : ∀ f, f < S.m → upM S.ml S.m w f = S.ml f := fun f hf => by unfold upM; rw [if_neg (by omega)]
          have hum : upM S.ml S.m w S.m = w := by unfold upM; rw [if_pos rfl]
          have hw' : stw (stW1 S w) := by
            refine ⟨⟨hw.1.1, hw.1.2.1, hw.1.2.2.1, fun f hf => ?_, hw.1.2.2.2.2⟩, fun k hk => kpw_up (hw.2.1 k hk), by show S.m + 1 ≤ 6; omega, fun f hf => ?_, txw_nil, hw.2.2.2.2.2⟩
            · have : some S.m = some f := hf
              have := Option.some.inj this
              show f < S.m + 1
              omega
            · show wok (upM S.ml S.m w f)
              have hf' : f < S.m + 1 := hf
              by_cases ef : f = S.m
              · rw [ef, hum]; exact wok_mWr u5
              · rw [hup f (by omega)]; exact hw.2.2.2.1 f (by omega)
          refine ⟨_, stW1 S w, z2, u2, hw', ⟨⟨mG_x (by decide) (by decide) f a.1, u3, mSn_x (by decide) (by decide) f a.2.2.1, mPl_x (by decide) (by decide) f a.2.2.2.1, mBk_x (by decide) (by decide) f a.2.2.2.2⟩, mIm_x (by decide) (by decide) f b1, u4, fun fi hfi => ?_, mTx_nil y2, mTr_x (by decide) (by decide) f b5, mTp_x rfl (by decide) (by decide) f b6, mLe_x (by decide) (by decide) f b7⟩, ?_⟩
          · show mWr (upM S.ml S.m w fi) fi I2
            have hf' : fi < S.m + 1 := hfi
            by_cases ef : fi = S.m
            · rw [ef, hum]; exact u5
            · rw [hup fi (by omega)]; exact mWr_W (b3 fi (by omega)) fw (by omega)
          · refine xInv_m hw' (frX_hi (by decide) f) rfl (I := I1) (L := L1) ⟨⟨hkG, ?_, hkS, hS, hP, hB, hz, hr⟩, ?_, z3, xTx_nil x2, hxT, hxP, hf⟩
            · show xH 300 (upM S.ml S.m w S.m) K1 N1 R1 I1
              rw [hum]; exact z4
            · show xIm (upM S.ml S.m w) S.im K1 N1 R1 I1
              cases ho : S.im with
              | none => rw [ho] at himg; exact himg
              | some k =>
                rw [ho] at himg
                refine ⟨himg.1, himg.2.1, ?_, himg.2.2.2⟩
                rw [thW_up (hw.2.1 k ho).2.2.2.1]
                exact himg.2.2.1
theorem mi_works {S : St} {K N : Nat → Nat} {R : Nat → Nat → Option Nat} {I I1 : Nat → Nat → Int32} {L L1 : Nat → Nat → Int64} (h : Inv S K N R I L) (eL : ∀ q, q < 1000 → L1 q = L q) (e : ∀ q, q < 1000 → q ≠ 200 → I1 q = I q) : mInv S I1 L1 := mInv_o (eL 169 (by decide)) (fun q hq => e q (by omega) (by omega)) h.2.1
/-! one gate becomes another -/
theorem bc_cells {t o n1 n2 n3 : Nat} (hto : (t = 380 ∧ o = 300) ∨ (t = 300 ∧ o = 380)) (I : Nat → Nat → Int32) : (∀ k, k = 4 ∨ k = 5 ∨ k = 6 → bcI t o n1 n2 n3 I t k = I o k) ∧ (∀ k, k < 6 → bcI t o n1 n2 n3 I (t + 2) k = I (o + 2) k ∧ bcI t o n1 n2 n3 I (t + 3) k = I (o + 3) k) ∧ (∀ k, k < 24 → bcI t o n1 n2 n3 I (t + 4) k = I (o + 4) k) ∧ (bcI t o n1 n2 n3 I (t + 10) 3 = I (o + 10) 3 ∧ ∀ k, k < n1 → bcI t o n1 n2 n3 I (t + 10 + 1) k = I (o + 10 + 1) k ∧ bcI t o n1 n2 n3 I (t + 10 + 2) k = I (o + 10 + 2) k ∧ bcI t o n1 n2 n3 I (t + 10 + 3) k = I (o + 10 + 3) k) ∧ (bcI t o n1 n2 n3 I (t + 14) 3 = I (o + 14) 3 ∧ ∀ k, k < n2 → bcI t o n1 n2 n3 I (t + 14 + 1) k = I (o + 14 + 1) k ∧ bcI t o n1 n2 n3 I (t + 14 + 2) k = I (o + 14 + 2) k) ∧ (bcI t o n1 n2 n3 I (t + 18) 3 = I (o + 18) 3 ∧ ∀ k, k < n3 → bcI t o n1 n2 n3 I (t + 18 + 1) k = I (o + 18 + 1) k ∧ bcI t o n1 n2 n3 I (t + 18 + 2) k = I (o + 18 + 2) k) ∧ ∀ q, q < t ∨ t + 22 ≤ q → bcI t o n1 n2 n3 I q = I q := by
  have hq : ∀ q, q < t ∨ t + 22 ≤ q → bcI t o n1 n2 n3 I q = I q := fun q hq => by
    funext k
    unfold bcI rwI flI
    repeat rw [if_neg (fun z => by omega)]
  rcases hto with ⟨rfl, rfl⟩ | ⟨rfl, rfl⟩
  · refine ⟨fun k hk => ?_, fun k hk => ⟨?_, ?_⟩, fun k hk => ?_, ⟨?_, fun k hk => ⟨?_, ?_, ?_⟩⟩, ⟨?_, fun k hk => ⟨?_, ?_⟩⟩, ⟨?_, fun k hk => ⟨?_, ?_⟩⟩, hq⟩ <;> first | (simp [bcI, rwI, flI, hk]; done) | (simp [bcI, rwI, flI]; done)
  · refine ⟨fun k hk => ?_, fun k hk => ⟨?_, ?_⟩, fun k hk => ?_, ⟨?_, fun k hk => ⟨?_, ?_, ?_⟩⟩, ⟨?_, fun k hk => ⟨?_, ?_⟩⟩, ⟨?_, fun k hk => ⟨?_, ?_⟩⟩, hq⟩ <;> first | (simp [bcI, rwI, flI, hk]; done) | (simp [bcI, rwI, flI]; done)
theorem fl_cells {t o : Nat} (hto : (t = 380 ∧ o = 300) ∨ (t = 300 ∧ o = 380)) (R : Nat → Nat → Option Nat) : flR t o R t 7 = R o 7 ∧ (∀ k, k < 6 → flR t o R (t + 1) k = R (o + 1) k) ∧ ∀ q, q ≠ t → q ≠ t + 1 → flR t o R q = R q := by
  refine ⟨up2_self _ _ _ _, fun k hk => ?_, fun q h1 h2 => ?_⟩
  · unfold flR
    rw [up2_ne _ _ _ (by omega)]
    show (if t + 1 = t + 1 ∧ k < 6 then _ else _) = _
    rw [if_pos ⟨rfl, hk⟩]
  · unfold flR
    rw [up2_ne _ _ _ h1]
    funext k
    exact if_neg (fun z => h2 z.1)
theorem xkp_bc {t o : Nat} (hto : (t = 380 ∧ o = 300) ∨ (t = 300 ∧ o = 380)) {ml : Nat → Wk} {k : Kp} (hg : gwf k.g) {K N : Nat → Nat} {R : Nat → Nat → Option Nat} {I : Nat → Nat → Int32} (h : xkp o ml k K N R I) : xkp t ml k K N (flR t o R) (bcI t o k.s.1 k.p.1 k.b.1 I) := by
  have h6 := hg.1
  obtain ⟨b1, b2, b3, b4, b5, b6, b7⟩ := bc_cells (n1 := k.s.1) (n2 := k.p.1) (n3 := k.b.1) hto I
  obtain ⟨r1, r2, r3⟩ := fl_cells hto R
  obtain ⟨a1, a2, a3, a4, a5, a6, a7, a8⟩ := h
  have ht : t + 22 ≤ 1000 := by omega
  refine ⟨⟨(b1 4 (by decide)).trans a1.1, (b1 5 (by decide)).trans a1.2.1, (b1 6 (by decide)).trans a1.2.2.1, fun p hp => ?_⟩, ?_, fun p hp q hq => ?_, ⟨b4.1.trans a4.1, fun j hj => ?_⟩, ⟨b5.1.trans a5.1, fun j hj => ?_⟩, ⟨b6.1.trans a6.1, fun j hj => ?_⟩, fun q h1 h2 => ?_, fun q h1 h2 => ?_⟩
  · obtain ⟨⟨hh, k1, k2⟩, k3, k4, k5⟩ := a1.2.2.2 p hp
    exact ⟨⟨hh, (r2 p (by omega)).trans k1, xHd_I k2 (fun q hq => b7 q (by omega))⟩, ((b2 p (by omega)).2).trans k3, ((b2 p (by omega)).1).trans k4, fun j hj => (b3 (4 * p + j) (by omega)).trans (k5 j hj)⟩
  · rcases a2 with ⟨z1, z2⟩ | ⟨oo, cap, z1, z2⟩
    · exact Or.inl ⟨r1.trans z1, z2⟩
    · exact Or.inr ⟨oo, cap, r1.trans z1, xWs_a z2 (fun q hq => r3 q (by omega) (by omega)) (fun q hq => b7 q (by omega))⟩
  · rw [r2 p hp] at hq
    exact a3 p hp q hq
  · obtain ⟨u1, u2, u3⟩ := b4.2 j hj
    obtain ⟨v1, v2, v3⟩ := a4.2 j hj
    exact ⟨u1.trans v1, u2.trans v2, u3.trans v3⟩
  · obtain ⟨u1, u2⟩ := b5.2 j hj
    obtain ⟨v1, v2⟩ := a5.2 j hj
    exact ⟨u1.trans v1, fun z => u2.trans (v2 z)⟩
  · obtain ⟨u1, u2⟩ := b6.2 j hj
    obtain ⟨v1, v2⟩ := a6.2 j hj
    exact ⟨u1.trans v1, u2.trans v2⟩
  · exact ((b2 q h2).1).trans (a7 q h1 h2)
  · exact (b3 q h2).trans (a8 q h1 h2)
theorem mkp_J {m : Nat} {k : Kp} (hk : kpw m k) {I J : Nat → Nat → Int32} (h1 : ∀ j, j < 12 → ∀ q, q < imL j → I (imS j) q = J (imS j) q) (h2 : ∀ j, j < 7 → I 100 (imF j) = J 100 (imF j)) (h : mkp k J) : mkp k I := by
  have h6 := hk.1.1
  obtain ⟨a1, a2, a3, a4, a5⟩ := h
  have s5 := hk.2.2.2.2.1.1
  have p5 := hk.2.2.2.2.2.1.1
  have b5 := hk.2.2.2.2.2.2.1
  have g0 : ∀ q, q < 6 → I 104 q = J 104 q := fun q hq => h1 0 (by decide) q hq
  have g1 : ∀ q, q < 6 → I 105 q = J 105 q := fun q hq => h1 1 (by decide) q hq
  have g2 : ∀ q, q < 6 → I 106 q = J 106 q := fun q hq => h1 2 (by decide) q hq
  have g3 : ∀ q, q < 6 → I 107 q = J 107 q := fun q hq => h1 3 (by decide) q hq
  have g4 : ∀ q, q < 24 → I 108 q = J 108 q := fun q hq => h1 4 (by decide) q hq
  have g5 : ∀ q, q < 5 → I 136 q = J 136 q := fun q hq => h1 5 (by decide) q hq
  have g6 : ∀ q, q < 5 → I 137 q = J 137 q := fun q hq => h1 6 (by decide) q hq
  have g7 : ∀ q, q < 5 → I 138 q = J 138 q := fun q hq => h1 7 (by decide) q hq
  have g8 : ∀ q, q < 10 → I 141 q = J 141 q := fun q hq => h1 8 (by decide) q hq
  have g9 : ∀ q, q < 10 → I 142 q = J 142 q := fun q hq => h1 9 (by decide) q hq
  have g10 : ∀ q, q < 8 → I 143 q = J 143 q := fun q hq => h1 10 (by decide) q hq
  have g11 : ∀ q, q < 8 → I 144 q = J 144 q := fun q hq => h1 11 (by decide) q hq
  have f9 : I 100 9 = J 100 9 := h2 0 (by decide)
  have f0 : I 100 0 = J 100 0 := h2 1 (by decide)
  have f1 : I 100 1 = J 100 1 := h2 2 (by decide)
  have f2 : I 100 2 = J 100 2 := h2 3 (by decide)
  have f34 : I 100 34 = J 100 34 := h2 4 (by decide)
  have f38 : I 100 38 = J 100 38 := h2 5 (by decide)
  have f39 : I 100 39 = J 100 39 := h2 6 (by decide)
  refine ⟨⟨f0.trans a1.1, f1.trans a1.2.1, f2.trans a1.2.2.1, fun p hp => ?_⟩, f9.trans a2, ⟨f34.trans a3.1, s5, fun j hj => ?_⟩, ⟨f38.trans a4.1, p5, fun j hj => ?_⟩, ⟨f39.trans a5.1, b5, fun j hj => ?_⟩⟩
  · obtain ⟨z1, z2, z3, z4, z5⟩ := a1.2.2.2 p hp
    exact ⟨(g0 p (by omega)).trans z1, (g1 p (by omega)).trans z2, (g2 p (by omega)).trans z3, (g3 p (by omega)).trans z4, fun j hj => (g4 _ (by omega)).trans (z5 j hj)⟩
  · obtain ⟨z1, z2, z3⟩ := a3.2.2 j hj
    exact ⟨(g5 j (by omega)).trans z1, (g6 j (by omega)).trans z2, (g7 j (by omega)).trans z3⟩
  · obtain ⟨z1, z2⟩ := a4.2.2 j hj
    exact ⟨(g8 j (by omega)).trans z1, (g9 j (by omega)).trans z2⟩
  · obtain ⟨z1, z2⟩ := a5.2.2 j hj
    exact ⟨(g10 j (by omega)).trans z1, (g11 j (by omega)).trans z2⟩
def stI (S : St) : St := stM S.k S.ml S.m S.t S.tr S.T (some S.k)
def stU (S : St) (k : Kp) : St := stM k S.ml S.m S.t S.tr S.T (some k)
def imgI (S : St) (I : Nat → Nat → Int32) : Nat → Nat → Int32 := up2 (bcI 380 300 S.k.s.1 S.k.p.1 S.k.b.1 I) 200 3 (nI 1)
theorem mi_image {S : St} {K N : Nat → Nat} {R : Nat → Nat → Option Nat} {I : Nat → Nat → Int32} {L : Nat → Nat → Int64} (h : Inv S K N R I L) : mInv S (imgI S I) L := mInv_o rfl (fun q hq => by
  unfold imgI
  rw [up2_ne _ _ _ (by omega)]
  exact (bc_cells (Or.inl ⟨rfl, rfl⟩) I).2.2.2.2.2.2 q (by omega)) h.2.1
theorem iv_image {S : St} {K N : Nat → Nat} {R : Nat → Nat → Option Nat} {I I2 : Nat → Nat → Int32} {L : Nat → Nat → Int64} (h : Inv S K N R I L) (y1 : ∀ j, j < 12 → ∀ k, k < imL j → I2 (imD j) k = imgI S I (imS j) k) (y2 : ∀ j, j < 7 → I2 100 (45 + j) = imgI S I 100 (imF j)) (y3 : I2 100 44 = nI 1) (f : frX [153, 154, 155, 156, 157, 158, 159, 160, 161, 162, 163, 164] [44, 45, 46, 47, 48, 49, 50, 51] (imgI S I) I2) : Inv (stI S) K N (flR 380 300 R) I2 L := by
  have hm1 := mi_image h
  obtain ⟨hw, -, hx⟩ := h
  obtain ⟨a, b1, b2, b3, b4, b5, b6, b7⟩ := hm1
  have hw' : stw (stI S) := ⟨hw.1, fun k hk => by obtain rfl : S.k = k := Option.some.inj hk; exact hw.1, hw.2.2⟩
  obtain ⟨-, -, -, -, -, -, c7⟩ := bc_cells (n1 := S.k.s.1) (n2 := S.k.p.1) (n3 := S.k.b.1) (Or.inl ⟨rfl, rfl⟩) I
  obtain ⟨r1, r2, r3⟩ := fl_cells (t := 380) (o := 300) (Or.inl ⟨rfl, rfl⟩) R
  have e : ∀ q, q ≠ 200 → (q < 380 ∨ 402 ≤ q) → imgI S I q = I q := fun q h1 h2 => by
    unfold imgI
    rw [up2_ne _ _ _ h1]
    exact c7 q (by omega)
  have e2 : ∀ k, k ≠ 3 → imgI S I 200 k = I 200 k := fun k hk => by
    unfold imgI
    rw [up2_at, if_neg hk, c7 200 (by decide)]
  have gr : grw K N R I K N (flR 380 300 R) (imgI S I) := fun q hq _ => ⟨rfl, rfl, r3 q (by omega) (by omega), e q (by omega) (by omega)⟩
  obtain ⟨d1, d2, d3, d4, d5, d6, d7⟩ := hx
  refine ⟨hw', ⟨⟨mG_x (by decide) (by decide) f a.1, (f.2 9 (by decide)).trans a.2.1, mSn_x (by decide) (by decide) f a.2.2.1, mPl_x (by decide) (by decide) f a.2.2.2.1, mBk_x (by decide) (by decide) f a.2.2.2.2⟩, ⟨by rw [y3]; decide, imgI S I, a, y1, y2⟩, (f.2 8 (by decide)).trans b2, fun fi hfi => mWr_x (by decide) (by decide) f (b3 fi hfi), mTx_x (by decide) (by decide) f b4, mTr_x (by decide) (by decide) f b5, mTp_x rfl (by decide) (by decide) f b6, mLe_x (by decide) (by decide) f b7⟩, ?_⟩
  refine xInv_m hw' (frX_hi (by decide) f) rfl (I := imgI S I) (L := L) ⟨xkp_g hw.1.1 gr (fun q h1 h2 => e q (by omega) (by omega)) (r3 _ (by decide) (by decide)) (r3 _ (by decide) (by decide)) d1, ⟨?_, ?_⟩, (e2 6 (by decide)).trans d3, xTx_e (e _ (by decide) (by decide)) (e2 5 (by decide)) d4, xTr_e (e _ (by decide) (by decide)) (e _ (by decide) (by decide)) d5, xTp_e (e _ (by decide) (by decide)) (e _ (by decide) (by decide)) rfl d6, d7⟩
  · show ¬ imgI S I 200 3 = 0
    unfold imgI
    rw [up2_self]
    decide
  · have z := xkp_bc (t := 380) (o := 300) (Or.inl ⟨rfl, rfl⟩) hw.1.1 d1
    exact xkp_g hw.1.1 (grw_I (fun q hq => up2_ne _ _ _ (by omega))) (fun q h1 h2 => up2_ne _ _ _ (by omega)) rfl rfl z
def undI (k : Kp) (I : Nat → Nat → Int32) : Nat → Nat → Int32 := bcI 300 380 k.s.1 k.p.1 k.b.1 I
theorem mi_undo {S : St} {K N : Nat → Nat} {R : Nat → Nat → Option Nat} {I : Nat → Nat → Int32} {L : Nat → Nat → Int64} (h : Inv S K N R I L) (k : Kp) : mInv S (undI k I) L := mInv_o rfl (fun q hq => (bc_cells (Or.inr ⟨rfl, rfl⟩) I).2.2.2.2.2.2 q (by omega)) h.2.1
theorem iv_undo {S : St} {K N : Nat → Nat} {R : Nat → Nat → Option Nat} {I I2 : Nat → Nat → Int32} {L : Nat → Nat → Int64} (h : Inv S K N R I L) {k : Kp} (ho : S.im = some k) (y1 : ∀ j, j < 12 → ∀ q, q < imL j → I2 (imS j) q = undI k I (imD j) q) (y2 : ∀ j, j < 7 → I2 100 (imF j) = undI k I 100 (45 + j)) (f : frX [104, 105, 106, 107, 108, 136, 137, 138, 141, 142, 143, 144] [9, 0, 1, 2, 34, 38, 39] (undI k I) I2) : Inv (stU S k) K N (flR 300 380 R) I2 L := by
  have hm1 := mi_undo h k
  obtain ⟨hw, -, hx⟩ := h
  have hk := hw.2.1 k ho
  obtain ⟨a, b1, b2, b3, b4, b5, b6, b7⟩ := hm1
  have hw' : stw (stU S k) := ⟨hk, fun k' hk' => by obtain rfl : k = k' := Option.some.inj hk'; exact hk, hw.2.2⟩
  obtain ⟨-, -, -, -, -, -, c7⟩ := bc_cells (n1 := k.s.1) (n2 := k.p.1) (n3 := k.b.1) (t := 300) (o := 380) (Or.inr ⟨rfl, rfl⟩) I
  obtain ⟨r1, r2, r3⟩ := fl_cells (t := 300) (o := 380) (Or.inr ⟨rfl, rfl⟩) R
  have e : ∀ q, (q < 300 ∨ 322 ≤ q) → undI k I q = I q := fun q h1 => c7 q (by omega)
  have gr : grw K N R I K N (flR 300 380 R) (undI k I) := fun q hq _ => ⟨rfl, rfl, r3 q (by omega) (by omega), e q (by omega)⟩
  obtain ⟨d1, d2, d3, d4, d5, d6, d7⟩ := hx
  rw [ho] at b1 d2
  have b1' := mIm_x (by decide) (by decide) f b1
  obtain ⟨m1, J, m2, m3, m4⟩ := b1
  refine ⟨hw', ⟨mkp_J hk (fun j hj q hq => (y1 j hj q hq).trans (m3 j hj q hq)) (fun j hj => (y2 j hj).trans (m4 j hj)) m2, b1', (f.2 8 (by decide)).trans b2, fun fi hfi => mWr_x (by decide) (by decide) f (b3 fi hfi), mTx_x (by decide) (by decide) f b4, mTr_x (by decide) (by decide) f b5, mTp_x rfl (by decide) (by decide) f b6, mLe_x (by decide) (by decide) f b7⟩, ?_⟩
  exact xInv_m hw' (frX_hi (by decide) f) rfl (I := undI k I) (L := L) ⟨xkp_bc (t := 300) (o := 380) (Or.inr ⟨rfl, rfl⟩) hk.1 d2.2, ⟨by rw [e 200 (by decide)]; exact d2.1, xkp_g hk.1 gr (fun q h1 h2 => e q (by omega)) (r3 _ (by decide) (by decide)) (r3 _ (by decide) (by decide)) d2.2⟩, by rw [e 200 (by decide)]; exact d3, xTx_e (e _ (by decide)) (by rw [e 200 (by decide)]) d4, xTr_e (e _ (by decide)) (e _ (by decide)) d5, xTp_e (e _ (by decide)) (e _ (by decide)) rfl d6, d7⟩
