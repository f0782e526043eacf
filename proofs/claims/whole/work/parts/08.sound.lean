set_option maxHeartbeats 4000000 in
theorem z1_ok {X : zX} {M : zM} {lk : zLk} {ini : Bool} (hX : zC X M) (hlk : zlkOK M.1.cls lk) (hini : ini = true → zini M lk) {i : Instr} {pc : Nat} (hd : decode M.2.1 pc = .ok (i, zlen i)) {σ : Sg} {cells slots : Nat} {lv : List (Nat × Value)} {st : List Value}
    {k : Sg → List (Nat × Value) → List Value → Prop} (hk : ∀ σ' lv' st', k σ' lv' st' → zS X σ' cells slots (pc + zlen i) lv' st') (h : z1 M.2.2.1 lk ini i σ lv st k) : zS X σ cells slots pc lv st := by
  obtain ⟨p, l, e, R, s, m, args, below, meth, c, Q, G, b0, nL, σ0, ad0⟩ := X
  obtain ⟨hx, hb, hml, hown, hts, hK, hlocks, hb0, hnL, hrt, hnm, hEx⟩ := hX
  subst hnL
  intro ad H locs ls a1 a2 a3 a4 a5 a6
  cases i with
  | aload n =>
    unfold z1 at h
    dsimp only at h
    obtain ⟨v, h1, h⟩ := zld_sp h
    obtain ⟨h2, h⟩ := zvr_sp h
    rcases h2 with ⟨q, rfl⟩ | rfl
    · exact lv_aload hx hb hd (z_at a6 h1) (hk _ _ _ h ad H locs ls a1 a2 a3 (zl_c (a3 _ h1) a4) a5 a6)
    · exact lv_aloadN hx hb hd (z_at a6 h1) (hk _ _ _ h ad H locs ls a1 a2 a3 (zl_n a4) a5 a6)
  | aload_n n =>
    unfold z1 at h
    dsimp only at h
    have h := zfin_sp h
    obtain ⟨v, h1, h⟩ := zld_sp h
    obtain ⟨h2, h⟩ := zvr_sp h
    rcases h2 with ⟨q, rfl⟩ | rfl
    · exact lv_aload_n hx hb hd rfl (z_at a6 h1) (hk _ _ _ h ad H locs ls a1 a2 a3 (zl_c (a3 _ h1) a4) a5 a6)
    · exact lv_aload_nN hx hb hd rfl (z_at a6 h1) (hk _ _ _ h ad H locs ls a1 a2 a3 (zl_n a4) a5 a6)
  | iload n =>
    unfold z1 at h
    dsimp only at h
    obtain ⟨v, h1, h⟩ := zld_sp h
    obtain ⟨x, r, h2, h⟩ := zi1_sp h
    cases h2
    exact lv_iload hx hb hd (z_at a6 h1) (hk _ _ _ h ad H locs ls a1 a2 a3 (zl_i a4) a5 a6)
  | iload_n n =>
    unfold z1 at h
    dsimp only at h
    have h := zfin_sp h
    obtain ⟨v, h1, h⟩ := zld_sp h
    obtain ⟨x, r, h2, h⟩ := zi1_sp h
    cases h2
    exact lv_iload_n hx hb hd rfl (z_at a6 h1) (hk _ _ _ h ad H locs ls a1 a2 a3 (zl_i a4) a5 a6)
  | lload n =>
    unfold z1 at h
    dsimp only at h
    obtain ⟨v, h1, h⟩ := zld_sp h
    obtain ⟨x, r, h2, h⟩ := zl1_sp h
    cases h2
    exact lv_lload hx hb hd (z_at a6 h1) (hk _ _ _ h ad H locs ls a1 a2 a3 (zl_l a4) a5 a6)
  | lload_n n =>
    unfold z1 at h
    dsimp only at h
    have h := zfin_sp h
    obtain ⟨v, h1, h⟩ := zld_sp h
    obtain ⟨x, r, h2, h⟩ := zl1_sp h
    cases h2
    exact lv_lload_n hx hb hd rfl (z_at a6 h1) (hk _ _ _ h ad H locs ls a1 a2 a3 (zl_l a4) a5 a6)
  | istore n =>
    unfold z1 at h
    dsimp only at h
    cases hbn : Nat.blt n M.2.2.1 with
    | false => rw [hbn] at h; exact h.elim
    | true =>
      rw [hbn] at h
      obtain ⟨x, r, rfl, h⟩ := zi1_sp h
      have h := zfil_sp _ _ _ h
      refine lv_istore hx hb hd a6 (Nat.le_of_ble_eq_true hbn) rfl (fun ls hl => ?_)
      refine hk _ _ _ h ad H locs ls a1 a2 (zl_f (fun q e => by cases e) a3) (zl_t a4) a5 ?_
      rw [zmapf ad _ (zf1_ph ad _)] at hl
      exact hl
  | istore_n n =>
    unfold z1 at h
    dsimp only at h
    have h := zfin_sp h
    cases hbn : Nat.blt n.val M.2.2.1 with
    | false => rw [hbn] at h; exact h.elim
    | true =>
      rw [hbn] at h
      obtain ⟨x, r, rfl, h⟩ := zi1_sp h
      have h := zfil_sp _ _ _ h
      refine lv_istore_n hx hb hd rfl a6 (Nat.le_of_ble_eq_true hbn) rfl (fun ls hl => ?_)
      refine hk _ _ _ h ad H locs ls a1 a2 (zl_f (fun q e => by cases e) a3) (zl_t a4) a5 ?_
      rw [zmapf ad _ (zf1_ph ad _)] at hl
      exact hl
  | astore n =>
    unfold z1 at h
    dsimp only at h
    cases hbn : Nat.blt n M.2.2.1 with
    | false => rw [hbn] at h; exact h.elim
    | true =>
      rw [hbn] at h
      obtain ⟨x, r, rfl, h⟩ := zr1_sp h
      have h := zfil_sp _ _ _ h
      refine lv_astore hx hb hd a6 (Nat.le_of_ble_eq_true hbn) rfl (fun ls hl => ?_)
      refine hk _ _ _ h ad H locs ls a1 a2 (zl_f (zl_h a4) a3) (zl_t a4) a5 ?_
      rw [zmapf ad _ (zf1_ph ad _)] at hl
      exact hl
  | astore_n n =>
    unfold z1 at h
    dsimp only at h
    have h := zfin_sp h
    cases hbn : Nat.blt n.val M.2.2.1 with
    | false => rw [hbn] at h; exact h.elim
    | true =>
      rw [hbn] at h
      obtain ⟨x, r, rfl, h⟩ := zr1_sp h
      have h := zfil_sp _ _ _ h
      refine lv_astore_n hx hb hd rfl a6 (Nat.le_of_ble_eq_true hbn) rfl (fun ls hl => ?_)
      refine hk _ _ _ h ad H locs ls a1 a2 (zl_f (zl_h a4) a3) (zl_t a4) a5 ?_
      rw [zmapf ad _ (zf1_ph ad _)] at hl
      exact hl
  | iconst n =>
    unfold z1 at h
    dsimp only at h
    exact lv_iconst hx hb hd rfl (hk _ _ _ (zcC_sp h) ad H locs ls a1 a2 a3 (zl_i a4) a5 a6)
  | bipush n =>
    unfold z1 at h
    dsimp only at h
    exact lv_bipush hx hb hd rfl (hk _ _ _ (zcB_sp8 h) ad H locs ls a1 a2 a3 (zl_i a4) a5 a6)
  | sipush n =>
    unfold z1 at h
    dsimp only at h
    exact lv_sipush hx hb hd rfl (hk _ _ _ (zcB_sp16 h) ad H locs ls a1 a2 a3 (zl_i a4) a5 a6)
  | lconst n =>
    unfold z1 at h
    dsimp only at h
    exact lv_lconst hx hb hd rfl (hk _ _ _ h ad H locs ls a1 a2 a3 (zl_l a4) a5 a6)
  | ldc n =>
    unfold z1 at h
    dsimp only at h
    obtain ⟨v, h1, h⟩ := zlkI_sp h
    exact lv_ldc hx hb hown (hts _ (List.mem_cons_of_mem _ (hlk.2.1 _ h1))) hd (hk _ _ _ h ad H locs ls a1 a2 a3 (zl_i a4) a5 a6)
  | ldc2_w n =>
    unfold z1 at h
    dsimp only at h
    obtain ⟨v, h1, h⟩ := zlkL_sp h
    exact lv_ldc2 hx hb hown (hts _ (List.mem_cons_of_mem _ (hlk.2.2 _ h1))) hd (hk _ _ _ h ad H locs ls a1 a2 a3 (zl_l a4) a5 a6)
  | iinc n kc =>
    unfold z1 at h
    dsimp only at h
    obtain ⟨v, h1, h⟩ := zld_sp h
    obtain ⟨x, r, h2, hq1⟩ := zi1_sp h
    obtain ⟨rfl, rfl⟩ : v = .int x ∧ [] = r := by cases h2; exact ⟨rfl, rfl⟩
    clear h
    have h := zcC_sp hq1
    clear hq1
    cases hbn : Nat.blt n M.2.2.1 with
    | false => rw [hbn] at h; exact h.elim
    | true =>
      rw [hbn] at h
      have h := zfil_sp _ _ _ h
      obtain ⟨j, hj⟩ := List.getElem?_of_mem (List.mem_map.mpr ⟨_, h1, rfl⟩ : (n, ph ad (.int x)) ∈ lv.map fun x => (x.1, ph ad x.2))
      refine lv_iinc hx hb hd a6 (k := j) hj rfl (Nat.le_of_ble_eq_true hbn) rfl (fun ls hl => ?_)
      refine hk _ _ _ h ad H locs ls a1 a2 (zl_f (fun q e => by cases e) a3) a4 a5 ?_
      rw [zmapf ad _ (zf1_ph ad _)] at hl
      exact hl
  | iadd =>
    unfold z1 at h
    dsimp only at h
    obtain ⟨x, y, r, rfl, h⟩ := zi2_sp h
    exact lv_iadd hx hb hd (hk _ _ _ h ad H locs ls a1 a2 a3 (zl_i (zl_t (zl_t a4))) a5 a6)
  | isub =>
    unfold z1 at h
    dsimp only at h
    obtain ⟨x, y, r, rfl, h⟩ := zi2_sp h
    exact lv_isub hx hb hd (hk _ _ _ h ad H locs ls a1 a2 a3 (zl_i (zl_t (zl_t a4))) a5 a6)
  | imul =>
    unfold z1 at h
    dsimp only at h
    obtain ⟨x, y, r, rfl, h⟩ := zi2_sp h
    exact lv_imul hx hb hd (hk _ _ _ h ad H locs ls a1 a2 a3 (zl_i (zl_t (zl_t a4))) a5 a6)
  | iand =>
    unfold z1 at h
    dsimp only at h
    obtain ⟨x, y, r, rfl, h⟩ := zi2_sp h
    exact lv_iand hx hb hd (hk _ _ _ h ad H locs ls a1 a2 a3 (zl_i (zl_t (zl_t a4))) a5 a6)
  | ior =>
    unfold z1 at h
    dsimp only at h
    obtain ⟨x, y, r, rfl, h⟩ := zi2_sp h
    exact lv_ior hx hb hd (hk _ _ _ h ad H locs ls a1 a2 a3 (zl_i (zl_t (zl_t a4))) a5 a6)
  | ixor =>
    unfold z1 at h
    dsimp only at h
    obtain ⟨x, y, r, rfl, h⟩ := zi2_sp h
    exact lv_ixor hx hb hd (hk _ _ _ h ad H locs ls a1 a2 a3 (zl_i (zl_t (zl_t a4))) a5 a6)
  | ishl =>
    unfold z1 at h
    dsimp only at h
    obtain ⟨x, y, r, rfl, h⟩ := zi2_sp h
    exact lv_ishl hx hb hd (hk _ _ _ h ad H locs ls a1 a2 a3 (zl_i (zl_t (zl_t a4))) a5 a6)
  | ishr =>
    unfold z1 at h
    dsimp only at h
    obtain ⟨x, y, r, rfl, h⟩ := zi2_sp h
    exact lv_ishr hx hb hd (hk _ _ _ h ad H locs ls a1 a2 a3 (zl_i (zl_t (zl_t a4))) a5 a6)
  | ineg =>
    unfold z1 at h
    dsimp only at h
    obtain ⟨x, r, rfl, h⟩ := zi1_sp h
    exact lv_ineg hx hb hd (hk _ _ _ h ad H locs ls a1 a2 a3 (zl_i (zl_t a4)) a5 a6)
  | i2b =>
    unfold z1 at h
    dsimp only at h
    obtain ⟨x, r, rfl, h⟩ := zi1_sp h
    exact lv_i2b hx hb hd rfl (hk _ _ _ h ad H locs ls a1 a2 a3 (zl_i (zl_t a4)) a5 a6)
  | i2s =>
    unfold z1 at h
    dsimp only at h
    obtain ⟨x, r, rfl, h⟩ := zi1_sp h
    exact lv_i2s hx hb hd rfl (hk _ _ _ h ad H locs ls a1 a2 a3 (zl_i (zl_t a4)) a5 a6)
  | i2c =>
    unfold z1 at h
    dsimp only at h
    obtain ⟨x, r, rfl, h⟩ := zi1_sp h
    exact lv_i2c hx hb hd rfl (hk _ _ _ h ad H locs ls a1 a2 a3 (zl_i (zl_t a4)) a5 a6)
  | land =>
    unfold z1 at h
    dsimp only at h
    obtain ⟨x, y, r, rfl, h⟩ := zl2_sp h
    exact lv_land hx hb hd (hk _ _ _ h ad H locs ls a1 a2 a3 (zl_l (zl_t (zl_t a4))) a5 a6)
  | lor =>
    unfold z1 at h
    dsimp only at h
    obtain ⟨x, y, r, rfl, h⟩ := zl2_sp h
    exact lv_lor hx hb hd (hk _ _ _ h ad H locs ls a1 a2 a3 (zl_l (zl_t (zl_t a4))) a5 a6)
  | idiv =>
    unfold z1 at h
    dsimp only at h
    obtain ⟨x, y, r, rfl, h0, h⟩ := zi2_sp h
    exact lv_idiv hx hb hd h0 (hk _ _ _ h ad H locs ls a1 a2 a3 (zl_i (zl_t (zl_t a4))) a5 a6)
  | irem =>
    unfold z1 at h
    dsimp only at h
    obtain ⟨x, y, r, rfl, h0, h⟩ := zi2_sp h
    exact lv_irem hx hb hd h0 (hk _ _ _ h ad H locs ls a1 a2 a3 (zl_i (zl_t (zl_t a4))) a5 a6)
  | i2l =>
    unfold z1 at h
    dsimp only at h
    obtain ⟨x, r, rfl, h⟩ := zi1_sp h
    exact lv_i2l hx hb hd rfl (hk _ _ _ h ad H locs ls a1 a2 a3 (zl_l (zl_t a4)) a5 a6)
  | l2i =>
    unfold z1 at h
    dsimp only at h
    obtain ⟨x, r, rfl, h⟩ := zl1_sp h
    exact lv_l2i hx hb hd rfl (hk _ _ _ h ad H locs ls a1 a2 a3 (zl_i (zl_t a4)) a5 a6)
  | lshl =>
    unfold z1 at h
    dsimp only at h
    obtain ⟨y, r1, e1, h1⟩ := zi1_sp h
    obtain ⟨x, r, e2, h2⟩ := zl1_sp h1
    subst e2
    subst e1
    exact lv_lshl hx hb hd rfl (hk _ _ _ h2 ad H locs ls a1 a2 a3 (zl_l (zl_t (zl_t a4))) a5 a6)
  | lcmp =>
    unfold z1 at h
    dsimp only at h
    obtain ⟨x, y, r, rfl, h⟩ := zl2_sp h
    exact W.lcmp hx hb hd (hk _ _ _ h ad H locs ls a1 a2 a3 (zl_i (zl_t (zl_t a4))) a5 a6)
  | dup =>
    unfold z1 at h
    dsimp only at h
    obtain ⟨v, r, rfl, h, hc⟩ := zv1_sp h
    exact lv_dup hx hb hd (by rw [ph_cat]; exact hc) (hk _ _ _ h ad H locs ls a1 a2 a3 (zl_c (zl_h a4) a4) a5 a6)
  | pop =>
    unfold z1 at h
    dsimp only at h
    obtain ⟨v, r, rfl, h, hc⟩ := zv1_sp h
    exact lv_pop hx hb hd (by rw [ph_cat]; exact hc) (hk _ _ _ h ad H locs ls a1 a2 a3 (zl_t a4) a5 a6)
  | dup_x1 =>
    unfold z1 at h
    dsimp only at h
    obtain ⟨v, r1, e1, h1, hc⟩ := zv1_sp h
    obtain ⟨w, r, e2, h2, hc2⟩ := zv1_sp h1
    subst e2
    subst e1
    exact lv_dup_x1 hx hb hd (by rw [ph_cat]; exact hc) (by rw [ph_cat]; exact hc2) (hk _ _ _ h2 ad H locs ls a1 a2 a3 (zl_c (zl_h a4) (zl_c (zl_h (zl_t a4)) (zl_c (zl_h a4) (zl_t (zl_t a4))))) a5 a6)
  | dup2 =>
    unfold z1 at h
    dsimp only at h
    obtain ⟨v, r1, e1, h1, hc⟩ := zv1_sp h
    obtain ⟨w, r, e2, h2, hc2⟩ := zv1_sp h1
    subst e2
    subst e1
    exact lv_dup2_11 hx hb hd (by rw [ph_cat]; exact hc) (by rw [ph_cat]; exact hc2) (hk _ _ _ h2 ad H locs ls a1 a2 a3 (zl_c (zl_h a4) (zl_c (zl_h (zl_t a4)) a4)) a5 a6)
  | getfield n =>
    unfold z1 at h
    dsimp only at h
    obtain ⟨ci, j, tc, fin, hm, h⟩ := zlkF_sp h
    obtain ⟨q, r, e1, h5⟩ := zr1_sp h
    clear h
    subst e1
    obtain ⟨K, N, I, L, Rf⟩ := σ
    dsimp only at h5
    have h := h5
    clear h5
    cases hbk : Nat.beq (K q) (ci + 1) with
    | false => rw [hbk] at h; exact h.elim
    | true =>
      rw [hbk] at h
      have hKq := Nat.eq_of_beq_eq_true hbk
      have hfe := hlk.1 _ hm
      refine zg_get (M := M) hx hb hown hts hK hfe a2 hKq hd ?_
      obtain ⟨cq, rf, -, -, -, -, -, htc, -⟩ := hfe
      dsimp only at htc ⊢
      cases hbt : Nat.beq tc 1 with
      | true =>
        rw [hbt] at h
        have htr := htc.mp (Nat.eq_of_beq_eq_true hbt)
        rcases zop_sp h with ⟨h1, h⟩ | ⟨w, h1, h⟩
        · have e1 : zfv ad (K, N, I, L, Rf) ci q j = .null := by simp [zfv, htr, h1, va_rf]
          rw [e1]
          exact hk _ _ _ h ad H locs ls a1 a2 a3 (zl_n (zl_t a4)) a5 a6
        · have e1 : zfv ad (K, N, I, L, Rf) ci q j = .ref (ad w) := by simp [zfv, htr, h1, va_rf]
          rw [e1]
          refine hk _ _ _ h ad H locs ls a1 a2 a3 (zl_c (fun z e => ?_) (zl_t a4)) a5 a6
          cases e
          exact a2.2.2.1 q j w (by show K q ≠ 0; omega) h1
      | false =>
        rw [hbt] at h
        have htr : ¬ zisR (zty ci j) = true := fun z => by rw [htc.mpr z] at hbt; cases hbt
        have e1 : zfv ad (K, N, I, L, Rf) ci q j = .int (I q j) := by simp [zfv, htr]
        rw [e1]
        exact hk _ _ _ h ad H locs ls a1 a2 a3 (zl_i (zl_t a4)) a5 a6
  | putfield n =>
    unfold z1 at h
    dsimp only at h
    obtain ⟨ci, j, tc, fin, hm, h⟩ := zlkF_sp h
    cases hfi : (fin && !ini) with
    | true => rw [hfi] at h; exact h.elim
    | false =>
      rw [hfi] at h
      simp only [cond_false] at h
      have hfin : fin = true → meth.name = "<init>" ∧ ∀ cq : vw_C, vwCl[ci]? = some cq → (cq.2.1 j).1 = M.1.cls := by
        intro hf
        have hi : ini = true := by
          cases ini with
          | true => rfl
          | false => rw [hf] at hfi; cases hfi
        obtain ⟨z1, z2⟩ := hini hi
        exact ⟨hnm.trans z1, fun cq hq => z2 _ hm cq hq⟩
      obtain ⟨v, r1, e1, h1, -⟩ := zv1_sp h
      obtain ⟨q, r, e2, h2⟩ := zr1_sp h1
      clear h h1
      subst e2
      subst e1
      obtain ⟨K, N, I, L, Rf⟩ := σ
      dsimp only at h2
      cases hbk : Nat.beq (K q) (ci + 1) with
      | false => rw [hbk] at h2; exact h2.elim
      | true =>
        rw [hbk] at h2
        have hKq := Nat.eq_of_beq_eq_true hbk
        have hfe := hlk.1 _ hm
        have hfe2 := hfe
        obtain ⟨cq, rf, -, -, -, -, -, htc, ht0, ht2, ht3⟩ := hfe2
        dsimp only at htc ht0 ht2 ht3
        have hint : ∀ x : Int32, ¬ zisR (zty ci j) = true → narrow (zty ci j) (.int x) = .int x → fits (zty ci j) (.int x) = true → k (K, N, up2 I q j x, L, Rf) lv r → W p l e R s m args below meth c H locs cells slots Q (F0 m pc ls ((.int x :: .ref q :: r).map (ph ad))) := by
          intro x htr hn hf hk'
          refine zg_put (M := M) (v := .int x) (σ' := (K, N, up2 I q j x, L, Rf)) hx hb hown hts hK hfe a2 hKq hfin hn hf a5 rfl rfl (fun w hw => up2_ne _ _ _ hw) (fun _ _ => rfl) (fun _ _ => rfl) (fun i => ?_) (fun k w hw => a2.2.2.1 q k w (by show K q ≠ 0; omega) hw) hd (fun H1 locs1 b1 b2 => hk _ _ _ hk' ad H1 locs1 ls a1 b1 a3 (zl_t (zl_t a4)) b2 a6)
          show updV _ j _ i = _
          by_cases hij : i = j
          · subst hij
            simp [updV, zfv, htr, up2_self]
          · simp [updV, zfv, hij, up2_at]
        cases v with
        | ref w =>
          dsimp only at h2
          cases hbt : Nat.beq tc 1 with
          | false => rw [hbt] at h2; exact h2.elim
          | true =>
            rw [hbt] at h2
            have htr := htc.mp (Nat.eq_of_beq_eq_true hbt)
            have hn : narrow (zty ci j) (.ref (ad w)) = .ref (ad w) := by
              cases hz : zty ci j <;> rw [hz] at htr <;> first | rfl | cases htr
            have hf : fits (zty ci j) (.ref (ad w)) = true := by
              cases hz : zty ci j <;> rw [hz] at htr <;> first | rfl | cases htr
            refine zg_put (M := M) (v := .ref (ad w)) (σ' := (K, N, I, L, up2 Rf q j (some w))) hx hb hown hts hK hfe a2 hKq hfin hn hf a5 rfl rfl (fun _ _ => rfl) (fun _ _ => rfl) (fun z hz => up2_ne _ _ _ hz) (fun i => ?_) (fun k z hz => ?_) hd (fun H1 locs1 b1 b2 => hk _ _ _ h2 ad H1 locs1 ls a1 b1 a3 (zl_t (zl_t a4)) b2 a6)
            · show updV _ j _ i = _
              by_cases hij : i = j
              · subst hij
                simp [updV, zfv, htr, up2_self, va_rf]
              · simp [updV, zfv, hij, up2_at]
            · change up2 Rf q j (some w) q k = some z at hz
              rw [up2_at] at hz
              by_cases hkj : k = j
              · rw [if_pos hkj] at hz
                cases hz
                exact zl_h a4 _ rfl
              · rw [if_neg hkj] at hz
                exact a2.2.2.1 q k z (by show K q ≠ 0; omega) hz
        | int x =>
          dsimp only at h2
          cases hb0' : Nat.beq tc 0 with
          | true =>
            rw [hb0'] at h2
            have e0 := ht0 (Nat.eq_of_beq_eq_true hb0')
            exact hint x (by rw [e0]; decide) (by rw [e0]; rfl) (by rw [e0]; rfl) h2
          | false =>
            rw [hb0'] at h2
            cases hb2 : Nat.beq tc 2 with
            | true =>
              rw [hb2] at h2
              have e0 := ht2 (Nat.eq_of_beq_eq_true hb2)
              exact hint x (by rw [e0]; decide) (by rw [e0]; exact h2.1.1) (by rw [e0]; exact h2.1.2) h2.2
            | false =>
              rw [hb2] at h2
              cases hb3 : Nat.beq tc 3 with
              | true =>
                rw [hb3] at h2
                have e0 := ht3 (Nat.eq_of_beq_eq_true hb3)
                exact hint x (by rw [e0]; decide) (by rw [e0]; exact h2.1.1) (by rw [e0]; exact h2.1.2) h2.2
              | false => rw [hb3] at h2; exact h2.elim
        | _ => exact h2.elim
  | iaload =>
    unfold z1 at h
    dsimp only at h
    obtain ⟨i, r1, e1, h1⟩ := zi1_sp h
    obtain ⟨q, r, e2, h2⟩ := zr1_sp h1
    subst e2
    subst e1
    obtain ⟨K, N, I, L, Rf⟩ := σ
    dsimp only at h2
    cases hbk : Nat.beq (K q) 22 with
    | false => rw [hbk] at h2; exact h2.elim
    | true =>
      rw [hbk] at h2
      obtain ⟨hin, h2⟩ := h2
      obtain ⟨g1, g2, g3⟩ := zg_arr hK a2 (t := 2) (by decide) (Nat.eq_of_beq_eq_true hbk)
      have hlt : i.toNatClampNeg < N q := Nat.not_le.mp fun z => hin (Or.inr z)
      exact W.iald (v := .int (I q i.toNatClampNeg)) hx hb g2 g3 (fun z => by cases z) (by rw [arrV_size]; exact hin) (by rw [arrV_read _ _ hlt]; rfl) rfl rfl hd (hk _ _ _ h2 ad H locs ls a1 a2 a3 (zl_i (zl_t (zl_t a4))) a5 a6)
  | caload =>
    unfold z1 at h
    dsimp only at h
    obtain ⟨i, r1, e1, h1⟩ := zi1_sp h
    obtain ⟨q, r, e2, h2⟩ := zr1_sp h1
    subst e2
    subst e1
    obtain ⟨K, N, I, L, Rf⟩ := σ
    dsimp only at h2
    cases hbk : Nat.beq (K q) 21 with
    | false => rw [hbk] at h2; exact h2.elim
    | true =>
      rw [hbk] at h2
      obtain ⟨hin, h2⟩ := h2
      obtain ⟨g1, g2, g3⟩ := zg_arr hK a2 (t := 1) (by decide) (Nat.eq_of_beq_eq_true hbk)
      have hlt : i.toNatClampNeg < N q := Nat.not_le.mp fun z => hin (Or.inr z)
      exact W.cald (v := .int (I q i.toNatClampNeg)) hx hb g2 g3 (fun z => by cases z) (by rw [arrV_size]; exact hin) (by rw [arrV_read _ _ hlt]; rfl) rfl rfl hd (hk _ _ _ h2 ad H locs ls a1 a2 a3 (zl_i (zl_t (zl_t a4))) a5 a6)
  | laload =>
    unfold z1 at h
    dsimp only at h
    obtain ⟨i, r1, e1, h1⟩ := zi1_sp h
    obtain ⟨q, r, e2, h2⟩ := zr1_sp h1
    subst e2
    subst e1
    obtain ⟨K, N, I, L, Rf⟩ := σ
    dsimp only at h2
    cases hbk : Nat.beq (K q) 23 with
    | false => rw [hbk] at h2; exact h2.elim
    | true =>
      rw [hbk] at h2
      obtain ⟨hin, h2⟩ := h2
      obtain ⟨g1, g2, g3⟩ := zg_arr hK a2 (t := 3) (by decide) (Nat.eq_of_beq_eq_true hbk)
      have hlt : i.toNatClampNeg < N q := Nat.not_le.mp fun z => hin (Or.inr z)
      exact W.lald (v := .long (L q i.toNatClampNeg)) hx hb g2 g3 (fun z => by cases z) (by rw [arrV_size]; exact hin) (by rw [arrV_read _ _ hlt]; rfl) rfl rfl hd (hk _ _ _ h2 ad H locs ls a1 a2 a3 (zl_l (zl_t (zl_t a4))) a5 a6)
  | baload =>
    unfold z1 at h
    dsimp only at h
    obtain ⟨i, r1, e1, h1⟩ := zi1_sp h
    obtain ⟨q, r, e2, h2⟩ := zr1_sp h1
    subst e2
    subst e1
    obtain ⟨K, N, I, L, Rf⟩ := σ
    dsimp only at h2
    cases hbk : (Nat.beq (K q) 20 || Nat.beq (K q) 24) with
    | false => rw [hbk] at h2; exact h2.elim
    | true =>
      rw [hbk] at h2
      obtain ⟨hin, h2⟩ := h2
      have hlt : i.toNatClampNeg < N q := Nat.not_le.mp fun z => hin (Or.inr z)
      rcases Bool.or_eq_true _ _ ▸ hbk with hbk | hbk
      · obtain ⟨g1, g2, g3⟩ := zg_arr hK a2 (t := 0) (by decide) (Nat.eq_of_beq_eq_true hbk)
        exact W.bald (v := .int (I q i.toNatClampNeg)) hx hb g2 g3 (fun z => by cases z) (by rw [arrV_size]; exact hin) (by rw [arrV_read _ _ hlt]; rfl) rfl rfl hd (hk _ _ _ h2 ad H locs ls a1 a2 a3 (zl_i (zl_t (zl_t a4))) a5 a6)
      · obtain ⟨g1, g2, g3⟩ := zg_arr hK a2 (t := 4) (by decide) (Nat.eq_of_beq_eq_true hbk)
        exact W.zald (v := .int (I q i.toNatClampNeg)) hx hb g2 g3 (fun z => by cases z) (by rw [arrV_size]; exact hin) (by rw [arrV_read _ _ hlt]; rfl) rfl rfl hd (hk _ _ _ h2 ad H locs ls a1 a2 a3 (zl_i (zl_t (zl_t a4))) a5 a6)
  | iastore =>
    unfold z1 at h
    dsimp only at h
    obtain ⟨x, r0, e0, h1⟩ := zi1_sp h
    obtain ⟨i, r1, e1, h2⟩ := zi1_sp h1
    obtain ⟨q, r, e2, h3⟩ := zr1_sp h2
    subst e2
    subst e1
    subst e0
    obtain ⟨K, N, I, L, Rf⟩ := σ
    dsimp only at h3
    cases hbk : Nat.beq (K q) 22 with
    | false => rw [hbk] at h3; exact h3.elim
    | true =>
      rw [hbk] at h3
      obtain ⟨hin, h3⟩ := h3
      obtain ⟨g1, g2, g3⟩ := zg_arr hK a2 (t := 2) (by decide) (Nat.eq_of_beq_eq_true hbk)
      have hval : ∀ w, updV (zel ad (K, N, I, L, Rf) 2 q) i.toNatClampNeg (.int x) w = zel ad (K, N, up2 I q i.toNatClampNeg x, L, Rf) 2 q w := by
        intro w
        by_cases hwi : w = i.toNatClampNeg
        · subst hwi
          simp [updV, zel, up2_self, vp_nar]
          try rfl
        · simp [updV, zel, hwi, up2_at]
      refine W.iast hx hb g2 g3 (fun z => by cases z) (by rw [arrV_size]; exact hin) rfl rfl hd (fun H1 y1 y2 y3 => ?_)
      obtain ⟨b1, b2⟩ := zg_arrput (t := 2) (σ' := (K, N, up2 I q i.toNatClampNeg x, L, Rf)) a2 (by decide) (Nat.eq_of_beq_eq_true hbk) a5 rfl rfl (fun w hw => up2_ne _ _ _ hw) (fun _ _ => rfl) (fun _ _ => rfl) hval (fun k w hw => a2.2.2.1 q k w (by have := Nat.eq_of_beq_eq_true hbk; show K q ≠ 0; omega) hw) y1 y2 y3
      exact hk _ _ _ h3 ad H1 _ ls a1 b1 a3 (zl_t (zl_t (zl_t a4))) b2 a6
  | castore =>
    unfold z1 at h
    dsimp only at h
    obtain ⟨x, r0, e0, h1⟩ := zi1_sp h
    obtain ⟨i, r1, e1, h2⟩ := zi1_sp h1
    obtain ⟨q, r, e2, h3⟩ := zr1_sp h2
    subst e2
    subst e1
    subst e0
    obtain ⟨K, N, I, L, Rf⟩ := σ
    dsimp only at h3
    cases hbk : Nat.beq (K q) 21 with
    | false => rw [hbk] at h3; exact h3.elim
    | true =>
      rw [hbk] at h3
      obtain ⟨hin, h3⟩ := h3
      obtain ⟨g1, g2, g3⟩ := zg_arr hK a2 (t := 1) (by decide) (Nat.eq_of_beq_eq_true hbk)
      have hval : ∀ w, updV (zel ad (K, N, I, L, Rf) 1 q) i.toNatClampNeg (narrow .char (.int x)) w = zel ad (K, N, up2 I q i.toNatClampNeg (vp_nar .char x), L, Rf) 1 q w := by
        intro w
        by_cases hwi : w = i.toNatClampNeg
        · subst hwi
          simp [updV, zel, up2_self, vp_nar]
          try rfl
        · simp [updV, zel, hwi, up2_at]
      refine W.cast hx hb g2 g3 (fun z => by cases z) (by rw [arrV_size]; exact hin) rfl rfl hd (fun H1 y1 y2 y3 => ?_)
      obtain ⟨b1, b2⟩ := zg_arrput (t := 1) (σ' := (K, N, up2 I q i.toNatClampNeg (vp_nar .char x), L, Rf)) a2 (by decide) (Nat.eq_of_beq_eq_true hbk) a5 rfl rfl (fun w hw => up2_ne _ _ _ hw) (fun _ _ => rfl) (fun _ _ => rfl) hval (fun k w hw => a2.2.2.1 q k w (by have := Nat.eq_of_beq_eq_true hbk; show K q ≠ 0; omega) hw) y1 y2 y3
      exact hk _ _ _ h3 ad H1 _ ls a1 b1 a3 (zl_t (zl_t (zl_t a4))) b2 a6
  | lastore =>
    unfold z1 at h
    dsimp only at h
    obtain ⟨x, r0, e0, h1⟩ := zl1_sp h
    obtain ⟨i, r1, e1, h2⟩ := zi1_sp h1
    obtain ⟨q, r, e2, h3⟩ := zr1_sp h2
    subst e2
    subst e1
    subst e0
    obtain ⟨K, N, I, L, Rf⟩ := σ
    dsimp only at h3
    cases hbk : Nat.beq (K q) 23 with
    | false => rw [hbk] at h3; exact h3.elim
    | true =>
      rw [hbk] at h3
      obtain ⟨hin, h3⟩ := h3
      obtain ⟨g1, g2, g3⟩ := zg_arr hK a2 (t := 3) (by decide) (Nat.eq_of_beq_eq_true hbk)
      have hval : ∀ w, updV (zel ad (K, N, I, L, Rf) 3 q) i.toNatClampNeg (.long x) w = zel ad (K, N, I, up2 L q i.toNatClampNeg x, Rf) 3 q w := by
        intro w
        by_cases hwi : w = i.toNatClampNeg
        · subst hwi
          simp [updV, zel, up2_self, vp_nar]
          try rfl
        · simp [updV, zel, hwi, up2_at]
      refine W.last hx hb g2 g3 (fun z => by cases z) (by rw [arrV_size]; exact hin) rfl rfl hd (fun H1 y1 y2 y3 => ?_)
      obtain ⟨b1, b2⟩ := zg_arrput (t := 3) (σ' := (K, N, I, up2 L q i.toNatClampNeg x, Rf)) a2 (by decide) (Nat.eq_of_beq_eq_true hbk) a5 rfl rfl (fun _ _ => rfl) (fun w hw => up2_ne _ _ _ hw) (fun _ _ => rfl) hval (fun k w hw => a2.2.2.1 q k w (by have := Nat.eq_of_beq_eq_true hbk; show K q ≠ 0; omega) hw) y1 y2 y3
      exact hk _ _ _ h3 ad H1 _ ls a1 b1 a3 (zl_t (zl_t (zl_t a4))) b2 a6
  | bastore =>
    unfold z1 at h
    dsimp only at h
    obtain ⟨x, r0, e0, h1⟩ := zi1_sp h
    obtain ⟨i, r1, e1, h2⟩ := zi1_sp h1
    obtain ⟨q, r, e2, h3⟩ := zr1_sp h2
    subst e2
    subst e1
    subst e0
    obtain ⟨K, N, I, L, Rf⟩ := σ
    dsimp only at h3
    cases hbk : Nat.beq (K q) 20 with
    | true =>
      rw [hbk] at h3
      obtain ⟨hin, h3⟩ := h3
      obtain ⟨g1, g2, g3⟩ := zg_arr hK a2 (t := 0) (by decide) (Nat.eq_of_beq_eq_true hbk)
      have hval : ∀ w, updV (zel ad (K, N, I, L, Rf) 0 q) i.toNatClampNeg (narrow .byte (.int x)) w = zel ad (K, N, up2 I q i.toNatClampNeg (vp_nar .byte x), L, Rf) 0 q w := by
        intro w
        by_cases hwi : w = i.toNatClampNeg
        · subst hwi
          simp [updV, zel, up2_self, vp_nar]
          try rfl
        · simp [updV, zel, hwi, up2_at]
      refine W.bast hx hb g2 g3 (fun z => by cases z) (by rw [arrV_size]; exact hin) rfl rfl hd (fun H1 y1 y2 y3 => ?_)
      obtain ⟨b1, b2⟩ := zg_arrput (t := 0) (σ' := (K, N, up2 I q i.toNatClampNeg (vp_nar .byte x), L, Rf)) a2 (by decide) (Nat.eq_of_beq_eq_true hbk) a5 rfl rfl (fun w hw => up2_ne _ _ _ hw) (fun _ _ => rfl) (fun _ _ => rfl) hval (fun k w hw => a2.2.2.1 q k w (by have := Nat.eq_of_beq_eq_true hbk; show K q ≠ 0; omega) hw) y1 y2 y3
      exact hk _ _ _ h3 ad H1 _ ls a1 b1 a3 (zl_t (zl_t (zl_t a4))) b2 a6
    | false =>
      rw [hbk] at h3
      clear hbk
      cases hbk : Nat.beq (K q) 24 with
      | false => rw [hbk] at h3; exact h3.elim
      | true =>
        rw [hbk] at h3
        obtain ⟨hin, h3⟩ := h3
        obtain ⟨g1, g2, g3⟩ := zg_arr hK a2 (t := 4) (by decide) (Nat.eq_of_beq_eq_true hbk)
        have hval : ∀ w, updV (zel ad (K, N, I, L, Rf) 4 q) i.toNatClampNeg (narrow .boolean (.int x)) w = zel ad (K, N, up2 I q i.toNatClampNeg (vp_nar .boolean x), L, Rf) 4 q w := by
          intro w
          by_cases hwi : w = i.toNatClampNeg
          · subst hwi
            simp [updV, zel, up2_self, vp_nar]
            try rfl
          · simp [updV, zel, hwi, up2_at]
        refine W.zast hx hb g2 g3 (fun z => by cases z) (by rw [arrV_size]; exact hin) rfl rfl hd (fun H1 y1 y2 y3 => ?_)
        obtain ⟨b1, b2⟩ := zg_arrput (t := 4) (σ' := (K, N, up2 I q i.toNatClampNeg (vp_nar .boolean x), L, Rf)) a2 (by decide) (Nat.eq_of_beq_eq_true hbk) a5 rfl rfl (fun w hw => up2_ne _ _ _ hw) (fun _ _ => rfl) (fun _ _ => rfl) hval (fun k w hw => a2.2.2.1 q k w (by have := Nat.eq_of_beq_eq_true hbk; show K q ≠ 0; omega) hw) y1 y2 y3
        exact hk _ _ _ h3 ad H1 _ ls a1 b1 a3 (zl_t (zl_t (zl_t a4))) b2 a6
  | arraylength =>
    unfold z1 at h
    dsimp only at h
    obtain ⟨q, r, e1, h5⟩ := zr1_sp h
    clear h
    subst e1
    obtain ⟨K, N, I, L, Rf⟩ := σ
    dsimp only at h5
    have h := h5
    clear h5
    cases hbk : (Nat.ble 20 (K q) && Nat.ble (K q) 25) with
    | false => rw [hbk] at h; exact h.elim
    | true =>
      rw [hbk] at h
      rw [Bool.and_eq_true] at hbk
      have k1 := Nat.le_of_ble_eq_true hbk.1
      have k2 := Nat.le_of_ble_eq_true hbk.2
      obtain ⟨g1, g2, g3⟩ := zg_arr hK a2 (a := q) (t := K q - 20) (by omega) (by show K q = 20 + (K q - 20); omega)
      exact W.alen (n := nI (N q)) hx hb g2 g3 (by rw [arrV_size]; rfl) rfl rfl hd (hk _ _ _ h ad H locs ls a1 a2 a3 (zl_i (zl_t a4)) a5 a6)
  | _ => exact False.elim h
/-- a stretch of straight code: decoded, and its precondition -/
def zdec (cc : ByteArray) : Nat → List Instr → Option Nat
  | pc, [] => some pc
  | pc, i :: r => if decode cc pc = .ok (i, zlen i) then zdec cc (pc + zlen i) r else none
def zwp (nL : Nat) (lk : zLk) (ini : Bool) : List Instr → Sg → List (Nat × Value) → List Value → (Sg → List (Nat × Value) → List Value → Prop) → Prop
  | [], σ, lv, st, k => k σ lv st
  | i :: r, σ, lv, st, k => z1 nL lk ini i σ lv st (fun σ lv st => zwp nL lk ini r σ lv st k)
theorem z_blk {X : zX} {M : zM} {lk : zLk} {ini : Bool} (hX : zC X M) (hlk : zlkOK M.1.cls lk) (hini : ini = true → zini M lk) {cells slots : Nat} {pc' : Nat} : ∀ (is : List Instr) {pc : Nat}, zdec M.2.1 pc is = some pc' → ∀ {σ : Sg} {lv : List (Nat × Value)} {st : List Value}, zwp M.2.2.1 lk ini is σ lv st (fun σ lv st => zS X σ cells slots pc' lv st) → zS X σ cells slots pc lv st
  | [], pc, hd, σ, lv, st, h => by
    cases hd
    exact h
  | i :: r, pc, hd, σ, lv, st, h => by
    unfold zdec at hd
    split at hd
    · rename_i hi
      exact z1_ok hX hlk hini hi (fun σ' lv' st' h' => z_blk hX hlk hini r hd h') h
    · cases hd
