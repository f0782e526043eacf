/-! ===== copies of longs; calls of a superclass, of an overriding method, of a nest mate; statics; String constants ===== -/
section
variable {X : zX} {E : zE} {M : zM} {d mc ms : Nat} {Po : Option Value → Sg → Prop} {σ : Sg} {cells slots pc : Nat} {lv : List (Nat × Value)} {st : List Value}
theorem z_copyL (hX : zD X E M d mc ms Po) {idx a b : Nat} {sp dp n : Int32} (hw : zCw M.1.cls idx) (ha : σ.1 a = 23) (hb' : σ.1 b = 23) (h1 : ¬ sp < 0) (h2 : ¬ dp < 0) (h3 : ¬ n < 0) (h4 : sp.toNatClampNeg + n.toNatClampNeg ≤ σ.2.1 a) (h5 : dp.toNatClampNeg + n.toNatClampNeg ≤ σ.2.1 b) (hfr : 1 ≤ d) (hrm : (st.map fun v => v.category).sum + (nativeFrameWords "java/lang/System" "arraycopy" 5 + 11) ≤ 50 * d) (hd : decode M.2.1 pc = .ok (.invokestatic idx, 3))
    (kk : zS X (σ.1, σ.2.1, σ.2.2.1, (fun p => if p = b then va_cpy (σ.2.2.2.1 a) (σ.2.2.2.1 b) sp.toNatClampNeg dp.toNatClampNeg n.toNatClampNeg else σ.2.2.2.1 p), σ.2.2.2.2) cells slots (pc + 3) lv st) : zS X σ cells slots pc lv (.int n :: .int dp :: .ref b :: .int sp :: .ref a :: st) := by
  obtain ⟨p0, l, e, R, s, m, args, below, meth, c, Q, G, b0, nL, σ0, ad0⟩ := X
  obtain ⟨⟨hx, hb, hml, hown, hts, hK, hlocks, hb0, hnL, hrt, hnm, hEx⟩, q1, q2, q3, q4, q5⟩ := hX
  subst q1 q2 q3 q4
  intro ad H locs ls a1 a2 a3 a4 a5 a6
  have ok : ∀ {w : Cond}, w ∈ zGW → w.before args s = true := fun h => hts _ (List.mem_cons_of_mem _ h)
  have hcat : ((st.map (ph ad)).map fun v => v.category).sum + (nativeFrameWords "java/lang/System" "arraycopy" 5 + 11) ≤ 50 * d := by rw [z_catm]; exact hrm
  obtain ⟨b1, b2, b3⟩ := zg_arr hK a2 (t := 3) (by decide) ha
  obtain ⟨c1, c2, c3⟩ := zg_arr hK a2 (t := 3) (by decide) hb'
  intro T hT XX
  obtain ⟨-, k0, hk0, cm0, hkk0⟩ := (hK.2.1 3 (by decide)).1 (σ.2.1 a) (zel ad σ 3 a)
  obtain ⟨-, k1, hk1, cm1, hkk1⟩ := (hK.2.1 3 (by decide)).1 (σ.2.1 b) (zel ad σ 3 b)
  obtain ⟨vm', X', step⟩ := XX.arraycopy hx hown (ok hw.1) (ok hw.2.1) (ok hw.2.2.1) (ok hw.2.2.2) (src := ad a) (dst := ad b) (cs := arrV (E.2.1.2.2.1 3) (σ.2.1 a) (zel ad σ 3 a)) (cd := arrV (E.2.1.2.2.1 3) (σ.2.1 b) (zel ad σ 3 b)) (srcPos := sp) (destPos := dp) (n := n) (by rw [hT]; exact b2) (by rw [hT]; exact c2)
    (fun _ h => by cases h) (fun _ h => by cases h) (fun h => by cases h) (fun h => by cases h) hk0 hk1 hkk0 hkk1 (by decide) h1 h2 h3
    (by rw [z_nn h1, z_nn h3]; show ¬ _ > ((arrV _ _ _).slots.size : Int); rw [arrV_size]; omega)
    (by rw [z_nn h2, z_nn h3]; show ¬ _ > ((arrV _ _ _).slots.size : Int); rw [arrV_size]; omega)
    (fun vm₁ _ i hi => by
      have e : (arrV (E.2.1.2.2.1 3) (σ.2.1 a) (zel ad σ 3 a)).slots.getD (sp.toNatClampNeg + i) .null = .long (σ.2.2.2.1 a (sp.toNatClampNeg + i)) := by
        rw [Array.getD_eq_getD_getElem?, arrV_read _ _ (by omega)]
        rfl
      refine ⟨?_, ?_⟩
      · rw [e]
        rfl
      · rw [e]
        exact trivial)
    (g := F0 m pc ls (.int n :: .int dp :: .ref (ad b) :: .int sp :: .ref (ad a) :: st.map (ph ad))) rfl (a6.1.trans hml.symm) (rest := st.map (ph ad)) rfl (by rw [hb]; exact hd) hfr (by show 2 * 0 + _ + _ ≤ 50 * d; omega)
  have e1 : copied (arrV (E.2.1.2.2.1 3) (σ.2.1 a) (zel ad σ 3 a)) (arrV (E.2.1.2.2.1 3) (σ.2.1 b) (zel ad σ 3 b)) sp dp n = arrV (E.2.1.2.2.1 3) (σ.2.1 b) (fun j => .long (va_cpy (σ.2.2.2.1 a) (σ.2.2.2.1 b) sp.toNatClampNeg dp.toNatClampNeg n.toNatClampNeg j)) := va_copied (fun z => .long z) _ _ (σ.2.2.2.1 a) (σ.2.2.2.1 b) h4
  rw [e1] at X' step
  have hl : ad b < H.size := (Array.getElem?_eq_some_iff.mp c2).1
  generalize hσ' : ((σ.1, σ.2.1, σ.2.2.1, (fun p => if p = b then va_cpy (σ.2.2.2.1 a) (σ.2.2.2.1 b) sp.toNatClampNeg dp.toNatClampNeg n.toNatClampNeg else σ.2.2.2.1 p), σ.2.2.2.2) : Sg) = σ' at kk
  generalize hnc : arrV (E.2.1.2.2.1 3) (σ.2.1 b) (fun j => .long (va_cpy (σ.2.2.2.1 a) (σ.2.2.2.1 b) sp.toNatClampNeg dp.toNatClampNeg n.toNatClampNeg j)) = nc at X' step
  have oq : ∀ q : Nat, q ≠ ad b → (H.setIfInBounds (ad b) nc)[q]? = H[q]? := fun q hq => by simp [Array.getElem?_setIfInBounds, Ne.symm hq]
  have hK1 : σ'.1 = σ.1 := by rw [← hσ']
  have hrl : zRl E.2.1 E.2.2 ad σ' (H.setIfInBounds (ad b) nc) := by
    refine zRl_put a2 (p := b) (by rw [hb']; decide) (by rw [hb']; decide) hK1 (by rw [← hσ']) (fun q hq => by rw [← hσ']) (fun q hq => by rw [← hσ']; exact if_neg hq) (fun q hq => by rw [← hσ']) (by simp) oq ⟨fun ci cq g1 g2 => ?_, fun t ht g1 => ?_⟩ (fun k q hq => a2.2.2.1 b k q (by rw [hb']; decide) (by rw [← hσ'] at hq; exact hq))
    · rw [hK1, hb'] at g1
      have := zcl_lt g2
      omega
    · rw [hK1, hb'] at g1
      have e2 : t = 3 := by omega
      subst e2
      rw [show (H.setIfInBounds (ad b) nc)[ad b]? = some nc by simp [Array.getElem?_setIfInBounds, hl], ← hnc, ← hσ']
      congr 2
      funext j
      simp [zel]
  obtain ⟨t, t1, t2⟩ := kk ad _ _ ls (fun q hq => by rw [hK1]; exact a1 q hq) hrl (fun x hx q hq => by rw [hK1]; exact a3 x hx q hq) (fun v hv q hq => by rw [hK1]; exact a4 v (by simp [hv]) q hq) ⟨by simp; exact a5.1, fun q g1 g2 => by
      rw [oq q (fun e => g2 (by rw [e]; exact c1))]
      exact a5.2.1 q g1 g2, fun q hq => by
      rcases List.mem_append.mp hq with h | h
      · exact a5.2.2 q h
      · obtain ⟨z, -, hz⟩ := List.mem_map.mp h
        rw [← hz]
        exact c1⟩ a6 _ (show ((T.setVm vm').setCell (ad b) nc).heap = _ by rw [← hT]; rfl) X'
  exact ⟨t, step t t1, t2⟩
def zSUw (own : String) (idx : Nat) (M : zM) (n : Nat) : Prop := Cond.code M.1 M.2.1 M.2.2.1 M.2.2.2 ∈ zGW ∧ Cond.methodLink own idx M.1 ∈ zGW ∧ Cond.sameMethod M.1.cls M.1.cls M.1.name M.1.desc ∈ zGW ∧ Cond.superclass own M.1.cls ∈ zGW ∧ Cond.instanceMethod M.1 ∈ zGW ∧ Cond.initialized M.1.cls ∈ zGW ∧ (M.1.name ≠ "<init>" ∧ (parseMethodDescriptor M.1.desc).map (fun d => d.parameters.length) = some n)
theorem z_callSU (hX : zD X E M d mc ms Po) {M' : zM} {d' mc' ms' n idx a ci : Nat} {Po' : Option Value → Sg → Prop} {As rest : List Value} {cq : vw_C} (hw : zSUw M.1.cls idx M' n) (hM : zCt E M' d' mc' ms' σ (.ref a :: As) Po') (hst : st = As.reverse ++ .ref a :: rest) (hn : As.length = n) (hk : σ.1 a = ci + 1) (hcq : vwCl[ci]? = some cq) (hd : decode M.2.1 pc = .ok (.invokespecial idx, 3))
    (hdep : d' + 1 ≤ d) (hL : M'.2.2.1 ≤ 31) (hc : cells + mc' ≤ mc) (hs : slots + ms' ≤ ms) (hrm : (rest.map fun v => v.category).sum ≤ 8) (kk : ∀ (r : Option Value) (σ' : Sg), Po' r σ' → zS X σ' (cells + mc') (slots + ms') (pc + 3) lv (r.toList ++ rest)) : zS X σ cells slots pc lv st := by
  subst hst
  refine z_run (A := #[]) hX (rest := rest) (Po' := Po') (fun v hv => List.mem_append_right _ (List.mem_cons_of_mem _ hv)) ?_ kk
  obtain ⟨p, l, e, R, s, m, args, below, meth, c, Q, G, b0, nL, σ0, ad0⟩ := X
  obtain ⟨⟨hx, hb, hml, hown, hts, hK, hlocks, hb0, hnL, hrt, hnm, hEx⟩, h1, h2, h3, h4, h5⟩ := hX
  subst h1 h2 h3 h4
  intro ad H locs ls b1 b2 b3 b4
  obtain ⟨w1, w2, w3, w4, w5, w6, w7⟩ := hw
  have hl : ∀ v ∈ (.ref a :: As), zlv σ v := fun v hv => by
    rcases List.mem_cons.mp hv with e | hv
    · rw [e]; exact b2 _ (List.mem_append_right _ List.mem_cons_self)
    · exact b2 _ (List.mem_append_left _ (List.mem_reverse.mpr hv))
  have hr := z_recv b1 hK hk hcq
  have hG : GoodIn (zws M) (va_wsSU M.1.cls idx M'.1 (zws M')) := by
    intro w hw
    unfold va_wsSU at hw
    rcases List.mem_append.mp hw with h | h
    · simp only [List.mem_cons, List.not_mem_nil, or_false] at h
      rcases h with rfl | rfl | rfl | rfl | rfl
      · exact ⟨List.mem_cons_of_mem _ w2, zGW_ok w2⟩
      · exact ⟨List.mem_cons_of_mem _ w3, zGW_ok w3⟩
      · exact ⟨List.mem_cons_of_mem _ w4, zGW_ok w4⟩
      · exact ⟨List.mem_cons_of_mem _ w5, zGW_ok w5⟩
      · exact ⟨List.mem_cons_of_mem _ w6, zGW_ok w6⟩
    · exact z_good w1 w h
  exact ⟨_, va_runSU (As := As.map (ph ad)) (b := ad a) (rest := rest.map (ph ad)) (n := n) (C := cq.1) (hK.1 ci cq hcq).2 ⟨hx, hb, hml, hown, hts⟩ (hM ad) (va_cwSU n hts hG rfl rfl rfl w7 ⟨hdep, by show 8 + (M'.2.2.1 + 11) + 50 * d' ≤ 50 * d; omega⟩)
    ⟨zPre_blind, hr, zPre_at b1 hl hK hb0 hEx b3⟩ rfl (by rw [List.length_map]; exact hn) b4 (by show List.map (ph ad) (As.reverse ++ .ref a :: rest) = _; rw [List.map_append, List.map_reverse]; rfl) (lv_room (by rw [z_catm]; exact hrm)) hd ⟨hc, hs⟩⟩
/-- a call of a method x on an object of the class C, which has M in its place -/
def zUw (own : String) (idx : Nat) (x : MethodName) (C : String) (M : zM) (n : Nat) : Prop := Cond.code M.1 M.2.1 M.2.2.1 M.2.2.2 ∈ zGW ∧ Cond.methodLink own idx x ∈ zGW ∧ Cond.selects C x M.1 ∈ zGW ∧ Cond.instanceMethod M.1 ∈ zGW ∧ Cond.initialized M.1.cls ∈ zGW ∧
  ∃ (owner : String) (b0 : ByteArray) (m0 : Nat) (r0 : Option FieldType), Cond.sameMethod x.cls owner x.name x.desc ∈ zGW ∧ Cond.instanceMethod ⟨owner, x.name, x.desc⟩ ∈ zGW ∧ Cond.code ⟨owner, x.name, x.desc⟩ b0 m0 r0 ∈ zGW ∧ (owner ≠ "java/lang/invoke/MethodHandle" ∧ owner ≠ "java/lang/invoke/VarHandle" ∧ (parseMethodDescriptor x.desc).map (fun d => d.parameters.length) = some n)
theorem z_callU (hX : zD X E M d mc ms Po) {M' : zM} {x : MethodName} {d' mc' ms' n idx a ci : Nat} {Po' : Option Value → Sg → Prop} {As rest : List Value} {cq : vw_C} (hw : zUw M.1.cls idx x cq.1 M' n) (hM : zCt E M' d' mc' ms' σ (.ref a :: As) Po') (hst : st = As.reverse ++ .ref a :: rest) (hn : As.length = n) (hk : σ.1 a = ci + 1) (hcq : vwCl[ci]? = some cq) (hd : decode M.2.1 pc = .ok (.invokevirtual idx, 3))
    (hdep : d' + 1 ≤ d) (hL : M'.2.2.1 ≤ 31) (hc : cells + mc' ≤ mc) (hs : slots + ms' ≤ ms) (hrm : (rest.map fun v => v.category).sum ≤ 8) (kk : ∀ (r : Option Value) (σ' : Sg), Po' r σ' → zS X σ' (cells + mc') (slots + ms') (pc + 3) lv (r.toList ++ rest)) : zS X σ cells slots pc lv st := by
  subst hst
  refine z_run (A := #[]) hX (rest := rest) (Po' := Po') (fun v hv => List.mem_append_right _ (List.mem_cons_of_mem _ hv)) ?_ kk
  obtain ⟨p, l, e, R, s, m, args, below, meth, c, Q, G, b0, nL, σ0, ad0⟩ := X
  obtain ⟨⟨hx, hb, hml, hown, hts, hK, hlocks, hb0, hnL, hrt, hnm, hEx⟩, h1, h2, h3, h4, h5⟩ := hX
  subst h1 h2 h3 h4
  intro ad H locs ls b1 b2 b3 b4
  obtain ⟨w1, w2, w3, w4, w5, owner, bo, mo, ro, w6, w7, w8, w9⟩ := hw
  have hl : ∀ v ∈ (.ref a :: As), zlv σ v := fun v hv => by
    rcases List.mem_cons.mp hv with e | hv
    · rw [e]; exact b2 _ (List.mem_append_right _ List.mem_cons_self)
    · exact b2 _ (List.mem_append_left _ (List.mem_reverse.mpr hv))
  have hr := z_recv b1 hK hk hcq
  have hG : GoodIn (zws M) (va_wsO M.1.cls idx cq.1 owner x M'.1 (zws M')) := by
    intro w hw
    unfold va_wsO at hw
    rcases List.mem_append.mp hw with h | h
    · simp only [List.mem_cons, List.not_mem_nil, or_false] at h
      rcases h with rfl | rfl | rfl | rfl | rfl | rfl
      · exact ⟨List.mem_cons_of_mem _ w2, zGW_ok w2⟩
      · exact ⟨List.mem_cons_of_mem _ w6, zGW_ok w6⟩
      · exact ⟨List.mem_cons_of_mem _ w7, zGW_ok w7⟩
      · exact ⟨List.mem_cons_of_mem _ w3, zGW_ok w3⟩
      · exact ⟨List.mem_cons_of_mem _ w4, zGW_ok w4⟩
      · exact ⟨List.mem_cons_of_mem _ w5, zGW_ok w5⟩
    · exact z_good w1 w h
  exact ⟨_, va_runU (As := As.map (ph ad)) (b := ad a) (rest := rest.map (ph ad)) (n := n) (C := cq.1) ⟨hx, hb, hml, hown, hts⟩ (hM ad) (va_cwO n hts hG rfl rfl rfl (List.mem_cons_of_mem _ w8) w9 ⟨hdep, by show 8 + (M'.2.2.1 + 11) + 50 * d' ≤ 50 * d; omega⟩)
    ⟨zPre_blind, hr, zPre_at b1 hl hK hb0 hEx b3⟩ rfl (by rw [List.length_map]; exact hn) b4 (by show List.map (ph ad) (As.reverse ++ .ref a :: rest) = _; rw [List.map_append, List.map_reverse]; rfl) (lv_room (by rw [z_catm]; exact hrm)) hd ⟨hc, hs⟩⟩
theorem z_callIN (hX : zD X E M d mc ms Po) {M' : zM} {d' mc' ms' a : Nat} {Po' : Option Value → Sg → Prop} {rest : List Value} (hown0 : M.1.cls = "PunchedSouls") (hM1 : M'.1 = ⟨"PunchedSouls$Gate", "<init>", "()V"⟩) (hret : M'.2.2.2 = none) (hw : Cond.code M'.1 M'.2.1 M'.2.2.1 M'.2.2.2 ∈ zGW ∧ Cond.instanceMethod M'.1 ∈ zGW ∧ Cond.initialized M'.1.cls ∈ zGW) (hM : zCt E M' d' mc' ms' σ [.ref a] Po') (hst : st = .ref a :: rest) (hd : decode M.2.1 pc = .ok (.invokespecial 11, 3))
    (hdep : d' + 1 ≤ d) (hL : M'.2.2.1 ≤ 31) (hc : cells + mc' ≤ mc) (hs : slots + ms' ≤ ms) (hrm : (rest.map fun v => v.category).sum ≤ 8) (kk : ∀ (r : Option Value) (σ' : Sg), Po' r σ' → zS X σ' (cells + mc') (slots + ms') (pc + 3) lv (r.toList ++ rest)) : zS X σ cells slots pc lv st := by
  subst hst
  refine z_run (A := #[]) hX (rest := rest) (Po' := Po') (fun v hv => List.mem_cons_of_mem _ hv) ?_ kk
  obtain ⟨p, l, e, R, s, m, args, below, meth, c, Q, G, b0, nL, σ0, ad0⟩ := X
  obtain ⟨⟨hx, hb, hml, hown, hts, hK, hlocks, hb0, hnL, hrt, hnm, hEx⟩, h1, h2, h3, h4, h5⟩ := hX
  subst h1 h2 h3 h4
  intro ad H locs ls b1 b2 b3 b4
  have ok : ∀ {w : Cond}, w ∈ zGW → w.before args s = true := fun h => hts _ (List.mem_cons_of_mem _ h)
  have hl : ∀ v ∈ ([.ref a] : List Value), zlv σ v := fun v hv => by
    rw [List.mem_singleton] at hv; rw [hv]; exact b2 _ List.mem_cons_self
  have hws : zws M' = Cond.code M'.1 M'.2.1 M'.2.2.1 none :: zGW := by rw [← hret]
  have hlk : va_Nw (.methodLinkNest M.1.cls 11 M'.1 "PunchedSouls") s := by rw [hown0, hM1]; exact hK.2.2.1
  exact ⟨_, va_runIN (As := []) (b := ad a) (rest := rest.map (ph ad)) (n := 0) ⟨hx, hb, hml, hown, hts⟩ (hM ad) ⟨va_cnB 0 hts (z_good hw.1) hws rfl rfl hlk (ok hw.2.2) (by rw [hM1]; exact ⟨by decide +kernel, by decide +kernel, by decide +kernel⟩) ⟨hdep, by show 8 + (M'.2.2.1 + 11) + 50 * d' ≤ 50 * d; omega⟩, by rw [hM1], ok hw.2.1⟩
    ⟨zPre_blind, zPre_at b1 hl hK hb0 hEx b3⟩ rfl rfl b4 rfl (lv_room (by rw [z_catm]; exact hrm)) hd ⟨hc, hs⟩⟩
theorem z_callSN (hX : zD X E M d mc ms Po) {M' : zM} {d' mc' ms' : Nat} {Po' : Option Value → Sg → Prop} {v : Int32} {rest : List Value} (hown0 : M.1.cls = "PunchedSouls$Reader") (hM1 : M'.1 = ⟨"PunchedSouls", "isDigit", "(I)Z"⟩) (hw : Cond.code M'.1 M'.2.1 M'.2.2.1 M'.2.2.2 ∈ zGW ∧ Cond.static M'.1 ∈ zGW ∧ Cond.initialized M'.1.cls ∈ zGW) (hM : zCt E M' d' mc' ms' σ [.int v] Po') (hst : st = .int v :: rest) (hd : decode M.2.1 pc = .ok (.invokestatic 81, 3))
    (hdep : d' + 1 ≤ d) (hL : M'.2.2.1 ≤ 31) (hc : cells + mc' ≤ mc) (hs : slots + ms' ≤ ms) (hrm : (rest.map fun v => v.category).sum ≤ 8) (kk : ∀ (r : Option Value) (σ' : Sg), Po' r σ' → zS X σ' (cells + mc') (slots + ms') (pc + 3) lv (r.toList ++ rest)) : zS X σ cells slots pc lv st := by
  subst hst
  refine z_run (A := #[]) hX (rest := rest) (Po' := Po') (fun v hv => List.mem_cons_of_mem _ hv) ?_ kk
  obtain ⟨p, l, e, R, s, m, args, below, meth, c, Q, G, b0, nL, σ0, ad0⟩ := X
  obtain ⟨⟨hx, hb, hml, hown, hts, hK, hlocks, hb0, hnL, hrt, hnm, hEx⟩, h1, h2, h3, h4, h5⟩ := hX
  subst h1 h2 h3 h4
  intro ad H locs ls b1 b2 b3 b4
  have ok : ∀ {w : Cond}, w ∈ zGW → w.before args s = true := fun h => hts _ (List.mem_cons_of_mem _ h)
  have hl : ∀ w ∈ ([.int v] : List Value), zlv σ w := fun w hv => by
    rw [List.mem_singleton] at hv; rw [hv]; exact b2 _ List.mem_cons_self
  have hlk : va_Nw (.methodLinkNest M.1.cls 81 M'.1 "PunchedSouls") s := by rw [hown0, hM1]; exact hK.2.2.2.1
  exact ⟨_, va_runSN (As := [.int v]) (rest := rest.map (ph ad)) (n := 1) ⟨hx, hb, hml, hown, hts⟩ (hM ad) ⟨va_cnB 1 hts (z_good hw.1) rfl rfl rfl hlk (ok hw.2.2) (by rw [hM1]; exact ⟨by decide +kernel, by decide +kernel, by decide +kernel⟩) ⟨hdep, by show 8 + (M'.2.2.1 + 11) + 50 * d' ≤ 50 * d; omega⟩, ok hw.2.1, trivial⟩
    ⟨zPre_blind, zPre_at b1 hl hK hb0 hEx b3⟩ rfl rfl b4 rfl (lv_room (by rw [z_catm]; exact hrm)) hd ⟨hc, hs⟩⟩
/-- String.COMPACT_STRINGS -/
theorem z_gets (hX : zD X E M d mc ms Po) {idx : Nat} (hw : Cond.fieldLink M.1.cls idx "java/lang/String" "COMPACT_STRINGS" "Z" ∈ zGW) (hd : decode M.2.1 pc = .ok (.getstatic idx, 3)) (kk : zS X σ cells slots (pc + 3) lv (.int 1 :: st)) : zS X σ cells slots pc lv st := by
  obtain ⟨p, l, e, R, s, m, args, below, meth, c, Q, G, b0, nL, σ0, ad0⟩ := X
  obtain ⟨⟨hx, hb, hml, hown, hts, hK, hlocks, hb0, hnL, hrt, hnm, hEx⟩, -⟩ := hX
  intro ad H locs ls a1 a2 a3 a4 a5 a6
  exact va_gets hx hb hEx.1 a5 hown (hts _ (List.mem_cons_of_mem _ hw)) (fun x h => h) hd (kk ad H locs ls a1 a2 a3 (zl_i a4) a5 a6)
end
