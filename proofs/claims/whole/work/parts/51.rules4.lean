/-! ===== stores of references, casts, library calls, calls of a superclass, of an overriding method, of a nest mate ===== -/
theorem upR_map {ad : Nat → Nat} {f : Nat → Option Nat} {j v : Nat} (i : Nat) : updV (fun k => va_rf ((f k).map ad)) j (.ref (ad v)) i = va_rf ((if i = j then some v else f i).map ad) := by
  unfold updV
  split
  · rfl
  · rfl
section
variable {X : zX} {E : zE} {M : zM} {d mc ms : Nat} {Po : Option Value → Sg → Prop} {σ : Sg} {cells slots pc : Nat} {lv : List (Nat × Value)} {st : List Value}
theorem z_aast (hX : zD X E M d mc ms Po) {p v ci : Nat} {cq : vw_C} {i : Int32} (hk : σ.1 p = 25) (hn : vp_in i (σ.2.1 p)) (hv : σ.1 v = ci + 1) (hcq : vwCl[ci]? = some cq) (hca : cq.1 = "PunchedSouls$Hand" ∨ (cq.1, "PunchedSouls$Hand") ∈ zCa) (hd : decode M.2.1 pc = .ok (.aastore, 1)) (kk : zS X (σ.1, σ.2.1, σ.2.2.1, σ.2.2.2.1, up2 σ.2.2.2.2 p i.toNatClampNeg (some v)) cells slots (pc + 1) lv st) : zS X σ cells slots pc lv (.ref v :: .int i :: .ref p :: st) := by
  obtain ⟨p0, l, e, R, s, m, args, below, meth, c, Q, G, b0, nL, σ0, ad0⟩ := X
  obtain ⟨⟨hx, hb, hml, hown, hts, hK, hlocks, hb0, hnL, hrt, hnm, hEx⟩, -⟩ := hX
  intro ad H locs ls a1 a2 a3 a4 a5 a6
  obtain ⟨h1, h2, h3⟩ := zg_arr hK a2 (t := 5) (by decide) hk
  have hlt : i.toNatClampNeg < σ.2.1 p := Nat.not_le.mp fun q => hn (Or.inr q)
  have h0 : ¬ i < 0 := fun q => hn (Or.inl q)
  obtain ⟨cellV, g1, g3, g2⟩ := z_recv a2 hK hv hcq
  obtain ⟨kA, comp, k1, k2, k3, -⟩ := (hK.2.1 5 (by decide)).2
  obtain ⟨kE, hkE, -⟩ := Vm.findClass_spec k3
  obtain ⟨kC, hkC, -⟩ := Vm.findClass_spec g2
  have hasg : s.vm.assignable cellV.cls comp = true := by
    rcases hca with e | e
    · have hcl := (hK.1 ci cq hcq).2
      have e1 : E.2.1.1 ci = E.2.1.1 ci := rfl
      rw [e] at g2
      have e2 : comp = cellV.cls := Option.some.inj (k3.symm.trans g2)
      rw [e2]
      have e3 : G.1 ci = cellV.cls := Option.some.inj (hcl.1.symm.trans (by rw [e]; exact g2))
      rw [← e3]
      exact va_assign hcl
    · obtain ⟨c0, t1, f1, f2, f3⟩ := Cond.castable_spec (va_Nw.use (A := args) rfl (hK.2.2.2.2.2.1 _ e))
      cases g2.symm.trans f1
      cases k3.symm.trans f2
      exact f3
  refine W.aast hx hb h2 (fun q h => by cases h) (fun h => by cases h) k1 k2 rfl hkE ⟨h0, by show _ < (arrV _ _ _).slots.size; rw [arrV_size]; exact hlt⟩ g1 (fun q h => by rw [h] at g3; cases g3) hkC hasg rfl rfl hd fun H1 e z oq => ?_
  obtain ⟨r1, r2⟩ := zg_arrput (σ' := (σ.1, σ.2.1, σ.2.2.1, σ.2.2.2.1, up2 σ.2.2.2.2 p i.toNatClampNeg (some v))) (s := s) a2 (t := 5) (j := i.toNatClampNeg) (by decide) hk a5 rfl rfl (fun _ _ => rfl) (fun _ _ => rfl) (fun q hq => up2_ne _ _ _ hq) (fun k => by
      show updV (fun j => va_rf ((σ.2.2.2.2 p j).map ad)) _ _ k = va_rf ((up2 σ.2.2.2.2 p i.toNatClampNeg (some v) p k).map ad)
      rw [upR_map, up2_at]) (fun k q hq => by
      have hq' : up2 σ.2.2.2.2 p i.toNatClampNeg (some v) p k = some q := hq
      rw [up2_at] at hq'
      split at hq'
      · cases hq'; rw [hv]; exact Nat.succ_ne_zero _
      · exact a2.2.2.1 p k q (by rw [hk]; decide) hq') e z oq
  exact kk ad H1 _ ls a1 r1 a3 (zl_t (zl_t (zl_t a4))) r2 a6
theorem z_instY (hX : zD X E M d mc ms Po) {p ci idx : Nat} {cq : vw_C} {nm : String} (hk : σ.1 p = ci + 1) (hcq : vwCl[ci]? = some cq) (hl : Cond.classLink M.1.cls idx nm ∈ zGW) (hca : cq.1 = nm ∨ (cq.1, nm) ∈ zCa) (hd : decode M.2.1 pc = .ok (.instanceof idx, 3)) (kk : zS X σ cells slots (pc + 3) lv (.int 1 :: st)) : zS X σ cells slots pc lv (.ref p :: st) := by
  obtain ⟨p0, l, e, R, s, m, args, below, meth, c, Q, G, b0, nL, σ0, ad0⟩ := X
  obtain ⟨⟨hx, hb, hml, hown, hts, hK, hlocks, hb0, hnL, hrt, hnm, hEx⟩, -⟩ := hX
  intro ad H locs ls a1 a2 a3 a4 a5 a6
  have hr := z_recv a2 hK hk hcq
  have k1 := kk ad H locs ls a1 a2 a3 (zl_i (zl_t a4)) a5 a6
  rcases hca with e | e
  · subst e
    exact va_instS hx hb hown (hts _ (List.mem_cons_of_mem _ hl)) (hK.1 ci cq hcq).2 hr hd k1
  · exact va_instY hx hb hown (hts _ (List.mem_cons_of_mem _ hl)) (hK.2.2.2.2.2.1 _ e) hr hd k1
theorem z_instN (hX : zD X E M d mc ms Po) {p ci idx : Nat} {cq : vw_C} {nm : String} (hk : σ.1 p = ci + 1) (hcq : vwCl[ci]? = some cq) (hl : Cond.classLink M.1.cls idx nm ∈ zGW) (hca : (cq.1, nm) ∈ zNc) (hd : decode M.2.1 pc = .ok (.instanceof idx, 3)) (kk : zS X σ cells slots (pc + 3) lv (.int 0 :: st)) : zS X σ cells slots pc lv (.ref p :: st) := by
  obtain ⟨p0, l, e, R, s, m, args, below, meth, c, Q, G, b0, nL, σ0, ad0⟩ := X
  obtain ⟨⟨hx, hb, hml, hown, hts, hK, hlocks, hb0, hnL, hrt, hnm, hEx⟩, -⟩ := hX
  intro ad H locs ls a1 a2 a3 a4 a5 a6
  exact va_instNo hx hb hown (hts _ (List.mem_cons_of_mem _ hl)) (hK.2.2.2.2.2.2 _ hca) (z_recv a2 hK hk hcq) hd (kk ad H locs ls a1 a2 a3 (zl_i (zl_t a4)) a5 a6)
theorem z_mmax (hX : zD X E M d mc ms Po) {idx : Nat} {x y : Int32} (hw : Cond.methodLink M.1.cls idx Lib.Math.max.name ∈ zGW ∧ Cond.static Lib.Math.max.name ∈ zGW ∧ Cond.initialized "java/lang/Math" ∈ zGW ∧ Cond.code Lib.Math.max.name Lib.Math.max.code 2 (some .int) ∈ zGW) (h1 : 1 ≤ d) (hrm : (st.map fun v => v.category).sum ≤ 8) (hc : cells ≤ mc) (hs : slots ≤ ms) (hd : decode M.2.1 pc = .ok (.invokestatic idx, 3)) (kk : zS X σ cells slots (pc + 3) lv (.int (if x < y then y else x) :: st)) : zS X σ cells slots pc lv (.int y :: .int x :: st) := by
  obtain ⟨p, l, e, R, s, m, args, below, meth, c, Q, G, b0, nL, σ0, ad0⟩ := X
  obtain ⟨⟨hx, hb, hml, hown, hts, hK, hlocks, hb0, hnL, hrt, hnm, hEx⟩, q1, q2, q3, q4, q5⟩ := hX
  subst q1 q2 q3 q4
  intro ad H locs ls a1 a2 a3 a4 a5 a6
  have ok : ∀ {w : Cond}, w ∈ zGW → w.before args s = true := fun h => hts _ (List.mem_cons_of_mem _ h)
  have hcat : ((st.map (ph ad)).map fun v => v.category).sum ≤ 8 := by rw [z_catm]; exact hrm
  exact va_mmax hx hb (hml.trans a6.1.symm) hown (ok hw.1) (ok hw.2.1) (ok hw.2.2.1) (ok hw.2.2.2) h1 (by show _ + 13 ≤ 50 * d; omega) hc hs hd (kk ad H locs ls a1 a2 a3 (zl_i (zl_t (zl_t a4))) a5 a6)
def zCw (own : String) (idx : Nat) : Prop := Cond.methodLink own idx arraycopyName ∈ zGW ∧ Cond.native arraycopyName ∈ zGW ∧ Cond.static arraycopyName ∈ zGW ∧ Cond.initialized "java/lang/System" ∈ zGW
theorem z_nn {z : Int32} (hz : ¬ z < 0) : z.toInt = (z.toNatClampNeg : Int) := by
  have hz0 : (0 : Int) ≤ z.toInt := by
    have := Int32.not_lt.mp hz
    simpa using Int32.le_iff_toInt_le.mp this
  show z.toInt = ((z.toInt.toNat : Nat) : Int)
  omega
theorem z_copyI (hX : zD X E M d mc ms Po) {idx a b : Nat} {sp dp n : Int32} (hw : zCw M.1.cls idx) (ha : σ.1 a = 22) (hb' : σ.1 b = 22) (h1 : ¬ sp < 0) (h2 : ¬ dp < 0) (h3 : ¬ n < 0) (h4 : sp.toNatClampNeg + n.toNatClampNeg ≤ σ.2.1 a) (h5 : dp.toNatClampNeg + n.toNatClampNeg ≤ σ.2.1 b) (hfr : 1 ≤ d) (hrm : (st.map fun v => v.category).sum + (nativeFrameWords "java/lang/System" "arraycopy" 5 + 11) ≤ 50 * d) (hd : decode M.2.1 pc = .ok (.invokestatic idx, 3))
    (kk : zS X (σ.1, σ.2.1, (fun p => if p = b then va_cpy (σ.2.2.1 a) (σ.2.2.1 b) sp.toNatClampNeg dp.toNatClampNeg n.toNatClampNeg else σ.2.2.1 p), σ.2.2.2.1, σ.2.2.2.2) cells slots (pc + 3) lv st) : zS X σ cells slots pc lv (.int n :: .int dp :: .ref b :: .int sp :: .ref a :: st) := by
  obtain ⟨p0, l, e, R, s, m, args, below, meth, c, Q, G, b0, nL, σ0, ad0⟩ := X
  obtain ⟨⟨hx, hb, hml, hown, hts, hK, hlocks, hb0, hnL, hrt, hnm, hEx⟩, q1, q2, q3, q4, q5⟩ := hX
  subst q1 q2 q3 q4
  intro ad H locs ls a1 a2 a3 a4 a5 a6
  have ok : ∀ {w : Cond}, w ∈ zGW → w.before args s = true := fun h => hts _ (List.mem_cons_of_mem _ h)
  have hcat : ((st.map (ph ad)).map fun v => v.category).sum + (nativeFrameWords "java/lang/System" "arraycopy" 5 + 11) ≤ 50 * d := by rw [z_catm]; exact hrm
  obtain ⟨b1, b2, b3⟩ := zg_arr hK a2 (t := 2) (by decide) ha
  obtain ⟨c1, c2, c3⟩ := zg_arr hK a2 (t := 2) (by decide) hb'
  intro T hT XX
  obtain ⟨-, k0, hk0, cm0, hkk0⟩ := (hK.2.1 2 (by decide)).1 (σ.2.1 a) (zel ad σ 2 a)
  obtain ⟨-, k1, hk1, cm1, hkk1⟩ := (hK.2.1 2 (by decide)).1 (σ.2.1 b) (zel ad σ 2 b)
  obtain ⟨vm', X', step⟩ := XX.arraycopy hx hown (ok hw.1) (ok hw.2.1) (ok hw.2.2.1) (ok hw.2.2.2) (src := ad a) (dst := ad b) (cs := arrV (E.2.1.2.2.1 2) (σ.2.1 a) (zel ad σ 2 a)) (cd := arrV (E.2.1.2.2.1 2) (σ.2.1 b) (zel ad σ 2 b)) (srcPos := sp) (destPos := dp) (n := n) (by rw [hT]; exact b2) (by rw [hT]; exact c2)
    (fun _ h => by cases h) (fun _ h => by cases h) (fun h => by cases h) (fun h => by cases h) hk0 hk1 hkk0 hkk1 (by decide) h1 h2 h3
    (by rw [z_nn h1, z_nn h3]; show ¬ _ > ((arrV _ _ _).slots.size : Int); rw [arrV_size]; omega)
    (by rw [z_nn h2, z_nn h3]; show ¬ _ > ((arrV _ _ _).slots.size : Int); rw [arrV_size]; omega)
    (fun vm₁ _ i hi => by
      have e : (arrV (E.2.1.2.2.1 2) (σ.2.1 a) (zel ad σ 2 a)).slots.getD (sp.toNatClampNeg + i) .null = .int (σ.2.2.1 a (sp.toNatClampNeg + i)) := by
        rw [Array.getD_eq_getD_getElem?, arrV_read _ _ (by omega)]
        rfl
      refine ⟨?_, ?_⟩
      · rw [e]
        rfl
      · rw [e]
        exact trivial)
    (g := F0 m pc ls (.int n :: .int dp :: .ref (ad b) :: .int sp :: .ref (ad a) :: st.map (ph ad))) rfl (a6.1.trans hml.symm) (rest := st.map (ph ad)) rfl (by rw [hb]; exact hd) hfr (by show 2 * 0 + _ + _ ≤ 50 * d; omega)
  have e1 : copied (arrV (E.2.1.2.2.1 2) (σ.2.1 a) (zel ad σ 2 a)) (arrV (E.2.1.2.2.1 2) (σ.2.1 b) (zel ad σ 2 b)) sp dp n = arrV (E.2.1.2.2.1 2) (σ.2.1 b) (fun j => .int (va_cpy (σ.2.2.1 a) (σ.2.2.1 b) sp.toNatClampNeg dp.toNatClampNeg n.toNatClampNeg j)) := va_copied (fun z => .int z) _ _ (σ.2.2.1 a) (σ.2.2.1 b) h4
  rw [e1] at X' step
  have hl : ad b < H.size := (Array.getElem?_eq_some_iff.mp c2).1
  generalize hσ' : ((σ.1, σ.2.1, (fun p => if p = b then va_cpy (σ.2.2.1 a) (σ.2.2.1 b) sp.toNatClampNeg dp.toNatClampNeg n.toNatClampNeg else σ.2.2.1 p), σ.2.2.2.1, σ.2.2.2.2) : Sg) = σ' at kk
  generalize hnc : arrV (E.2.1.2.2.1 2) (σ.2.1 b) (fun j => .int (va_cpy (σ.2.2.1 a) (σ.2.2.1 b) sp.toNatClampNeg dp.toNatClampNeg n.toNatClampNeg j)) = nc at X' step
  have oq : ∀ q : Nat, q ≠ ad b → (H.setIfInBounds (ad b) nc)[q]? = H[q]? := fun q hq => by simp [Array.getElem?_setIfInBounds, Ne.symm hq]
  have hK1 : σ'.1 = σ.1 := by rw [← hσ']
  have hrl : zRl E.2.1 E.2.2 ad σ' (H.setIfInBounds (ad b) nc) := by
    refine zRl_put a2 (p := b) (by rw [hb']; decide) (by rw [hb']; decide) hK1 (by rw [← hσ']) (fun q hq => by rw [← hσ']; exact if_neg hq) (fun q hq => by rw [← hσ']) (fun q hq => by rw [← hσ']) (by simp) oq ⟨fun ci cq g1 g2 => ?_, fun t ht g1 => ?_⟩ (fun k q hq => a2.2.2.1 b k q (by rw [hb']; decide) (by rw [← hσ'] at hq; exact hq))
    · rw [hK1, hb'] at g1
      have := zcl_lt g2
      omega
    · rw [hK1, hb'] at g1
      have e2 : t = 2 := by omega
      subst e2
      rw [show (H.setIfInBounds (ad b) nc)[ad b]? = some nc by simp [Array.getElem?_setIfInBounds, hl], ← hnc, ← hσ']
      congr 2
      funext j
      simp [zel]
  obtain ⟨t, t1, t2⟩ := kk ad _ _ ls (fun q hq => by rw [hK1]; exact a1 q hq) hrl (fun x hx q hq => by rw [hK1]; exact a3 x hx q hq) (fun v hv q hq => by rw [hK1]; exact a4 v (by simp [hv]) q hq) ⟨by simp; exact a5.1, fun q g1 g2 => by
      rw [oq q (fun e => g2 (by rw [e]; exact c1))]
      exact a5.2.1 q g1 g2, fun q hq => by
      rcases List.mem_append.mp hq with h | h
      · exact a5.2.2 q h
      · obtain ⟨z, -, hz⟩ := List.mem_map.mp h
        rw [← hz]
        exact c1⟩ a6 _ (show ((T.setVm vm').setCell (ad b) nc).heap = _ by rw [← hT]; rfl) X'
  exact ⟨t, step t t1, t2⟩
end
