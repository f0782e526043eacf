/-! ===== a superclass's superclass's method; String constants ===== -/
section
variable {p : Program} {l : Launch} {e : Env} {R : Room} {s : State} {m : MethodId} {args : Array Value} {below : List Frame} {meth : Method} {c : Code}
theorem z_isSub {vm : Vm} {a b : ClassId} {k : Class} (hk : vm.classes[a]? = some k) (hs : k.super = some b) : vm.isSubclass a b = true := by
  have h0 : a < vm.classes.size := (Array.getElem?_eq_some_iff.mp hk).1
  obtain ⟨n, hn⟩ : ∃ n, vm.classes.size = n + 1 := ⟨vm.classes.size - 1, (Nat.sub_add_cancel (Nat.lt_of_le_of_lt (Nat.zero_le _) h0)).symm⟩
  unfold Vm.isSubclass
  rw [hn]
  simp [Vm.isSubclassAux, hk, hs]
theorem z_upCall {T : State} {locs : List Loc} {cells slots : Nat} (X : Stand p l e R s m args below meth c T locs cells slots) (hexec : p.tables.exec = Jvm.exec) {own : String} {index : Nat} {x y : MethodName} {bytes : ByteArray} {maxL : Nat} {ret : Option FieldType}
    (hown : s.vm.findClass own = some m.cls) (hlink : (Cond.methodLink own index x).before args s = true) (hsame : (Cond.sameMethod x.cls y.cls x.name x.desc).before args s = true) (hsup : (Cond.superclass own x.cls).before args s = true) (hsup2 : (Cond.superclass x.cls y.cls).before args s = true) (hxn : x.name = y.name) (hxd : x.desc = y.desc)
    (hinst : (Cond.instanceMethod y).before args s = true) (hcode : (Cond.code y bytes maxL ret).before args s = true) (hno : y.name ≠ "<init>")
    {W : Nat} {Pre : Pt → Array Value → Prop} {Post : Pt → Array Value → Option Value → Pt → Prop} (hK : Back l R p e below s args y 3 W Pre Post)
    {b : Addr} {cellB : Cell} {kB : Class} (hcell : T.heap[b]? = some cellB) (hobj : cellB.vm.isStatics = false) (hkB : s.vm.classes[cellB.cls]? = some kB)
    {g : JFrame} (hg : g.method = m) (hsize : g.locals.size = c.maxLocals) {argsL rest : List Value} (hlen : ∀ sig, parseMethodDescriptor y.desc = some sig → argsL.length = sig.parameters.length)
    (hstack : g.stack = argsL.reverse ++ .ref b :: rest) (hW : 2 * g.monitorRoom + (rest.map fun v => v.category).sum ≤ W) (hdg : decode c.code g.pc = .ok (.invokespecial index, 3))
    (hpre : ∀ vm₁, s.WarmedH vm₁ → Pre ⟨T.setVm vm₁, locs, cells, slots⟩ (Value.ref b :: argsL).toArray) :
    ∃ (v : Option Value) (vm₁ : Vm) (B : Pt), s.WarmedH vm₁ ∧ Stand p l e R s m args below meth c B.U B.locs B.cells B.slots ∧ Post ⟨T.setVm vm₁, locs, cells, slots⟩ (Value.ref b :: argsL).toArray v B ∧
      ∀ target, Steps p.tables e below (B.U.setTop { g with pc := g.pc + 3, stack := v.toList ++ rest }) target → Steps p.tables e below (T.setTop g) target := by
  obtain ⟨mk, methM, hnamed, hmethM, hstM, habM⟩ := Cond.instanceMethod_spec hinst
  obtain ⟨methM', cM, hmethM', -, -, -, -, -, -, hsigM⟩ := Cond.code_spec hnamed hcode
  cases hmethM.symm.trans hmethM'
  obtain ⟨ps, dk, kp, hps, hdk, hkp, hsuper, -, -, hnid⟩ := Cond.superclass_spec hown hsup
  obtain ⟨ps2, dk2, kp2, hps2, hdk2, hkp2, hsuper2, -, -, -⟩ := Cond.superclass_spec hps hsup2
  have hn : s.methodNamed? ⟨y.cls, x.name, x.desc⟩ = some mk := by rw [hxn, hxd]; exact hnamed
  have hpm : ps2 = mk.cls := Option.some.inj (hps2.symm.trans (findClass_of_methodNamed hnamed))
  have hsub : s.vm.isSubclass ps mk.cls = true := by rw [← hpm]; exact z_isSub hdk2 hsuper2
  obtain ⟨vm₁, X₁, hstep₁⟩ := X.invokespecialUp hexec hown hlink hsame hn hmethM hstM habM (by rw [hxn]; exact hno) hdk hnid hps hsuper hsub (a := b) (cell := cellB) hcell
    (fun z h => by rw [h] at hobj; cases hobj) hkB (g := g) hg (argsL := argsL) (rest := rest) (hlen _ hsigM) hstack hdg
  obtain ⟨v, B, X', hpost, hsteps⟩ := hK m meth c ⟨T.setVm vm₁, locs, cells, slots⟩ { g with stack := rest } (.invokespecial index) mk (Value.ref b :: argsL).toArray X₁ hg hsize hdg hW (X₁.named hnamed) (hpre vm₁ X₁.warmed)
  exact ⟨v, vm₁, B, X₁.warmed, X', hpost, fun target h => hstep₁ _ (by rw [doInvoke_state]; exact hsteps.trans h)⟩
end
section
variable {X : zX} {E : zE} {M : zM} {d mc ms : Nat} {Po : Option Value → Sg → Prop} {σ : Sg} {cells slots pc : Nat} {lv : List (Nat × Value)} {st : List Value}
def zUpw (own : String) (idx : Nat) (x : MethodName) (M : zM) (n : Nat) : Prop := Cond.code M.1 M.2.1 M.2.2.1 M.2.2.2 ∈ zGW ∧ Cond.methodLink own idx x ∈ zGW ∧ Cond.sameMethod x.cls M.1.cls x.name x.desc ∈ zGW ∧ Cond.superclass own x.cls ∈ zGW ∧ Cond.superclass x.cls M.1.cls ∈ zGW ∧ Cond.instanceMethod M.1 ∈ zGW ∧ Cond.initialized M.1.cls ∈ zGW ∧ (x.name = M.1.name ∧ x.desc = M.1.desc ∧ M.1.name ≠ "<init>" ∧ (parseMethodDescriptor M.1.desc).map (fun d => d.parameters.length) = some n)
theorem z_callUp (hX : zD X E M d mc ms Po) {M' : zM} {x : MethodName} {d' mc' ms' n idx a ci : Nat} {Po' : Option Value → Sg → Prop} {As rest : List Value} {cq : vw_C} (hw : zUpw M.1.cls idx x M' n) (hM : zCt E M' d' mc' ms' σ (.ref a :: As) Po') (hst : st = As.reverse ++ .ref a :: rest) (hn : As.length = n) (hk : σ.1 a = ci + 1) (hcq : vwCl[ci]? = some cq) (hd : decode M.2.1 pc = .ok (.invokespecial idx, 3))
    (hdep : d' + 1 ≤ d) (hL : M'.2.2.1 ≤ 31) (hc : cells + mc' ≤ mc) (hs : slots + ms' ≤ ms) (hrm : (rest.map fun v => v.category).sum ≤ 8) (kk : ∀ (r : Option Value) (σ' : Sg), Po' r σ' → zS X σ' (cells + mc') (slots + ms') (pc + 3) lv (r.toList ++ rest)) : zS X σ cells slots pc lv st := by
  subst hst
  refine z_run (A := #[]) hX (rest := rest) (Po' := Po') (fun v hv => List.mem_append_right _ (List.mem_cons_of_mem _ hv)) ?_ kk
  obtain ⟨p, l, e, R, s, m, args, below, meth, c, Q, G, b0, nL, σ0, ad0⟩ := X
  obtain ⟨⟨hx, hb, hml, hown, hts, hK, hlocks, hb0, hnL, hrt, hnm, hEx⟩, h1, h2, h3, h4, h5⟩ := hX
  subst h1 h2 h3 h4
  intro ad H locs ls b1 b2 b3 b4
  obtain ⟨w1, w2, w3, w4, w5, w6, w7, v1, v2, v3, v4⟩ := hw
  have ok : ∀ {w : Cond}, w ∈ zGW → w.before args s = true := fun h => hts _ (List.mem_cons_of_mem _ h)
  have hl : ∀ v ∈ (.ref a :: As), zlv σ v := fun v hv => by
    rcases List.mem_cons.mp hv with e | hv
    · rw [e]; exact b2 _ (List.mem_append_right _ List.mem_cons_self)
    · exact b2 _ (List.mem_append_left _ (List.mem_reverse.mpr hv))
  obtain ⟨cellB, hcB, hoB, hclB⟩ := z_recv b1 hK hk hcq
  obtain ⟨kB, hkB, -⟩ := Vm.findClass_spec hclB
  have hKb : Back E.1 (zrm d mc ms) p e below s args M'.1 3 8 (PreOf (zrm d mc ms) mc' ms' (zPre E.2.1 E.2.2 ad σ (.ref a :: As))) (PostOf (zPo E.2.1 E.2.2 ad σ Po') mc' ms' (fun q => E.2.2 ≤ q)) := back_of (bytes := M'.2.1) (maxL := M'.2.2.1) (ret := M'.2.2.2) (hM ad) zPre_blind rfl rfl hdep (by show 8 + (M'.2.2.1 + 11) + 50 * d' ≤ 50 * d; omega) (pay_in hts (z_good w1)) List.mem_cons_self (fun a' U hW => word_at hW (Or.inl (by first | rfl | simp [Cond.onTables, Cond.keeps, Cond.steady])) (ok w7))
  refine ⟨(Value.ref (ad a) :: As.map (ph ad)).toArray, ?_⟩
  intro T hT XX
  obtain ⟨v, vm₁, ⟨U', l2, c2, s2⟩, hW₁, X', ⟨g', mk, t, L, e1, e2, hq, h1, hL, h2, h3⟩, stp⟩ := z_upCall XX hx (bytes := M'.2.1) (maxL := M'.2.2.1) (ret := M'.2.2.2) hown (ok w2) (ok w3) (ok w4) (ok w5) v1 v2 (ok w6) (ok w1) v3 hKb (by rw [hT]; exact hcB) hoB hkB (g := F0 m pc ls ((As.reverse ++ .ref a :: rest).map (ph ad))) rfl (b4.trans hml.symm) (argsL := As.map (ph ad)) (rest := rest.map (ph ad)) (fun sig h => by
      rw [h] at v4
      rw [List.length_map, hn]
      exact (Option.some.inj v4).symm) (by show List.map (ph ad) (As.reverse ++ .ref a :: rest) = _; rw [List.map_append, List.map_reverse]; rfl) (lv_room (by rw [z_catm]; exact hrm)) (by rw [hb]; exact hd)
    (fun vm₁ hW₁ => ⟨hc, hs, zPre_at b1 hl hK hb0 hEx b3 (T.setVm vm₁) hT hW₁⟩)
  dsimp only [Pt.U, Pt.locs, Pt.cells, Pt.slots] at X' e1 e2 h1 h2 h3 stp
  subst h1; subst h2; subst h3
  exact ⟨v, (T.setVm vm₁).calling g' mk (Value.ref (ad a) :: As.map (ph ad)).toArray, t, U', L, hT, X', hL, e1, e2, hq, stp⟩
theorem z_sval (hX : zD X E M d mc ms Po) {idx i : Nat} (hi : i < 4) (hw : Cond.fieldLink M.1.cls idx "java/lang/String" "value" "[B" ∈ zGW) (hd : decode M.2.1 pc = .ok (.getfield idx, 3)) (kk : zS X σ cells slots (pc + 3) lv (.ref (910 + i) :: st)) : zS X σ cells slots pc lv (.ref (900 + i) :: st) := by
  obtain ⟨p, l, e, R, s, m, args, below, meth, c, Q, G, b0, nL, σ0, ad0⟩ := X
  obtain ⟨⟨hx, hb, hml, hown, hts, hK, hlocks, hb0, hnL, hrt, hnm, hEx⟩, -⟩ := hX
  intro ad H locs ls a1 a2 a3 a4 a5 a6
  obtain ⟨k1, k2, k3, k4⟩ := a2.2.2.2 i hi
  have K1 := kk ad H locs ls a1 a2 a3 (zl_c (fun q e => by cases e; rw [k3]; decide) (zl_t a4)) a5 a6
  rw [show (Value.ref (910 + i) :: st).map (ph ad) = .ref (G.2.2.2.2 i) :: st.map (ph ad) by rw [List.map_cons]; show Value.ref (ad (910 + i)) :: _ = _; rw [k4]] at K1
  rw [show (Value.ref (900 + i) :: st).map (ph ad) = .ref (G.2.2.2.1 i) :: st.map (ph ad) by rw [List.map_cons]; show Value.ref (ad (900 + i)) :: _ = _; rw [k2]]
  exact vk_getf hx hb (hEx.2.2.1.1 i hi).2.2.1 a5 hown (hts _ (List.mem_cons_of_mem _ hw)) (fun x h => h) hd K1
theorem z_scod (hX : zD X E M d mc ms Po) {idx i : Nat} (hi : i < 4) (hw : Cond.fieldLink M.1.cls idx "java/lang/String" "coder" "B" ∈ zGW) (hd : decode M.2.1 pc = .ok (.getfield idx, 3)) (kk : zS X σ cells slots (pc + 3) lv (.int 0 :: st)) : zS X σ cells slots pc lv (.ref (900 + i) :: st) := by
  obtain ⟨p, l, e, R, s, m, args, below, meth, c, Q, G, b0, nL, σ0, ad0⟩ := X
  obtain ⟨⟨hx, hb, hml, hown, hts, hK, hlocks, hb0, hnL, hrt, hnm, hEx⟩, -⟩ := hX
  intro ad H locs ls a1 a2 a3 a4 a5 a6
  obtain ⟨k1, k2, k3, k4⟩ := a2.2.2.2 i hi
  have K1 := kk ad H locs ls a1 a2 a3 (zl_i (zl_t a4)) a5 a6
  rw [show (Value.ref (900 + i) :: st).map (ph ad) = .ref (G.2.2.2.1 i) :: st.map (ph ad) by rw [List.map_cons]; show Value.ref (ad (900 + i)) :: _ = _; rw [k2]]
  exact vk_getf hx hb (hEx.2.2.1.1 i hi).2.1 a5 hown (hts _ (List.mem_cons_of_mem _ hw)) (fun x h => h) hd K1
theorem z_sbld (hX : zD X E M d mc ms Po) {i : Nat} {j : Int32} (hi : i < 4) (hj : vp_in j (zlens.getD i 0)) (hd : decode M.2.1 pc = .ok (.baload, 1)) (kk : zS X σ cells slots (pc + 1) lv (.int ((zbyts.getD i []).getD j.toNatClampNeg 0) :: st)) : zS X σ cells slots pc lv (.int j :: .ref (910 + i) :: st) := by
  obtain ⟨p, l, e, R, s, m, args, below, meth, c, Q, G, b0, nL, σ0, ad0⟩ := X
  obtain ⟨⟨hx, hb, hml, hown, hts, hK, hlocks, hb0, hnL, hrt, hnm, hEx⟩, -⟩ := hX
  intro ad H locs ls a1 a2 a3 a4 a5 a6
  obtain ⟨k1, k2, k3, k4⟩ := a2.2.2.2 i hi
  have K1 := kk ad H locs ls a1 a2 a3 (zl_i (zl_t (zl_t a4))) a5 a6
  rw [show (Value.int j :: Value.ref (910 + i) :: st).map (ph ad) = .int j :: .ref (G.2.2.2.2 i) :: st.map (ph ad) by rw [List.map_cons, List.map_cons]; show Value.int j :: Value.ref (ad (910 + i)) :: _ = _; rw [k4]]
  exact va_tb hx hb (hEx.2.2.1.1 i hi).2.2.2 a5 hj rfl hd K1
theorem z_slen (hX : zD X E M d mc ms Po) {i : Nat} (hi : i < 4) (hd : decode M.2.1 pc = .ok (.arraylength, 1)) (kk : zS X σ cells slots (pc + 1) lv (.int (nI (zlens.getD i 0)) :: st)) : zS X σ cells slots pc lv (.ref (910 + i) :: st) := by
  obtain ⟨p, l, e, R, s, m, args, below, meth, c, Q, G, b0, nL, σ0, ad0⟩ := X
  obtain ⟨⟨hx, hb, hml, hown, hts, hK, hlocks, hb0, hnL, hrt, hnm, hEx⟩, -⟩ := hX
  intro ad H locs ls a1 a2 a3 a4 a5 a6
  obtain ⟨k1, k2, k3, k4⟩ := a2.2.2.2 i hi
  have K1 := kk ad H locs ls a1 a2 a3 (zl_i (zl_t a4)) a5 a6
  rw [show (Value.ref (910 + i) :: st).map (ph ad) = .ref (G.2.2.2.2 i) :: st.map (ph ad) by rw [List.map_cons]; show Value.ref (ad (910 + i)) :: _ = _; rw [k4]]
  exact va_tlen hx hb (hEx.2.2.1.1 i hi).2.2.2 a5 rfl hd K1
theorem z_ldcS (hX : zD X E M d mc ms Po) (hcls : M.1.cls = "PunchedSouls$Reader") {idx i : Nat} (hi : (idx = 43 ∧ i = 0) ∨ (idx = 45 ∧ i = 1) ∨ (idx = 47 ∧ i = 2) ∨ (idx = 73 ∧ i = 3)) (hd : decode M.2.1 pc = .ok (.ldc idx, 2)) (kk : zS X σ cells slots (pc + 2) lv (.ref (900 + i) :: st)) : zS X σ cells slots pc lv st := by
  obtain ⟨p, l, e, R, s, m, args, below, meth, c, Q, G, b0, nL, σ0, ad0⟩ := X
  obtain ⟨⟨hx, hb, hml, hown, hts, hK, hlocks, hb0, hnL, hrt, hnm, hEx⟩, -⟩ := hX
  intro ad H locs ls a1 a2 a3 a4 a5 a6
  have hi4 : i < 4 := by omega
  obtain ⟨k1, k2, k3, k4⟩ := a2.2.2.2 i hi4
  have K1 := kk ad H locs ls a1 a2 a3 (zl_c (fun q e => by cases e; rw [k1]; decide) a4) a5 a6
  rw [show (Value.ref (900 + i) :: st).map (ph ad) = .ref (G.2.2.2.1 i) :: st.map (ph ad) by rw [List.map_cons]; show Value.ref (ad (900 + i)) :: _ = _; rw [k2]] at K1
  obtain ⟨-, -, -, z0, z1, z2, z3⟩ := hEx
  rw [hcls] at hown
  rcases hi with ⟨rfl, rfl⟩ | ⟨rfl, rfl⟩ | ⟨rfl, rfl⟩ | ⟨rfl, rfl⟩
  · exact va_ldcS hx hb hown z0 hd K1
  · exact va_ldcS hx hb hown z1 hd K1
  · exact va_ldcS hx hb hown z2 hd K1
  · exact va_ldcS hx hb hown z3 hd K1
/-- a call on a String constant -/
theorem z_callK (hX : zD X E M d mc ms Po) {M' : zM} {d' mc' ms' n idx i : Nat} {Po' : Option Value → Sg → Prop} {As rest : List Value} (hi : i < 4) (hw : zVw M.1.cls idx M' n) (hM : zCt E M' d' mc' ms' σ (.ref (900 + i) :: As) Po') (hst : st = As.reverse ++ .ref (900 + i) :: rest) (hn : As.length = n) (hcl : M'.1.cls = "java/lang/String") (hd : decode M.2.1 pc = .ok (.invokevirtual idx, 3))
    (hdep : d' + 1 ≤ d) (hL : M'.2.2.1 ≤ 31) (hc : cells + mc' ≤ mc) (hs : slots + ms' ≤ ms) (hrm : (rest.map fun v => v.category).sum ≤ 8) (kk : ∀ (r : Option Value) (σ' : Sg), Po' r σ' → zS X σ' (cells + mc') (slots + ms') (pc + 3) lv (r.toList ++ rest)) : zS X σ cells slots pc lv st := by
  subst hst
  refine z_run (A := #[]) hX (rest := rest) (Po' := Po') (fun v hv => List.mem_append_right _ (List.mem_cons_of_mem _ hv)) ?_ kk
  obtain ⟨p, l, e, R, s, m, args, below, meth, c, Q, G, b0, nL, σ0, ad0⟩ := X
  obtain ⟨⟨hx, hb, hml, hown, hts, hK, hlocks, hb0, hnL, hrt, hnm, hEx⟩, h1, h2, h3, h4, h5⟩ := hX
  subst h1 h2 h3 h4
  intro ad H locs ls b1 b2 b3 b4
  obtain ⟨w1, w2, w3, w4, w5, w6⟩ := hw
  have ok : ∀ {w : Cond}, w ∈ zGW → w.before args s = true := fun h => hts _ (List.mem_cons_of_mem _ h)
  have hl : ∀ v ∈ (.ref (900 + i) :: As), zlv σ v := fun v hv => by
    rcases List.mem_cons.mp hv with e | hv
    · rw [e]; exact b2 _ (List.mem_append_right _ List.mem_cons_self)
    · exact b2 _ (List.mem_append_left _ (List.mem_reverse.mpr hv))
  have hr := vk_recv hEx.2.2.1 hi b3
  rw [← (b1.2.2.2 i hi).2.1, ← hcl] at hr
  exact ⟨_, va_runV (As := As.map (ph ad)) (b := ad (900 + i)) (rest := rest.map (ph ad)) (n := n) (C := M'.1.cls) ⟨hx, hb, hml, hown, hts⟩ (hM ad) ⟨callB_of n hts (z_good w1) rfl rfl rfl (ok w5) (ok w2) w6 ⟨hdep, by show 8 + (M'.2.2.1 + 11) + 50 * d' ≤ 50 * d; omega⟩, ok w3, ok w4⟩
    ⟨zPre_blind, hr, zPre_at b1 hl hK hb0 hEx b3⟩ rfl (by rw [List.length_map]; exact hn) b4 (by show List.map (ph ad) (As.reverse ++ .ref (900 + i) :: rest) = _; rw [List.map_append, List.map_reverse]; rfl) (lv_room (by rw [z_catm]; exact hrm)) hd ⟨hc, hs⟩⟩
end
