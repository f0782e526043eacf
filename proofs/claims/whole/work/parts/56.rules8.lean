/-! ===== a static method that the named class has from its superclass ===== -/
section
variable {p : Program} {l : Launch} {e : Env} {R : Room} {s : State} {m : MethodId} {args : Array Value} {below : List Frame} {meth : Method} {c : Code} {T : State} {locs : List Loc} {cells slots : Nat}
/-- the machine at such a call is the machine with the entry noted -/
theorem z_stNote {Qn : Unit → Pre} {En : CtlPost} {dn : Bool} {acts : List Action} {g : JFrame} {index ci n named : Nat} {r : MethodId} {dk ck : Class} {cf : ClassFile} {nm ds : String}
    (htop : T.topJava?.isSome) (hpv : e.platform.polymorphicOnlyByInvokevirtual = true) (hW : s.WarmedH T.vm) (hE : s.MethodEntryUp e T.vm g.method.cls index named r ci)
    (hdk : s.vm.classes[g.method.cls]? = some dk) (hcf : dk.cf = some cf) (hcp : cf.constantPool[index]? = some (if false then .interfaceMethodref ci n else .methodref ci n)) (hnt : cf.constantPool.nameAndType? n = some (nm, ds))
    (hck : s.vm.classes[named]? = some ck) (hno : (ck.methods.any fun y => y.name == nm && !y.isStatic && signaturePolymorphic ck y) = false) :
    wp (invokestatic.sem index) Qn En e dn acts (T.setTop g) ↔ wp (invokestatic.sem index) Qn En e dn acts ((T.setVm (T.vm.calledUp g.method.cls ci index named r)).setTop g) := by
  obtain ⟨g1, -, w1, g2⟩ := hE.classFirst
  have wE := hE.warmed
  have hT2 : (T.setVm (T.vm.calledUp g.method.cls ci index named r)).topJava?.isSome := htop
  obtain ⟨d0, q0, r0⟩ := hW.alike.2.2 _ _ hdk
  obtain ⟨d2, q2, r2⟩ := wE.alike.2.2 _ _ hdk
  obtain ⟨k1, u1, v1⟩ := w1.alike.2.2 _ _ hck
  obtain ⟨k2, u2, v2⟩ := wE.alike.2.2 _ _ hck
  have z0 := memberRef_ask_via (e := e) q0 (by rw [r0]; exact hcf) hcp hnt
  have z2 := memberRef_ask_via (e := e) q2 (by rw [r2]; exact hcf) hcp hnt
  have y1 : (k1.methods.any fun y => y.name == nm && !y.isStatic && signaturePolymorphic k1 y) = false := by rw [v1]; exact hno
  have y2 : (k2.methods.any fun y => y.name == nm && !y.isStatic && signaturePolymorphic k2 y) = false := by rw [v2]; exact hno
  have toC : ∀ {P : ClassId → Pre} {b : Bool} {as : List Action}, wp (Jvm.resolveClassAt ci) P En e b as (T.setTop g) ↔ P named b as ((T.setVm (T.vm.noted g.method.cls ci (.cls named))).setTop g) :=
    W.resolveClassAt_links (t := T.setTop g) (State.method?_setTop g htop) g1
  have toM : ∀ {P : MethodId → Pre} {b : Bool} {as : List Action}, wp (Jvm.resolveMethodAt index) P En e b as ((T.setVm (T.vm.noted g.method.cls ci (.cls named))).setTop g) ↔ P r b as ((T.setVm (T.vm.calledUp g.method.cls ci index named r)).setTop g) :=
    W.resolveMethodAt_links (t := (T.setVm (T.vm.noted g.method.cls ci (.cls named))).setTop g) (State.method?_setTop g (s := T.setVm (T.vm.noted g.method.cls ci (.cls named))) htop) g2
  have onC := fun {P : ClassId → Pre} {b : Bool} {as : List Action} => W.resolveClassAt_ready (Q := P) (E := En) (e := e) (d := b) (acts := as) (s := (T.setVm (T.vm.calledUp g.method.cls ci index named r)).setTop g) (State.method?_setTop g hT2) hE.classReady
  have onM := fun {P : MethodId → Pre} {b : Bool} {as : List Action} => W.resolveMethodAt_ready (Q := P) (E := En) (e := e) (d := b) (acts := as) (s := (T.setVm (T.vm.calledUp g.method.cls ci index named r)).setTop g) (State.method?_setTop g hT2) hE.ready
  simp [invokestatic.sem, hpv, Seam.memberRefOf, State.method?_setTop g htop, State.method?_setTop g hT2, z0, z2, toC, onC, u1, u2, y1, y2, toM, onM, -Array.any_eq_true]
theorem z_stCall (X : Stand p l e R s m args below meth c T locs cells slots) (hexec : p.tables.exec = Jvm.exec) {own owner nm ds nc : String} {index : Nat} {bytes : ByteArray} {maxL : Nat} {ret : Option FieldType}
    (hown : s.vm.findClass own = some m.cls) (hlink : (Cond.methodLink own index ⟨nc, nm, ds⟩).before args s = true) (hsame : (Cond.sameMethod nc owner nm ds).before args s = true) (hstat : (Cond.static ⟨owner, nm, ds⟩).before args s = true) (hinit : (Cond.initialized owner).before args s = true)
    (hcode : (Cond.code ⟨owner, nm, ds⟩ bytes maxL ret).before args s = true) (hy : owner ≠ "java/lang/invoke/MethodHandle" ∧ owner ≠ "java/lang/invoke/VarHandle")
    {Wd : Nat} {Pre : Pt → Array Value → Prop} {Post : Pt → Array Value → Option Value → Pt → Prop} (hK : Back l R p e below s args ⟨owner, nm, ds⟩ 3 Wd Pre Post)
    {g : JFrame} (hg : g.method = m) (hsize : g.locals.size = c.maxLocals) {argsL rest : List Value} (hlen : ∀ sig, parseMethodDescriptor ds = some sig → argsL.length = sig.parameters.length)
    (hstack : g.stack = argsL.reverse ++ rest) (hW : 2 * g.monitorRoom + (rest.map fun v => v.category).sum ≤ Wd) (hdg : decode c.code g.pc = .ok (.invokestatic index, 3))
    (hpre : ∀ vm₁, s.WarmedH vm₁ → Pre ⟨T.setVm vm₁, locs, cells, slots⟩ argsL.toArray) :
    ∃ (v : Option Value) (vm₁ : Vm) (B : Pt), s.WarmedH vm₁ ∧ Stand p l e R s m args below meth c B.U B.locs B.cells B.slots ∧ Post ⟨T.setVm vm₁, locs, cells, slots⟩ argsL.toArray v B ∧
      ∀ target, Steps p.tables e below (B.U.setTop { g with pc := g.pc + 3, stack := v.toList ++ rest }) target → Steps p.tables e below (T.setTop g) target := by
  obtain ⟨mk, hnamed⟩ := Cond.code_named hcode
  obtain ⟨methM, cM, hmethM, -, -, -, -, -, -, hsigM⟩ := Cond.code_spec hnamed hcode
  have hst : methM.isStatic = true := Cond.static_spec hnamed hmethM hstat
  obtain ⟨kP, hkP, hnP⟩ := className_of_methodNamed hnamed
  have hiP : kP.init = .initialized := Cond.initialized_spec (findClass_of_methodNamed hnamed) hkP hinit
  have hpm : e.platform.magicAccessors = ({} : Platform).magicAccessors := by rw [X.admits.platform]
  have hpv : e.platform.polymorphicOnlyByInvokevirtual = true := by rw [X.admits.platform]
  obtain ⟨cn, ck, r1, hcn, hck, hni, hf, hn1⟩ := Cond.sameMethod_found hsame
  cases hnamed.symm.trans hn1
  obtain ⟨ci, hl, hright⟩ := Cond.methodLink_specUp hown hcn hck hni hf hlink e.platform hpm (by rw [X.admits.platform])
  have hE : s.MethodEntryUp e T.vm m.cls index cn mk ci := State.methodEntryUp X.warmed hl hright
  obtain ⟨dk, cfile, nt, mn, md, ck', _, _, hd, hcf, hcp, hnt, -, -, hck', -, hpoly, -⟩ := hl.here
  cases hck.symm.trans hck'
  have al := hE.warmed.alike
  obtain ⟨d2, hd2, ed2⟩ := al.2.2 _ _ hd
  obtain ⟨p2, hp2, ep2⟩ := al.2.2 _ _ hkP
  obtain ⟨c2, hc2, ec2⟩ := al.2.2 _ _ hck
  have hno : (ck.methods.any fun y => y.name == mn && !y.isStatic && signaturePolymorphic ck y) = false := by simp [hpoly]
  have hno2 : (c2.methods.any fun y => y.name == mn && !y.isStatic && signaturePolymorphic c2 y) = false := by rw [ec2]; exact hno
  have hcp' : cfile.constantPool[index]? = some (if false then .interfaceMethodref ci nt else .methodref ci nt) := hcp
  have X₁ := X.noted hE.warmed
  obtain ⟨v, B, X', hpost, hsteps⟩ := hK m meth c ⟨T.setVm (T.vm.calledUp m.cls ci index cn mk), locs, cells, slots⟩ { g with stack := rest } (.invokestatic index) mk argsL.toArray X₁ hg hsize hdg hW (X₁.named hnamed) (hpre _ X₁.warmed)
  refine ⟨v, _, B, X₁.warmed, X', hpost, fun target h => ?_⟩
  subst hg
  have hrd : plainRef (T.setVm (T.vm.calledUp g.method.cls ci index cn mk)) e g.method.cls index := ⟨ci, mn, md, false, cn, c2, memberRef_ask_via (e := e) hd2 (by rw [ed2]; exact hcf) hcp' hnt, hE.classReady, hc2, hno2⟩
  jvm_step X.here [hexec, hdg, z_stNote (e := e) (s := s) (T := T) (g := g) X.here.top hpv X.warmed hE hd hcf hcp' hnt hck hno,
    invokestatic.wp_ready (e := e) (s := T.setVm (T.vm.calledUp g.method.cls ci index cn mk)) (f := g) (m := mk) (k := p2) (meth := methM) (args := argsL) (rest := rest) X.here.top hrd hE.ready hp2
      (by show (T.vm.calledUp g.method.cls ci index cn mk).method? mk = some methM; rw [al.method?]; exact hmethM)
      (by rw [ep2]; show signaturePolymorphic kP methM = false; simp [signaturePolymorphic, hnP, hy.1, hy.2]) hst (by rw [ep2]; exact hiP) (hlen _ hsigM) hstack]
  intro acts
  rw [doInvoke_state]
  exact hsteps.trans h
end
section
variable {X : zX} {E : zE} {M : zM} {d mc ms : Nat} {Po : Option Value → Sg → Prop} {σ : Sg} {cells slots pc : Nat} {lv : List (Nat × Value)} {st : List Value}
def zStw (own : String) (idx : Nat) (nc : String) (M : zM) (n : Nat) : Prop := Cond.code M.1 M.2.1 M.2.2.1 M.2.2.2 ∈ zGW ∧ Cond.methodLink own idx ⟨nc, M.1.name, M.1.desc⟩ ∈ zGW ∧ Cond.sameMethod nc M.1.cls M.1.name M.1.desc ∈ zGW ∧ Cond.static M.1 ∈ zGW ∧ Cond.initialized M.1.cls ∈ zGW ∧ ((M.1.cls ≠ "java/lang/invoke/MethodHandle" ∧ M.1.cls ≠ "java/lang/invoke/VarHandle") ∧ (parseMethodDescriptor M.1.desc).map (fun d => d.parameters.length) = some n)
theorem z_callSt (hX : zD X E M d mc ms Po) {M' : zM} {nc : String} {d' mc' ms' n idx : Nat} {Po' : Option Value → Sg → Prop} {As rest : List Value} (hw : zStw M.1.cls idx nc M' n) (hM : zCt E M' d' mc' ms' σ As Po') (hst : st = As.reverse ++ rest) (hn : As.length = n) (hd : decode M.2.1 pc = .ok (.invokestatic idx, 3))
    (hdep : d' + 1 ≤ d) (hL : M'.2.2.1 ≤ 31) (hc : cells + mc' ≤ mc) (hs : slots + ms' ≤ ms) (hrm : (rest.map fun v => v.category).sum ≤ 8) (kk : ∀ (r : Option Value) (σ' : Sg), Po' r σ' → zS X σ' (cells + mc') (slots + ms') (pc + 3) lv (r.toList ++ rest)) : zS X σ cells slots pc lv st := by
  subst hst
  refine z_run (A := #[]) hX (rest := rest) (Po' := Po') (fun v hv => List.mem_append_right _ hv) ?_ kk
  obtain ⟨p, l, e, R, s, m, args, below, meth, c, Q, G, b0, nL, σ0, ad0⟩ := X
  obtain ⟨⟨hx, hb, hml, hown, hts, hK, hlocks, hb0, hnL, hrt, hnm, hEx⟩, h1, h2, h3, h4, h5⟩ := hX
  subst h1 h2 h3 h4
  intro ad H locs ls b1 b2 b3 b4
  obtain ⟨w1, w2, w3, w4, w5, w6, w7⟩ := hw
  have ok : ∀ {w : Cond}, w ∈ zGW → w.before args s = true := fun h => hts _ (List.mem_cons_of_mem _ h)
  have hl : ∀ v ∈ As, zlv σ v := fun v hv => b2 _ (List.mem_append_left _ (List.mem_reverse.mpr hv))
  have hKb : Back E.1 (zrm d mc ms) p e below s args M'.1 3 8 (PreOf (zrm d mc ms) mc' ms' (zPre E.2.1 E.2.2 ad σ As)) (PostOf (zPo E.2.1 E.2.2 ad σ Po') mc' ms' (fun q => E.2.2 ≤ q)) := back_of (bytes := M'.2.1) (maxL := M'.2.2.1) (ret := M'.2.2.2) (hM ad) zPre_blind rfl rfl hdep (by show 8 + (M'.2.2.1 + 11) + 50 * d' ≤ 50 * d; omega) (pay_in hts (z_good w1)) List.mem_cons_self (fun a' U hW => word_at hW (Or.inl (by first | rfl | simp [Cond.onTables, Cond.keeps, Cond.steady])) (ok w5))
  refine ⟨(As.map (ph ad)).toArray, ?_⟩
  intro T hT XX
  obtain ⟨v, vm₁, ⟨U', l2, c2, s2⟩, hW₁, X', ⟨g', mk, t, L, e1, e2, hq, h1, hL, h2, h3⟩, stp⟩ := z_stCall XX hx (nc := nc) (owner := M'.1.cls) (nm := M'.1.name) (ds := M'.1.desc) (bytes := M'.2.1) (maxL := M'.2.2.1) (ret := M'.2.2.2) hown (ok w2) (ok w3) (ok w4) (ok w5) (ok w1) w6 hKb (g := F0 m pc ls ((As.reverse ++ rest).map (ph ad))) rfl (b4.trans hml.symm) (argsL := As.map (ph ad)) (rest := rest.map (ph ad)) (fun sig h => by
      rw [h] at w7
      rw [List.length_map, hn]
      exact (Option.some.inj w7).symm) (by show List.map (ph ad) (As.reverse ++ rest) = _; rw [List.map_append, List.map_reverse]) (lv_room (by rw [z_catm]; exact hrm)) (by rw [hb]; exact hd)
    (fun vm₁ hW₁ => ⟨hc, hs, zPre_at b1 hl hK hb0 hEx b3 (T.setVm vm₁) hT hW₁⟩)
  dsimp only [Pt.U, Pt.locs, Pt.cells, Pt.slots] at X' e1 e2 h1 h2 h3 stp
  subst h1; subst h2; subst h3
  exact ⟨v, (T.setVm vm₁).calling g' mk (As.map (ph ad)).toArray, t, U', L, hT, X', hL, e1, e2, hq, stp⟩
end
theorem kt_X0_13 : zStw RX0 13 RX0 mX2_further 2 := ⟨zGW_at 452 (by decide +kernel) (by decide +kernel), zGW_at 449 (by decide +kernel) (by decide +kernel), zGW_at 450 (by decide +kernel) (by decide +kernel), zGW_at 451 (by decide +kernel) (by decide +kernel), zGW_at 87 (by decide +kernel) (by decide +kernel), ⟨⟨by decide +kernel, by decide +kernel⟩, by decide +kernel⟩⟩
theorem kt_X5_13 : zStw RX5 13 RX5 mX2_further 2 := ⟨zGW_at 452 (by decide +kernel) (by decide +kernel), zGW_at 461 (by decide +kernel) (by decide +kernel), zGW_at 462 (by decide +kernel) (by decide +kernel), zGW_at 451 (by decide +kernel) (by decide +kernel), zGW_at 87 (by decide +kernel) (by decide +kernel), ⟨⟨by decide +kernel, by decide +kernel⟩, by decide +kernel⟩⟩
