/-! ===== calls by their kinds; new objects and arrays ===== -/
theorem zPre_blind {G : zG} {b0 : Nat} {ad : Nat → Nat} {σ : Sg} {av : List Value} : FrameBlind (zPre G b0 ad σ av) := fun a U g mk h => ⟨h.1, h.2.1, h.2.2.1, zK.vm (s := U) rfl h.2.2.2.1, h.2.2.2.2.1, zEx.vm (s := U) rfl h.2.2.2.2.2⟩
theorem zPre_at {G : zG} {b0 : Nat} {ad : Nat → Nat} {σ : Sg} {av : List Value} {s : State} {H : Heap} {locs : List Loc} (hR : zRl G b0 ad σ H) (hl : ∀ v ∈ av, zlv σ v) (hK : zK G s) (hb0 : b0 ≤ s.heap.size) (hEx : zEx G b0 s s.heap) (hS : va_S (fun q => b0 ≤ q) s.heap H locs) :
    ∀ U : State, U.heap = H → s.WarmedH U.vm → zPre G b0 ad σ av (av.map (ph ad)).toArray U := by
  intro U hU hW
  refine ⟨rfl, by rw [hU]; exact hR, hl, hK.moved hW, by rw [hU]; exact Nat.le_trans hb0 hS.1, ?_⟩
  rw [hU]
  exact (hEx.kept hS.2.1).moved hW
theorem z_recv {G : zG} {b0 : Nat} {ad : Nat → Nat} {σ : Sg} {s : State} {H : Heap} (hR : zRl G b0 ad σ H) (hK : zK G s) {a ci : Nat} {cq : vw_C} (hk : σ.1 a = ci + 1) (hcq : vwCl[ci]? = some cq) : ∃ cell : Cell, H[ad a]? = some cell ∧ cell.vm.isStatics = false ∧ s.vm.findClass cq.1 = some cell.cls := by
  obtain ⟨cell, g1, g2, g3, -⟩ := ((hR.1 a (by omega)).2 (by have := zcl_lt hcq; omega)).2.1 ci cq hk hcq
  exact ⟨cell, g1, by rw [g3]; rfl, by rw [g2]; exact (hK.1 ci cq hcq).2.1⟩
/-- the words of a call of M' from a class -/
def zVw (own : String) (idx : Nat) (M : zM) (n : Nat) : Prop := Cond.code M.1 M.2.1 M.2.2.1 M.2.2.2 ∈ zGW ∧ Cond.methodLink own idx M.1 ∈ zGW ∧ Cond.instanceMethod M.1 ∈ zGW ∧ Cond.selects M.1.cls M.1 M.1 ∈ zGW ∧ Cond.initialized M.1.cls ∈ zGW ∧
  (M.1.cls ≠ "java/lang/invoke/MethodHandle" ∧ M.1.cls ≠ "java/lang/invoke/VarHandle" ∧ (parseMethodDescriptor M.1.desc).map (fun d => d.parameters.length) = some n)
def zSw (own : String) (idx : Nat) (M : zM) (n : Nat) : Prop := Cond.code M.1 M.2.1 M.2.2.1 M.2.2.2 ∈ zGW ∧ Cond.methodLink own idx M.1 ∈ zGW ∧ Cond.static M.1 ∈ zGW ∧ Cond.initialized M.1.cls ∈ zGW ∧
  (M.1.cls ≠ "java/lang/invoke/MethodHandle" ∧ M.1.cls ≠ "java/lang/invoke/VarHandle" ∧ (parseMethodDescriptor M.1.desc).map (fun d => d.parameters.length) = some n)
def zIw (own : String) (idx : Nat) (M : zM) (n : Nat) : Prop := Cond.code M.1 M.2.1 M.2.2.1 M.2.2.2 ∈ zGW ∧ Cond.methodLink own idx M.1 ∈ zGW ∧ Cond.instanceMethod M.1 ∈ zGW ∧ M.1.name = "<init>" ∧ M.2.2.2 = none ∧ Cond.initialized M.1.cls ∈ zGW ∧
  (M.1.cls ≠ "java/lang/invoke/MethodHandle" ∧ M.1.cls ≠ "java/lang/invoke/VarHandle" ∧ (parseMethodDescriptor M.1.desc).map (fun d => d.parameters.length) = some n)
theorem z_catm (ad : Nat → Nat) (rest : List Value) : ((rest.map (ph ad)).map fun v => v.category) = rest.map fun v => v.category := by
  rw [List.map_map]
  exact List.map_congr_left fun v _ => ph_cat ad v
section
variable {X : zX} {E : zE} {M : zM} {d mc ms : Nat} {Po : Option Value → Sg → Prop} {σ : Sg} {cells slots pc : Nat} {lv : List (Nat × Value)} {st : List Value}
theorem z_callV (hX : zD X E M d mc ms Po) {M' : zM} {d' mc' ms' n idx a ci : Nat} {Po' : Option Value → Sg → Prop} {As rest : List Value} {cq : vw_C} (hw : zVw M.1.cls idx M' n) (hM : zCt E M' d' mc' ms' σ (.ref a :: As) Po') (hst : st = As.reverse ++ .ref a :: rest) (hn : As.length = n) (hk : σ.1 a = ci + 1) (hcq : vwCl[ci]? = some cq) (hcl : cq.1 = M'.1.cls) (hd : decode M.2.1 pc = .ok (.invokevirtual idx, 3))
    (hdep : d' + 1 ≤ d) (hL : M'.2.2.1 ≤ 31) (hc : cells + mc' ≤ mc) (hs : slots + ms' ≤ ms) (hrm : (rest.map fun v => v.category).sum ≤ 8) (kk : ∀ (r : Option Value) (σ' : Sg), Po' r σ' → zS X σ' (cells + mc') (slots + ms') (pc + 3) lv (r.toList ++ rest)) : zS X σ cells slots pc lv st := by
  subst hst
  refine z_run (A := #[]) hX (rest := rest) (Po' := Po') (fun v hv => List.mem_append_right _ (List.mem_cons_of_mem _ hv)) ?_ kk
  obtain ⟨p, l, e, R, s, m, args, below, meth, c, Q, G, b0, nL, σ0, ad0⟩ := X
  obtain ⟨⟨hx, hb, hml, hown, hts, hK, hlocks, hb0, hnL, hrt, hnm, hEx⟩, h1, h2, h3, h4, h5⟩ := hX
  subst h1 h2 h3 h4
  intro ad H locs ls b1 b2 b3 b4
  obtain ⟨w1, w2, w3, w4, w5, w6⟩ := hw
  have ok : ∀ {w : Cond}, w ∈ zGW → w.before args s = true := fun h => hts _ (List.mem_cons_of_mem _ h)
  have hl : ∀ v ∈ (.ref a :: As), zlv σ v := fun v hv => by
    rcases List.mem_cons.mp hv with e | hv
    · rw [e]; exact b2 _ (List.mem_append_right _ List.mem_cons_self)
    · exact b2 _ (List.mem_append_left _ (List.mem_reverse.mpr hv))
  have hr := z_recv b1 hK hk hcq
  rw [hcl] at hr
  exact ⟨_, va_runV (As := As.map (ph ad)) (b := ad a) (rest := rest.map (ph ad)) (n := n) (C := M'.1.cls) ⟨hx, hb, hml, hown, hts⟩ (hM ad) ⟨callB_of n hts (z_good w1) rfl rfl rfl (ok w5) (ok w2) w6 ⟨hdep, by show 8 + (M'.2.2.1 + 11) + 50 * d' ≤ 50 * d; omega⟩, ok w3, ok w4⟩
    ⟨zPre_blind, hr, zPre_at b1 hl hK hb0 hEx b3⟩ rfl (by rw [List.length_map]; exact hn) b4 (by show List.map (ph ad) (As.reverse ++ .ref a :: rest) = _; rw [List.map_append, List.map_reverse]; rfl) (lv_room (by rw [z_catm]; exact hrm)) hd ⟨hc, hs⟩⟩
theorem z_callS (hX : zD X E M d mc ms Po) {M' : zM} {d' mc' ms' n idx : Nat} {Po' : Option Value → Sg → Prop} {As rest : List Value} (hw : zSw M.1.cls idx M' n) (hM : zCt E M' d' mc' ms' σ As Po') (hst : st = As.reverse ++ rest) (hn : As.length = n) (hd : decode M.2.1 pc = .ok (.invokestatic idx, 3))
    (hdep : d' + 1 ≤ d) (hL : M'.2.2.1 ≤ 31) (hc : cells + mc' ≤ mc) (hs : slots + ms' ≤ ms) (hrm : (rest.map fun v => v.category).sum ≤ 8) (kk : ∀ (r : Option Value) (σ' : Sg), Po' r σ' → zS X σ' (cells + mc') (slots + ms') (pc + 3) lv (r.toList ++ rest)) : zS X σ cells slots pc lv st := by
  subst hst
  refine z_run (A := #[]) hX (rest := rest) (Po' := Po') (fun v hv => List.mem_append_right _ hv) ?_ kk
  obtain ⟨p, l, e, R, s, m, args, below, meth, c, Q, G, b0, nL, σ0, ad0⟩ := X
  obtain ⟨⟨hx, hb, hml, hown, hts, hK, hlocks, hb0, hnL, hrt, hnm, hEx⟩, h1, h2, h3, h4, h5⟩ := hX
  subst h1 h2 h3 h4
  intro ad H locs ls b1 b2 b3 b4
  obtain ⟨w1, w2, w3, w5, w6⟩ := hw
  have ok : ∀ {w : Cond}, w ∈ zGW → w.before args s = true := fun h => hts _ (List.mem_cons_of_mem _ h)
  have hl : ∀ v ∈ As, zlv σ v := fun v hv => b2 _ (List.mem_append_left _ (List.mem_reverse.mpr hv))
  exact ⟨_, va_runS (As := As.map (ph ad)) (rest := rest.map (ph ad)) (n := n) ⟨hx, hb, hml, hown, hts⟩ (hM ad) ⟨callB_of n hts (z_good w1) rfl rfl rfl (ok w5) (ok w2) w6 ⟨hdep, by show 8 + (M'.2.2.1 + 11) + 50 * d' ≤ 50 * d; omega⟩, ok w3⟩
    ⟨zPre_blind, zPre_at b1 hl hK hb0 hEx b3⟩ rfl (by rw [List.length_map]; exact hn) b4 (by show List.map (ph ad) (As.reverse ++ rest) = _; rw [List.map_append, List.map_reverse]) (lv_room (by rw [z_catm]; exact hrm)) hd ⟨hc, hs⟩⟩
theorem z_callI (hX : zD X E M d mc ms Po) {M' : zM} {d' mc' ms' n idx a : Nat} {Po' : Option Value → Sg → Prop} {As rest : List Value} (hw : zIw M.1.cls idx M' n) (hM : zCt E M' d' mc' ms' σ (.ref a :: As) Po') (hst : st = As.reverse ++ .ref a :: rest) (hn : As.length = n) (hd : decode M.2.1 pc = .ok (.invokespecial idx, 3))
    (hdep : d' + 1 ≤ d) (hL : M'.2.2.1 ≤ 31) (hc : cells + mc' ≤ mc) (hs : slots + ms' ≤ ms) (hrm : (rest.map fun v => v.category).sum ≤ 8) (kk : ∀ (r : Option Value) (σ' : Sg), Po' r σ' → zS X σ' (cells + mc') (slots + ms') (pc + 3) lv (r.toList ++ rest)) : zS X σ cells slots pc lv st := by
  subst hst
  refine z_run (A := #[]) hX (rest := rest) (Po' := Po') (fun v hv => List.mem_append_right _ (List.mem_cons_of_mem _ hv)) ?_ kk
  obtain ⟨p, l, e, R, s, m, args, below, meth, c, Q, G, b0, nL, σ0, ad0⟩ := X
  obtain ⟨⟨hx, hb, hml, hown, hts, hK, hlocks, hb0, hnL, hrt, hnm, hEx⟩, h1, h2, h3, h4, h5⟩ := hX
  subst h1 h2 h3 h4
  intro ad H locs ls b1 b2 b3 b4
  obtain ⟨w1, w2, w3, w4, w4', w5, w6⟩ := hw
  have ok : ∀ {w : Cond}, w ∈ zGW → w.before args s = true := fun h => hts _ (List.mem_cons_of_mem _ h)
  have hl : ∀ v ∈ (.ref a :: As), zlv σ v := fun v hv => by
    rcases List.mem_cons.mp hv with e | hv
    · rw [e]; exact b2 _ (List.mem_append_right _ List.mem_cons_self)
    · exact b2 _ (List.mem_append_left _ (List.mem_reverse.mpr hv))
  have hws : zws M' = Cond.code M'.1 M'.2.1 M'.2.2.1 none :: zGW := by rw [← w4']
  exact ⟨_, va_runI (As := As.map (ph ad)) (b := ad a) (rest := rest.map (ph ad)) (n := n) ⟨hx, hb, hml, hown, hts⟩ (hM ad) ⟨callB_of n hts (z_good w1) hws rfl rfl (ok w5) (ok w2) w6 ⟨hdep, by show 8 + (M'.2.2.1 + 11) + 50 * d' ≤ 50 * d; omega⟩, w4, ok w3⟩
    ⟨zPre_blind, zPre_at b1 hl hK hb0 hEx b3⟩ rfl (by rw [List.length_map]; exact hn) b4 (by show List.map (ph ad) (As.reverse ++ .ref a :: rest) = _; rw [List.map_append, List.map_reverse]; rfl) (lv_room (by rw [z_catm]; exact hrm)) hd ⟨hc, hs⟩⟩
end
