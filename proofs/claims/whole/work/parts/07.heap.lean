def zini (M : zM) (lk : zLk) : Prop := M.1.name = "<init>" ∧ ∀ q ∈ lk.1, ∀ c : vw_C, vwCl[q.2.1]? = some c → (c.2.1 q.2.2.1).1 = M.1.cls
section
variable {p : Program} {l : Launch} {e : Env} {R : Room} {s : State} {m : MethodId} {args : Array Value} {below : List Frame} {meth : Method} {c : Code} {Q : State → Prop} {G : zG} {b0 nL : Nat} {σ0 : Sg} {ad0 : Nat → Nat} {M : zM} {pc : Nat} {H : Heap} {locs : List Loc} {cells slots : Nat} {ls : Array Slot} {rest : List Value} {ad : Nat → Nat} {σ : Sg}
theorem zg_same {q : Nat × Nat × Nat × Nat × Bool} {cq : vw_C} {rf : String} (hts : ∀ w ∈ zws M, w.before args s = true) (h : rf = (cq.2.1 q.2.2.1).1 ∨ Cond.sameField rf (cq.2.1 q.2.2.1).1 (cq.2.1 q.2.2.1).2.1 (cq.2.1 q.2.2.1).2.2.1 ∈ zGW) : ∀ x, s.fieldFound? (cq.2.1 q.2.2.1).1 (cq.2.1 q.2.2.1).2.1 (cq.2.1 q.2.2.1).2.2.1 = some x → s.fieldFound? rf (cq.2.1 q.2.2.1).2.1 (cq.2.1 q.2.2.1).2.2.1 = some x := by
  intro x hx
  rcases h with h | h
  · rw [h]; exact hx
  · exact u_same (hts _ (List.mem_cons_of_mem _ h)) x hx
/-- getfield -/
theorem zg_get (hx : p.tables.exec = Jvm.exec) (hb : c.code = M.2.1) (hown : s.vm.findClass M.1.cls = some m.cls) (hts : ∀ w ∈ zws M, w.before args s = true) (hK : zK G s) {q : Nat × Nat × Nat × Nat × Bool} (hq : zFe M.1.cls q) (hR : zRl G b0 ad σ H) {a : Nat} (ha : σ.1 a = q.2.1 + 1) (hd : decode M.2.1 pc = .ok (.getfield q.1, 3))
    (kk : W p l e R s m args below meth c H locs cells slots Q (F0 m (pc + 3) ls (zfv ad σ q.2.1 a q.2.2.1 :: rest))) : W p l e R s m args below meth c H locs cells slots Q (F0 m pc ls (.ref (ad a) :: rest)) := by
  obtain ⟨cq, rf, hc, hk, hlink, hsame, -⟩ := hq
  obtain ⟨hS, hfc, kC, hkC, hkind⟩ := hK.1 q.2.1 cq hc
  obtain ⟨cf, kf, fi, f, hi, hsl⟩ := hS q.2.2.1 hk
  obtain ⟨cell, q1, q2, q3, q4⟩ := ((hR.1 a (by rw [ha]; exact Nat.succ_ne_zero _)).2 (by rw [ha]; have := zcl_lt hc; omega)).2.1 q.2.1 cq ha hc
  refine W.getf hx hb hown (hts _ (List.mem_cons_of_mem _ hlink)) (zg_same hts hsame _ hi) (u_facts hfc hkC (u_lays hts (fun w h => List.mem_cons_of_mem _ (zin hc w h)) hk) hi).1 q1 (by rw [q3]; exact fun h => by cases h) (v := zfv ad σ q.2.1 a q.2.2.1) ?_ rfl rfl hd kk
  rw [hsl]
  exact q4 q.2.2.1 hk
theorem zg_apart (hts : ∀ w ∈ zws M, w.before args s = true) (hK : zK G s) {ci : Nat} {cq : vw_C} (hc : vwCl[ci]? = some cq) : ∀ x y, x < cq.2.2 → y < cq.2.2 → x ≠ y → (G.2.1 ci) x ≠ (G.2.1 ci) y := by
  intro x y hx hy hne
  obtain ⟨hS, -⟩ := hK.1 ci _ hc
  obtain ⟨_, _, _, fa, hia, ea⟩ := hS x hx
  obtain ⟨_, _, _, fb, hib, eb⟩ := hS y hy
  rw [← ea, ← eb]
  have hin : ∀ w ∈ u_ws cq.1 cq.2.1 cq.2.2, w ∈ zws M := fun w h => List.mem_cons_of_mem _ (zin hc w h)
  refine u_apart (u_lays hts hin hx) (u_lays hts hin hy) hia hib ?_
  rw [(State.fieldFound?_type hia (zty_ok hc x hx)).1, (State.fieldFound?_type hib (zty_ok hc y hy)).1]
  exact znm hc x hx y hy hne
/-- putfield, to a picture that has the value there -/
theorem zg_put (hx : p.tables.exec = Jvm.exec) (hb : c.code = M.2.1) (hown : s.vm.findClass M.1.cls = some m.cls) (hts : ∀ w ∈ zws M, w.before args s = true) (hK : zK G s) {q : Nat × Nat × Nat × Nat × Bool} (hq : zFe M.1.cls q) (hR : zRl G b0 ad σ H) {a : Nat} (ha : σ.1 a = q.2.1 + 1) {σ' : Sg} {v : Value}
    (hfin : q.2.2.2.2 = true → meth.name = "<init>" ∧ ∀ cq : vw_C, vwCl[q.2.1]? = some cq → (cq.2.1 q.2.2.1).1 = M.1.cls) (hn : narrow (zty q.2.1 q.2.2.1) v = v) (hfit : fits (zty q.2.1 q.2.2.1) v = true) (hS0 : va_S (fun q => b0 ≤ q) s.heap H locs)
    (eK : σ'.1 = σ.1) (eN : σ'.2.1 = σ.2.1) (e3 : ∀ q, q ≠ a → σ'.2.2.1 q = σ.2.2.1 q) (e4 : ∀ q, q ≠ a → σ'.2.2.2.1 q = σ.2.2.2.1 q) (e5 : ∀ q, q ≠ a → σ'.2.2.2.2 q = σ.2.2.2.2 q) (hval : ∀ j, updV (zfv ad σ q.2.1 a) q.2.2.1 v j = zfv ad σ' q.2.1 a j) (hRf : ∀ k q, σ'.2.2.2.2 a k = some q → σ.1 q ≠ 0) (hd : decode M.2.1 pc = .ok (.putfield q.1, 3))
    (kk : ∀ (H1 : Heap) (locs1 : List Loc), zRl G b0 ad σ' H1 → va_S (fun q => b0 ≤ q) s.heap H1 locs1 → W p l e R s m args below meth c H1 locs1 cells slots Q (F0 m (pc + 3) ls rest)) : W p l e R s m args below meth c H locs cells slots Q (F0 m pc ls (v :: .ref (ad a) :: rest)) := by
  obtain ⟨cq, rf, hc, hk, hlink, hsame, hfl, -⟩ := hq
  have hap := zg_apart hts hK hc
  obtain ⟨hS, hfc, kC, hkC, hkind⟩ := hK.1 q.2.1 cq hc
  obtain ⟨cf, kf, fi, f, hi, hsl⟩ := hS q.2.2.1 hk
  have ha0 : σ.1 a ≠ 0 := by rw [ha]; exact Nat.succ_ne_zero _
  have ha3 : σ.1 a < 30 := by rw [ha]; have := zcl_lt hc; omega
  obtain ⟨hb1, hok, -⟩ := (hR.1 a ha0).2 ha3
  obtain ⟨cell, q1, q2, q3, q4⟩ := hok q.2.1 cq ha hc
  have hin : ∀ w ∈ u_ws cq.1 cq.2.1 cq.2.2, w ∈ zws M := fun w h => List.mem_cons_of_mem _ (zin hc w h)
  have hlay := hts _ (hin _ (u_in_lay hk))
  have hst := (u_facts hfc hkC (u_lays hts hin hk) hi).1
  have hlk := hts _ (List.mem_cons_of_mem _ hlink)
  have goal : ∀ H' : Heap, H'[ad a]? = some (cell.setSlot f.slot v) → H'.size = H.size → (∀ q, q ≠ ad a → H'[q]? = H[q]?) → W p l e R s m args below meth c H' (locs ++ [⟨ad a, f.slot⟩]) cells slots Q (F0 m (pc + 3) ls rest) := by
    intro H' e1 e2 e3'
    refine kk H' _ (zRl_put hR ha0 ha3 eK eN e3 e4 e5 e2 e3' ⟨fun ci cq' h1 h2 => ?_, fun t ht h1 => ?_⟩ hRf) (hS0.put e2 e3' hb1)
    · rw [eK] at h1
      have : ci = q.2.1 := by rw [ha] at h1; omega
      subst this
      cases hc.symm.trans h2
      rw [hsl] at e1
      exact (t_OB.to (V := updV (zfv ad σ q.2.1 a) q.2.2.1 v) ⟨_, e1, q2, q3, t_set q4 hap hk v⟩ (fun j _ => hval j))
    · rw [eK] at h1
      have := zcl_lt hc
      omega
  unfold u_lay at hlay
  by_cases hf : (cq.2.1 q.2.2.1).2.2.2 = true
  · rw [if_pos hf] at hlay
    obtain ⟨hnm, hdecl⟩ := hfin (by rw [← hfl]; exact hf)
    have hcf : m.cls = cf := by
      obtain ⟨_, _, c', _, _, _, -, -, hf', -, -, -, hown2, -⟩ := Cond.laysFinal_spec hlay
      have e1 : c' = cf := by have := hi.symm.trans hf'; simp at this; exact this.1.symm
      rw [hdecl cq hc] at hown2
      rw [← e1]; exact Option.some.inj (hown.symm.trans hown2)
    have h6 := u_fits hfc hkC hkind (Or.inr hlay) hi (zty_ok hc _ hk) hn hfit
    exact W.putFinK hx hb hown hlk (zg_same hts hsame _ hi) hst hcf hnm (by rw [q2]; exact h6) q1 q3 (by rw [hsl]; exact k2_hasslot (q4 q.2.2.1 hk)) rfl rfl hd goal
  · rw [if_neg hf] at hlay
    have h6 := u_store hfc hkC hkind hlay hi (zty_ok hc _ hk) hn hfit
    exact W.putK hx hb (f := f) ⟨hown, hlk, ⟨_, _, _, zg_same hts hsame _ hi⟩, hst⟩ (by rw [q2]; exact h6) q1 q3 (by rw [hsl]; exact k2_hasslot (q4 q.2.2.1 hk)) rfl rfl hd goal
theorem zg_arr (hK : zK G s) (hR : zRl G b0 ad σ H) {a t : Nat} (ht : t < 6) (ha : σ.1 a = 20 + t) : b0 ≤ ad a ∧ H[ad a]? = some (arrV (G.2.2.1 t) (σ.2.1 a) (zel ad σ t a)) ∧ s.isArrayOf (arrV (G.2.2.1 t) (σ.2.1 a) (zel ad σ t a)) (zat t) := by
  obtain ⟨h1, h3⟩ := (hR.1 a (by omega)).2 (by omega)
  exact ⟨h1, h3.2 t ht ha, (hK.2.1 t ht).1 _ _⟩
theorem zg_arrput (hR : zRl G b0 ad σ H) {a t j : Nat} (ht : t < 6) (ha : σ.1 a = 20 + t) {σ' : Sg} {v : Value} {H' : Heap} (hS0 : va_S (fun q => b0 ≤ q) s.heap H locs)
    (eK : σ'.1 = σ.1) (eN : σ'.2.1 = σ.2.1) (e3 : ∀ q, q ≠ a → σ'.2.2.1 q = σ.2.2.1 q) (e4 : ∀ q, q ≠ a → σ'.2.2.2.1 q = σ.2.2.2.1 q) (e5 : ∀ q, q ≠ a → σ'.2.2.2.2 q = σ.2.2.2.2 q) (hval : ∀ i, updV (zel ad σ t a) j v i = zel ad σ' t a i) (hRf : ∀ k q, σ'.2.2.2.2 a k = some q → σ.1 q ≠ 0)
    (e1 : H'[ad a]? = some ((arrV (G.2.2.1 t) (σ.2.1 a) (zel ad σ t a)).setSlot j v)) (e2 : H'.size = H.size) (e3' : ∀ q, q ≠ ad a → H'[q]? = H[q]?) : zRl G b0 ad σ' H' ∧ va_S (fun q => b0 ≤ q) s.heap H' (locs ++ [⟨ad a, j⟩]) := by
  have ha0 : σ.1 a ≠ 0 := by omega
  have ha3 : σ.1 a < 30 := by omega
  refine ⟨zRl_put hR ha0 ha3 eK eN e3 e4 e5 e2 e3' ⟨fun ci cq' h1 h2 => ?_, fun t' ht' h1 => ?_⟩ hRf, hS0.put e2 e3' ((hR.1 a ha0).2 ha3).1⟩
  · rw [eK] at h1
    have := zcl_lt h2
    omega
  · rw [eK] at h1
    have : t' = t := by omega
    subst this
    rw [e1, eN, arrV_store]
    congr 2
    funext i
    exact hval i
end
