/-! ===== rules with hypotheses, for places that aren't fixed; rows of references; other calls ===== -/
section
variable {X : zX} {E : zE} {M : zM} {d mc ms : Nat} {Po : Option Value → Sg → Prop} {σ : Sg} {cells slots pc : Nat} {lv : List (Nat × Value)} {st : List Value}
theorem z_one (hX : zD X E M d mc ms Po) {lk : zLk} (hlk : zlkOK M.1.cls lk) {ini : Bool} (hini : ini = true → zini M lk) {i : Instr} (hd : decode M.2.1 pc = .ok (i, zlen i)) (h : z1 M.2.2.1 lk ini i σ lv st (fun σ' lv' st' => zS X σ' cells slots (pc + zlen i) lv' st')) : zS X σ cells slots pc lv st := z1_ok hX.1 hlk hini hd (fun _ _ _ h => h) h
theorem z_no (M : zM) (lk : zLk) : false = true → zini M lk := fun h => by cases h
theorem z_gI (hX : zD X E M d mc ms Po) {lk : zLk} (hlk : zlkOK M.1.cls lk) (idx ci j : Nat) {tc : Nat} {fin : Bool} (hz : ∀ k : Nat → Nat → Nat → Bool → Prop, k ci j tc fin → zlkF lk.1 idx k) (ht : tc ≠ 1) {p : Nat} (hk : σ.1 p = ci + 1) (hd : decode M.2.1 pc = .ok (.getfield idx, 3)) (kk : zS X σ cells slots (pc + 3) lv (.int (σ.2.2.1 p j) :: st)) : zS X σ cells slots pc lv (.ref p :: st) := by
  obtain ⟨K, N, I, L, Rf⟩ := σ
  refine z_one hX hlk (z_no M lk) (i := .getfield idx) hd (hz _ ?_)
  show bif Nat.beq (K p) (ci + 1) then _ else False
  rw [show K p = ci + 1 from hk, bq_t]
  show bif Nat.beq tc 1 then _ else _
  rw [bq_f ht]
  exact kk
theorem z_gR (hX : zD X E M d mc ms Po) {lk : zLk} (hlk : zlkOK M.1.cls lk) (idx ci j : Nat) {fin : Bool} (hz : ∀ k : Nat → Nat → Nat → Bool → Prop, k ci j 1 fin → zlkF lk.1 idx k) {p q : Nat} (hk : σ.1 p = ci + 1) (hr : σ.2.2.2.2 p j = some q) (hd : decode M.2.1 pc = .ok (.getfield idx, 3)) (kk : zS X σ cells slots (pc + 3) lv (.ref q :: st)) : zS X σ cells slots pc lv (.ref p :: st) := by
  obtain ⟨K, N, I, L, Rf⟩ := σ
  refine z_one hX hlk (z_no M lk) (i := .getfield idx) hd (hz _ ?_)
  show bif Nat.beq (K p) (ci + 1) then _ else False
  rw [show K p = ci + 1 from hk, bq_t]
  show zop (Rf p j) _ _
  rw [show Rf p j = some q from hr]
  exact kk
theorem z_gN (hX : zD X E M d mc ms Po) {lk : zLk} (hlk : zlkOK M.1.cls lk) (idx ci j : Nat) {fin : Bool} (hz : ∀ k : Nat → Nat → Nat → Bool → Prop, k ci j 1 fin → zlkF lk.1 idx k) {p : Nat} (hk : σ.1 p = ci + 1) (hr : σ.2.2.2.2 p j = none) (hd : decode M.2.1 pc = .ok (.getfield idx, 3)) (kk : zS X σ cells slots (pc + 3) lv (.null :: st)) : zS X σ cells slots pc lv (.ref p :: st) := by
  obtain ⟨K, N, I, L, Rf⟩ := σ
  refine z_one hX hlk (z_no M lk) (i := .getfield idx) hd (hz _ ?_)
  show bif Nat.beq (K p) (ci + 1) then _ else False
  rw [show K p = ci + 1 from hk, bq_t]
  show zop (Rf p j) _ _
  rw [show Rf p j = none from hr]
  exact kk
theorem z_pI (hX : zD X E M d mc ms Po) {lk : zLk} (hlk : zlkOK M.1.cls lk) {ini : Bool} (hini : ini = true → zini M lk) (idx ci j : Nat) {fin : Bool} (hz : ∀ k : Nat → Nat → Nat → Bool → Prop, k ci j 0 fin → zlkF lk.1 idx k) (hf : (fin && !ini) = false) {p : Nat} {x : Int32} (hk : σ.1 p = ci + 1) (hd : decode M.2.1 pc = .ok (.putfield idx, 3)) (kk : zS X (σ.1, σ.2.1, up2 σ.2.2.1 p j x, σ.2.2.2.1, σ.2.2.2.2) cells slots (pc + 3) lv st) : zS X σ cells slots pc lv (.int x :: .ref p :: st) := by
  obtain ⟨K, N, I, L, Rf⟩ := σ
  refine z_one hX hlk hini (i := .putfield idx) hd (hz _ ?_)
  show bif fin && !ini then False else _
  rw [hf]
  show bif Nat.beq (K p) (ci + 1) then _ else False
  rw [show K p = ci + 1 from hk, bq_t]
  exact kk
theorem z_pR (hX : zD X E M d mc ms Po) {lk : zLk} (hlk : zlkOK M.1.cls lk) {ini : Bool} (hini : ini = true → zini M lk) (idx ci j : Nat) {fin : Bool} (hz : ∀ k : Nat → Nat → Nat → Bool → Prop, k ci j 1 fin → zlkF lk.1 idx k) (hf : (fin && !ini) = false) {p q : Nat} (hk : σ.1 p = ci + 1) (hd : decode M.2.1 pc = .ok (.putfield idx, 3)) (kk : zS X (σ.1, σ.2.1, σ.2.2.1, σ.2.2.2.1, up2 σ.2.2.2.2 p j (some q)) cells slots (pc + 3) lv st) : zS X σ cells slots pc lv (.ref q :: .ref p :: st) := by
  obtain ⟨K, N, I, L, Rf⟩ := σ
  refine z_one hX hlk hini (i := .putfield idx) hd (hz _ ?_)
  show bif fin && !ini then False else _
  rw [hf]
  show bif Nat.beq (K p) (ci + 1) then _ else False
  rw [show K p = ci + 1 from hk, bq_t]
  exact kk
theorem z_iald (hX : zD X E M d mc ms Po) {lk : zLk} (hlk : zlkOK M.1.cls lk) {p : Nat} {i : Int32} (hk : σ.1 p = 22) (hn : vp_in i (σ.2.1 p)) (hd : decode M.2.1 pc = .ok (.iaload, 1)) (kk : zS X σ cells slots (pc + 1) lv (.int (σ.2.2.1 p i.toNatClampNeg) :: st)) : zS X σ cells slots pc lv (.int i :: .ref p :: st) := by
  obtain ⟨K, N, I, L, Rf⟩ := σ
  refine z_one hX hlk (z_no M lk) (i := .iaload) hd ?_
  show bif Nat.beq (K p) 22 then _ else False
  rw [show K p = 22 from hk]
  exact ⟨hn, kk⟩
theorem z_cald (hX : zD X E M d mc ms Po) {lk : zLk} (hlk : zlkOK M.1.cls lk) {p : Nat} {i : Int32} (hk : σ.1 p = 21) (hn : vp_in i (σ.2.1 p)) (hd : decode M.2.1 pc = .ok (.caload, 1)) (kk : zS X σ cells slots (pc + 1) lv (.int (σ.2.2.1 p i.toNatClampNeg) :: st)) : zS X σ cells slots pc lv (.int i :: .ref p :: st) := by
  obtain ⟨K, N, I, L, Rf⟩ := σ
  refine z_one hX hlk (z_no M lk) (i := .caload) hd ?_
  show bif Nat.beq (K p) 21 then _ else False
  rw [show K p = 21 from hk]
  exact ⟨hn, kk⟩
theorem z_iast (hX : zD X E M d mc ms Po) {lk : zLk} (hlk : zlkOK M.1.cls lk) {p : Nat} {i x : Int32} (hk : σ.1 p = 22) (hn : vp_in i (σ.2.1 p)) (hd : decode M.2.1 pc = .ok (.iastore, 1)) (kk : zS X (σ.1, σ.2.1, up2 σ.2.2.1 p i.toNatClampNeg x, σ.2.2.2.1, σ.2.2.2.2) cells slots (pc + 1) lv st) : zS X σ cells slots pc lv (.int x :: .int i :: .ref p :: st) := by
  obtain ⟨K, N, I, L, Rf⟩ := σ
  refine z_one hX hlk (z_no M lk) (i := .iastore) hd ?_
  show bif Nat.beq (K p) 22 then _ else False
  rw [show K p = 22 from hk]
  exact ⟨hn, kk⟩
theorem z_alen (hX : zD X E M d mc ms Po) {lk : zLk} (hlk : zlkOK M.1.cls lk) {p : Nat} (hk : 20 ≤ σ.1 p ∧ σ.1 p ≤ 25) (hd : decode M.2.1 pc = .ok (.arraylength, 1)) (kk : zS X σ cells slots (pc + 1) lv (.int (nI (σ.2.1 p)) :: st)) : zS X σ cells slots pc lv (.ref p :: st) := by
  obtain ⟨K, N, I, L, Rf⟩ := σ
  refine z_one hX hlk (z_no M lk) (i := .arraylength) hd ?_
  show bif Nat.ble 20 (K p) && Nat.ble (K p) 25 then _ else False
  rw [Nat.ble_eq_true_of_le hk.1, Nat.ble_eq_true_of_le hk.2]
  exact kk
theorem z_aald (hX : zD X E M d mc ms Po) {p q : Nat} {i : Int32} (hk : σ.1 p = 25) (hn : vp_in i (σ.2.1 p)) (hq : σ.2.2.2.2 p i.toNatClampNeg = some q) (hd : decode M.2.1 pc = .ok (.aaload, 1)) (kk : zS X σ cells slots (pc + 1) lv (.ref q :: st)) : zS X σ cells slots pc lv (.int i :: .ref p :: st) := by
  obtain ⟨p0, l, e, R, s, m, args, below, meth, c, Q, G, b0, nL, σ0, ad0⟩ := X
  obtain ⟨⟨hx, hb, hml, hown, hts, hK, hlocks, hb0, hnL, hrt, hnm, hEx⟩, -⟩ := hX
  intro ad H locs ls a1 a2 a3 a4 a5 a6
  have hlive := a2.2.2.1 p _ q (by rw [hk]; decide) hq
  obtain ⟨h1, h2, h3⟩ := zg_arr hK a2 (t := 5) (by decide) hk
  have hlt : i.toNatClampNeg < σ.2.1 p := Nat.not_le.mp fun q => hn (Or.inr q)
  refine W.aald (v := .ref (ad q)) (ty := .object "PunchedSouls$Hand") hx hb h2 h3 rfl (fun q => by cases q) (by show ¬ (i < 0 ∨ (arrV _ _ _).slots.size ≤ _); rw [arrV_size]; exact hn) (by show (arrV _ _ _).slots[_]? = _; rw [arrV_read _ _ hlt]; simp [zel, hq, va_rf]) rfl rfl hd ?_
  exact kk ad H locs ls a1 a2 a3 (zl_c (fun z e => by cases e; exact hlive) (zl_t (zl_t a4))) a5 a6
theorem z_aaldN (hX : zD X E M d mc ms Po) {p : Nat} {i : Int32} (hk : σ.1 p = 25) (hn : vp_in i (σ.2.1 p)) (hq : σ.2.2.2.2 p i.toNatClampNeg = none) (hd : decode M.2.1 pc = .ok (.aaload, 1)) (kk : zS X σ cells slots (pc + 1) lv (.null :: st)) : zS X σ cells slots pc lv (.int i :: .ref p :: st) := by
  obtain ⟨p0, l, e, R, s, m, args, below, meth, c, Q, G, b0, nL, σ0, ad0⟩ := X
  obtain ⟨⟨hx, hb, hml, hown, hts, hK, hlocks, hb0, hnL, hrt, hnm, hEx⟩, -⟩ := hX
  intro ad H locs ls a1 a2 a3 a4 a5 a6
  obtain ⟨h1, h2, h3⟩ := zg_arr hK a2 (t := 5) (by decide) hk
  have hlt : i.toNatClampNeg < σ.2.1 p := Nat.not_le.mp fun q => hn (Or.inr q)
  refine W.aald (v := .null) (ty := .object "PunchedSouls$Hand") hx hb h2 h3 rfl (fun q => by cases q) (by show ¬ (i < 0 ∨ (arrV _ _ _).slots.size ≤ _); rw [arrV_size]; exact hn) (by show (arrV _ _ _).slots[_]? = _; rw [arrV_read _ _ hlt]; simp [zel, hq, va_rf]) rfl rfl hd ?_
  exact kk ad H locs ls a1 a2 a3 (zl_n (zl_t (zl_t a4))) a5 a6
theorem z_ifnonN (hX : zD X E M d mc ms Po) {off : Int} (hd : decode M.2.1 pc = .ok (.ifnonnull off, 3)) (k : zS X σ cells slots (pc + 3) lv st) : zS X σ cells slots pc lv (.null :: st) := by
  obtain ⟨p, l, e, R, s, m, args, below, meth, c, Q, G, b0, nL, σ0, ad0⟩ := X
  obtain ⟨⟨hx, hb, hml, hown, hts, hK, hlocks, hb0, hnL, hrt, hnm, hEx⟩, -⟩ := hX
  intro ad H locs ls a1 a2 a3 a4 a5 a6
  exact lv_ifnonnullN hx hb hd (k ad H locs ls a1 a2 a3 (zl_t a4) a5 a6)
theorem z_ifnon (hX : zD X E M d mc ms Po) {off : Int} {q : Nat} (tgt : Nat) (hd : decode M.2.1 pc = .ok (.ifnonnull off, 3)) (ht : (pc : Int) + off = (tgt : Int)) (k : zS X σ cells slots tgt lv st) : zS X σ cells slots pc lv (.ref q :: st) := by
  obtain ⟨p, l, e, R, s, m, args, below, meth, c, Q, G, b0, nL, σ0, ad0⟩ := X
  obtain ⟨⟨hx, hb, hml, hown, hts, hK, hlocks, hb0, hnL, hrt, hnm, hEx⟩, -⟩ := hX
  intro ad H locs ls a1 a2 a3 a4 a5 a6
  exact lv_ifnonnull hx hb hd ht (k ad H locs ls a1 a2 a3 (zl_t a4) a5 a6)
theorem z_ifnulN (hX : zD X E M d mc ms Po) {off : Int} (tgt : Nat) (hd : decode M.2.1 pc = .ok (.ifnull off, 3)) (ht : (pc : Int) + off = (tgt : Int)) (k : zS X σ cells slots tgt lv st) : zS X σ cells slots pc lv (.null :: st) := by
  obtain ⟨p, l, e, R, s, m, args, below, meth, c, Q, G, b0, nL, σ0, ad0⟩ := X
  obtain ⟨⟨hx, hb, hml, hown, hts, hK, hlocks, hb0, hnL, hrt, hnm, hEx⟩, -⟩ := hX
  intro ad H locs ls a1 a2 a3 a4 a5 a6
  exact lv_ifnullN hx hb hd ht (k ad H locs ls a1 a2 a3 (zl_t a4) a5 a6)
theorem z_ifnul (hX : zD X E M d mc ms Po) {off : Int} {q : Nat} (hd : decode M.2.1 pc = .ok (.ifnull off, 3)) (k : zS X σ cells slots (pc + 3) lv st) : zS X σ cells slots pc lv (.ref q :: st) := by
  obtain ⟨p, l, e, R, s, m, args, below, meth, c, Q, G, b0, nL, σ0, ad0⟩ := X
  obtain ⟨⟨hx, hb, hml, hown, hts, hK, hlocks, hb0, hnL, hrt, hnm, hEx⟩, -⟩ := hX
  intro ad H locs ls a1 a2 a3 a4 a5 a6
  exact lv_ifnull hx hb hd (k ad H locs ls a1 a2 a3 (zl_t a4) a5 a6)
theorem z_iushr (hX : zD X E M d mc ms Po) {x y : Int32} (hd : decode M.2.1 pc = .ok (.iushr, 1)) (k : zS X σ cells slots (pc + 1) lv (.int ((x.toUInt32 >>> (y.toUInt32 &&& Int32.toUInt32 31)).toInt32) :: st)) : zS X σ cells slots pc lv (.int y :: .int x :: st) := by
  obtain ⟨p, l, e, R, s, m, args, below, meth, c, Q, G, b0, nL, σ0, ad0⟩ := X
  obtain ⟨⟨hx, hb, hml, hown, hts, hK, hlocks, hb0, hnL, hrt, hnm, hEx⟩, -⟩ := hX
  intro ad H locs ls a1 a2 a3 a4 a5 a6
  exact lv_iushr hx hb hd rfl (k ad H locs ls a1 a2 a3 (zl_i (zl_t (zl_t a4))) a5 a6)
theorem z_ldcw (hX : zD X E M d mc ms Po) {idx : Nat} {v : Int32} (hw : Cond.constant M.1.cls idx v ∈ zGW) (hd : decode M.2.1 pc = .ok (.ldc_w idx, 3)) (k : zS X σ cells slots (pc + 3) lv (.int v :: st)) : zS X σ cells slots pc lv st := by
  obtain ⟨p, l, e, R, s, m, args, below, meth, c, Q, G, b0, nL, σ0, ad0⟩ := X
  obtain ⟨⟨hx, hb, hml, hown, hts, hK, hlocks, hb0, hnL, hrt, hnm, hEx⟩, -⟩ := hX
  intro ad H locs ls a1 a2 a3 a4 a5 a6
  exact lv_ldcw hx hb hown (hts _ (List.mem_cons_of_mem _ hw)) hd (k ad H locs ls a1 a2 a3 (zl_i a4) a5 a6)
theorem z_obj (hX : zD X E M d mc ms Po) {idx a : Nat} (hw : Cond.methodLink M.1.cls idx Lib.objectInit ∈ zGW ∧ Cond.instanceMethod Lib.objectInit ∈ zGW ∧ Cond.code Lib.objectInit ⟨#[0xb1]⟩ 1 none ∈ zGW) (hd : decode M.2.1 pc = .ok (.invokespecial idx, 3)) (h1 : 1 ≤ d) (hrm : (st.map fun v => v.category).sum ≤ 8) (hc : cells ≤ mc) (hs : slots ≤ ms) (k : zS X σ cells slots (pc + 3) lv st) : zS X σ cells slots pc lv (.ref a :: st) := by
  obtain ⟨p, l, e, R, s, m, args, below, meth, c, Q, G, b0, nL, σ0, ad0⟩ := X
  obtain ⟨⟨hx, hb, hml, hown, hts, hK, hlocks, hb0, hnL, hrt, hnm, hEx⟩, q1, q2, q3, q4, q5⟩ := hX
  subst q1 q2 q3 q4
  intro ad H locs ls a1 a2 a3 a4 a5 a6
  have ok : ∀ {w : Cond}, w ∈ zGW → w.before args s = true := fun h => hts _ (List.mem_cons_of_mem _ h)
  have hcat : ((st.map (ph ad)).map fun v => v.category).sum ≤ 8 := by rw [z_catm]; exact hrm
  exact W.objInit hx hb hown (ok hw.1) (ok hw.2.1) (ok hw.2.2) rfl (a6.1.trans hml.symm) rfl hd h1 (by show 2 * 0 + _ + 12 ≤ 50 * d; omega) (k ad H locs ls a1 a2 a3 (zl_t a4) a5 a6)
end
