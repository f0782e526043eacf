/-! ===== a private method of a superclass; an index that is looked at ===== -/
theorem z_selPriv {y : MethodName} {C : String} {s : State} {args : Array Value} {n : Nat} (hy : y.cls ≠ "java/lang/invoke/MethodHandle" ∧ y.cls ≠ "java/lang/invoke/VarHandle") (hins : (Cond.instantiable C n).before args s = true) (hpriv : (Cond.privateMethod y).before args s = true) (hinst : (Cond.instanceMethod y).before args s = true) (hsame : (Cond.sameMethod y.cls y.cls y.name y.desc).before args s = true) : (Cond.selects C y y).before args s = true := by
  obtain ⟨c, k, hc, hk, -, -, -, -⟩ := Cond.instantiable_spec hins
  obtain ⟨mk, methM, hnamed, hmethM, -, -⟩ := Cond.instanceMethod_spec hinst
  obtain ⟨cn, ck, r1, hcn, hck, hni, hf, hn1⟩ := Cond.sameMethod_found hsame
  have hfound : s.methodFound? y.cls y.name y.desc = some mk := State.methodFound?_of_named hnamed hy
  have hcls : mk.cls = cn := Option.some.inj ((findClass_of_methodNamed hnamed).symm.trans hcn)
  have hsel : selectMethod {} s.vm c mk = .method mk := selectMethod_private hmethM (Cond.privateMethod_at hpriv mk methM hnamed hmethM)
  simp only [Cond.before, Cond.holds, Cond.value, hc, hfound, hnamed, hsel, hcls, hck]
  simp; exact hni
def zPw (own : String) (idx : Nat) (C : String) (M : zM) (n : Nat) : Prop := Cond.code M.1 M.2.1 M.2.2.1 M.2.2.2 ∈ zGW ∧ Cond.methodLink own idx M.1 ∈ zGW ∧ Cond.instanceMethod M.1 ∈ zGW ∧ Cond.selects C M.1 M.1 ∈ zGW ∧ Cond.initialized M.1.cls ∈ zGW ∧
  (M.1.cls ≠ "java/lang/invoke/MethodHandle" ∧ M.1.cls ≠ "java/lang/invoke/VarHandle" ∧ (parseMethodDescriptor M.1.desc).map (fun d => d.parameters.length) = some n)
def zPreV (G : zG) (b0 : Nat) (ad : Nat → Nat) (σ : Sg) (cv : List Value) : Array Value → State → Prop := fun a U => a = cv.toArray ∧ zRl G b0 ad σ U.heap ∧ zK G U ∧ b0 ≤ U.heap.size ∧ zEx G b0 U U.heap
theorem zPreV_blind {G : zG} {b0 : Nat} {ad : Nat → Nat} {σ : Sg} {cv : List Value} : FrameBlind (zPreV G b0 ad σ cv) := fun a U g mk h => ⟨h.1, h.2.1, zK.vm (s := U) rfl h.2.2.1, h.2.2.2.1, zEx.vm (s := U) rfl h.2.2.2.2⟩
/-- a method whose third argument is only carried -/
theorem z_introV {E : zE} {M : zM} {d mc ms : Nat} {σ : Sg} {i j : Int32} {v : Value} {Po : Option Value → Sg → Prop} (hv : v.category = 1) (hy : plainName M.1.cls = true) (hn : M.2.2.1 = 3) (body : ∀ X : zX, zD X E M d mc ms Po → zS X σ 0 0 0 [(0, .int i), (1, .int j)] []) (ad : Nat → Nat) : Met E.1 M.1 (zws M) (zrm d mc ms) (zPreV E.2.1 E.2.2 ad σ [.int i, .int j, v]) (zPo E.2.1 E.2.2 ad σ Po) mc ms (fun q => E.2.2 ≤ q) := by
  refine Met.ofW (cc := M.2.1) (maxL := M.2.2.1) (ret := M.2.2.2) (ws' := zGW) hy rfl ?_
  intro p e s m args below meth c s₁ B hml hv'
  obtain ⟨rfl, hR, hK, hb0, hEx⟩ := hv'
  have h := body (p, E.1, e, (headSpec (zws M) (zrm d mc ms)).room, s, m, ([.int i, .int j, v] : List Value).toArray, below, meth, c, MQ below (zPo E.2.1 E.2.2 ad σ Po) ([.int i, .int j, v] : List Value).toArray s mc ms (fun q => E.2.2 ≤ q), E.2.1, E.2.2, M.2.2.1, σ, ad)
    ⟨⟨B.exec, B.bytes, hml, findClass_of_methodNamed B.named, atoms_spec (ws := zws M) B.pre, hK, B.notSynchronized, hb0, rfl, B.returns, (name_of_methodNamed B.named B.method).1, hEx⟩, rfl, rfl, rfl, rfl, rfl⟩
  have hls : (lg_sl [.int i, .int j, v]).length = 3 := by
    show (([Slot.val (.int i)] ++ ([Slot.val (.int j)] ++ ((if v.category = 2 then [Slot.val v, .second] else [Slot.val v]) ++ [])) : List Slot)).length = 3
    rw [if_neg (by rw [hv]; decide)]
    rfl
  have hent := lv_entry [.int i, .int j, v] (n := M.2.2.1) (by rw [hls, hn]; decide)
  rw [lg_entry_eq]
  refine h ad s.heap [] _ (fun q _ => ⟨rfl, rfl⟩) hR (fun x hx => ?_) (fun v hv => by cases hv) va_S.rf ⟨hent.1, hent.2.1, fun q hq => hent.2.2 q ?_⟩
  · simp only [List.mem_cons, List.not_mem_nil, or_false] at hx
    rcases hx with rfl | rfl <;> exact fun q z => by cases z
  · simp only [List.map_cons, List.map_nil, List.mem_cons, List.not_mem_nil, or_false] at hq
    rcases hq with rfl | rfl
    · exact List.mem_cons_self
    · exact List.mem_cons_of_mem _ List.mem_cons_self
section
variable {X : zX} {E : zE} {M : zM} {d mc ms : Nat} {Po : Option Value → Sg → Prop} {σ : Sg} {cells slots pc : Nat} {lv : List (Nat × Value)} {st : List Value}
theorem z_callP (hX : zD X E M d mc ms Po) {M' : zM} {d' mc' ms' n idx a ci : Nat} {Po' : Option Value → Sg → Prop} {As rest : List Value} {cq : vw_C} {C : String} (hw : zPw M.1.cls idx C M' n) (hM : zCt E M' d' mc' ms' σ (.ref a :: As) Po') (hst : st = As.reverse ++ .ref a :: rest) (hn : As.length = n) (hk : σ.1 a = ci + 1) (hcq : vwCl[ci]? = some cq) (hC : cq.1 = C) (hd : decode M.2.1 pc = .ok (.invokevirtual idx, 3))
    (hdep : d' + 1 ≤ d) (hL : M'.2.2.1 ≤ 31) (hc : cells + mc' ≤ mc) (hs : slots + ms' ≤ ms) (hrm : (rest.map fun v => v.category).sum ≤ 8) (kk : ∀ (r : Option Value) (σ' : Sg), Po' r σ' → zS X σ' (cells + mc') (slots + ms') (pc + 3) lv (r.toList ++ rest)) : zS X σ cells slots pc lv st := by
  subst hC
  subst hst
  refine z_run (A := #[]) hX (rest := rest) (Po' := Po') (fun v hv => List.mem_append_right _ (List.mem_cons_of_mem _ hv)) ?_ kk
  obtain ⟨p, l, e, R, s, m, args, below, meth, c, Q, G, b0, nL, σ0, ad0⟩ := X
  obtain ⟨⟨hx, hb, hml, hown, hts, hK, hlocks, hb0, hnL, hrt, hnm, hEx⟩, h1, h2, h3, h4, h5⟩ := hX
  subst h1 h2 h3 h4
  intro ad H locs ls b1 b2 b3 b4
  obtain ⟨w1, w2, w3, w4, w5, w8⟩ := hw
  have ok : ∀ {w : Cond}, w ∈ zGW → w.before args s = true := fun h => hts _ (List.mem_cons_of_mem _ h)
  have hl : ∀ v ∈ (.ref a :: As), zlv σ v := fun v hv => by
    rcases List.mem_cons.mp hv with e | hv
    · rw [e]; exact b2 _ (List.mem_append_right _ List.mem_cons_self)
    · exact b2 _ (List.mem_append_left _ (List.mem_reverse.mpr hv))
  have hr := z_recv b1 hK hk hcq
  have hsel := ok w4
  exact ⟨_, va_runV (As := As.map (ph ad)) (b := ad a) (rest := rest.map (ph ad)) (n := n) (C := cq.1) ⟨hx, hb, hml, hown, hts⟩ (hM ad) ⟨callB_of n hts (z_good w1) rfl rfl rfl (ok w5) (ok w2) w8 ⟨hdep, by show 8 + (M'.2.2.1 + 11) + 50 * d' ≤ 50 * d; omega⟩, ok w3, hsel⟩
    ⟨zPre_blind, hr, zPre_at b1 hl hK hb0 hEx b3⟩ rfl (by rw [List.length_map]; exact hn) b4 (by show List.map (ph ad) (As.reverse ++ .ref a :: rest) = _; rw [List.map_append, List.map_reverse]; rfl) (lv_room (by rw [z_catm]; exact hrm)) hd ⟨hc, hs⟩⟩
/-- the formatter is read, and carried into the call -/
theorem z_ck (hX : zD X E M d mc ms Po) {M' : zM} {d' fx idx : Nat} {i j : Int32} (hg : Cond.fieldLink M.1.cls fx "jdk/internal/util/Preconditions" "SIOOBE_FORMATTER" "Ljava/util/function/BiFunction;" ∈ zGW) (hw : zSw M.1.cls idx M' 3)
    (hM : ∀ v : Value, v.category = 1 → ∀ ad : Nat → Nat, Met E.1 M'.1 (zws M') (zrm d' 0 0) (zPreV E.2.1 E.2.2 ad σ [.int i, .int j, v]) (zPo E.2.1 E.2.2 ad σ (fun r σ' => σ' = σ ∧ r = some (.int i))) 0 0 (fun q => E.2.2 ≤ q))
    (hd1 : decode M.2.1 pc = .ok (.getstatic fx, 3)) (hd2 : decode M.2.1 (pc + 3) = .ok (.invokestatic idx, 3)) (hdep : d' + 1 ≤ d) (hL : M'.2.2.1 ≤ 31) (hc : cells ≤ mc) (hs : slots ≤ ms)
    (kk : zS X σ cells slots (pc + 3 + 3) lv [.int i]) : zS X σ cells slots pc lv [.int j, .int i] := by
  obtain ⟨p, l, e, R, s, m, args, below, meth, c, Q, G, b0, nL, σ0, ad0⟩ := X
  obtain ⟨⟨hx, hb, hml, hown, hts, hK, hlocks, hb0, hnL, hrt, hnm, hEx⟩, h1, h2, h3, h4, h5⟩ := hX
  subst h1 h2 h3 h4
  have ok : ∀ {w : Cond}, w ∈ zGW → w.before args s = true := fun h => hts _ (List.mem_cons_of_mem _ h)
  obtain ⟨w1, w2, w3, w5, w6⟩ := hw
  intro ad H locs ls a1 a2 a3 a4 a5 a6
  have main : ∀ v : Value, v.category = 1 → W p E.1 e (zrm d mc ms) s m args below meth c H locs cells slots Q (F0 m (pc + 3) ls [v, .int j, .int i]) := by
    intro v hv T hT Xs
    have hr : va_Run p E.1 e (zrm d mc ms) s m args below meth c H locs cells slots 0 0 (F0 m (pc + 3) ls [v, .int j, .int i]) [] (zPo E.2.1 E.2.2 ad σ (fun r σ' => σ' = σ ∧ r = some (.int i)) ([.int i, .int j, v] : List Value).toArray) (fun q => E.2.2 ≤ q) :=
      va_runS (As := [.int i, .int j, v]) (rest := []) (n := 3) ⟨hx, hb, hml, hown, hts⟩ (hM v hv ad) ⟨callB_of 3 hts (z_good w1) rfl rfl rfl (ok w5) (ok w2) w6 ⟨hdep, by show 8 + (M'.2.2.1 + 11) + 50 * d' ≤ 50 * d; omega⟩, ok w3⟩
        ⟨zPreV_blind, fun U hU hW => ⟨rfl, by rw [hU]; exact a2, hK.moved hW, by rw [hU]; exact Nat.le_trans hb0 a5.1, by rw [hU]; exact (hEx.kept a5.2.1).moved hW⟩⟩ rfl rfl a6.1 rfl (lv_room (by decide)) hd2 ⟨hc, hs⟩
    obtain ⟨v', st₀, t, T', L, h0, X', hL', e1, e2, ⟨r, σ', ad', hv', ⟨rfl, rfl⟩, hk, hrl, hlv, hF⟩, hst⟩ := hr T hT Xs
    have hv2 : v' = some (.int i) := Outcome.returned.inj hv'
    subst hv2
    have hS' : va_S (fun q => E.2.2 ≤ q) s.heap T'.heap (locs ++ L) := by
      rw [e1]
      obtain ⟨f1, f2⟩ := hF
      rw [h0] at f1 f2
      refine ⟨Nat.le_trans a5.1 f1, fun q h1 h2 => ?_, fun q hq => ?_⟩
      · rw [f2 q (Nat.lt_of_lt_of_le h1 a5.1) h2]; exact a5.2.1 q h1 h2
      · rcases List.mem_append.mp hq with h | h
        · exact a5.2.2 q h
        · exact hL' q h
    have hlvm : (lv.map fun x => (x.1, ph ad' x.2)) = lv.map fun x => (x.1, ph ad x.2) := List.map_congr_left fun x hx => by rw [z_phl (fun q hq => (hk q hq).1) (a3 x hx)]
    have K1 := kk ad' T'.heap (locs ++ L) ls (fun q hq => by
        have g1 := a1 q hq
        have g2 : σ'.1 q ≠ 0 := by rw [g1.2]; exact hq
        exact ⟨(hk q g2).1.trans g1.1, g1.2⟩) (by rw [e1]; exact hrl) a3 (fun w hw => by
        rw [List.mem_singleton.mp hw]; exact fun q z => by cases z) hS' (by rw [hlvm]; exact a6)
    obtain ⟨t2, k1, k2⟩ := K1 T' rfl X'
    exact ⟨t2, hst t2 k1, k2⟩
  rcases hEx.2.1 with hz | ⟨t, hz⟩
  · exact va_gets hx hb hz a5 hown (ok hg) (fun x h => h) hd1 (main .null rfl)
  · exact va_gets hx hb hz a5 hown (ok hg) (fun x h => h) hd1 (main (.ref t) rfl)
end
theorem kq_J5_100 : zPw RJ5 100 RJ4 mJ5_ensureCapacityInternal_d00df 1 := ⟨zGW_at 910 (by decide +kernel) (by decide +kernel), zGW_at 907 (by decide +kernel) (by decide +kernel), zGW_at 909 (by decide +kernel) (by decide +kernel), zGW_x, zGW_at 81 (by decide +kernel) (by decide +kernel), ⟨by decide +kernel, by decide +kernel, by decide +kernel⟩⟩
theorem kg_J0_1053 : Cond.fieldLink RJ0 1053 "jdk/internal/util/Preconditions" "SIOOBE_FORMATTER" "Ljava/util/function/BiFunction;" ∈ zGW := zGW_at 592 (by decide +kernel) (by decide +kernel)
def lkJ0 : zLk := ([], [], [])
theorem lkJ0_ok : zlkOK RJ0 lkJ0 := ⟨fun _ h => absurd h List.not_mem_nil, fun _ h => absurd h List.not_mem_nil, fun _ h => absurd h List.not_mem_nil⟩
def lkJ1 : zLk := ([], [], [])
theorem lkJ1_ok : zlkOK RJ1 lkJ1 := ⟨fun _ h => absurd h List.not_mem_nil, fun _ h => absurd h List.not_mem_nil, fun _ h => absurd h List.not_mem_nil⟩
def lkJ3 : zLk := ([], [], [])
theorem lkJ3_ok : zlkOK RJ3 lkJ3 := ⟨fun _ h => absurd h List.not_mem_nil, fun _ h => absurd h List.not_mem_nil, fun _ h => absurd h List.not_mem_nil⟩
def lkJ4 : zLk := ([], [], [])
theorem lkJ4_ok : zlkOK RJ4 lkJ4 := ⟨fun _ h => absurd h List.not_mem_nil, fun _ h => absurd h List.not_mem_nil, fun _ h => absurd h List.not_mem_nil⟩
def lkJ7 : zLk := ([], [], [])
theorem lkJ7_ok : zlkOK RJ7 lkJ7 := ⟨fun _ h => absurd h List.not_mem_nil, fun _ h => absurd h List.not_mem_nil, fun _ h => absurd h List.not_mem_nil⟩
def lkJ9 : zLk := ([], [], [])
theorem lkJ9_ok : zlkOK RJ9 lkJ9 := ⟨fun _ h => absurd h List.not_mem_nil, fun _ h => absurd h List.not_mem_nil, fun _ h => absurd h List.not_mem_nil⟩
theorem c_J3_checkIndex (E : zE) (σ : Sg) {i j : Nat} (h : i < j) (hj : j < 2 ^ 31) : ∀ v : Value, v.category = 1 → ∀ ad : Nat → Nat, Met E.1 mJ3_checkIndex_8e157.1 (zws mJ3_checkIndex_8e157) (zrm 0 0 0) (zPreV E.2.1 E.2.2 ad σ [.int (nI i), .int (nI j), v]) (zPo E.2.1 E.2.2 ad σ (fun r σ' => σ' = σ ∧ r = some (.int (nI i)))) 0 0 (fun q => E.2.2 ≤ q) := by
  intro v hv
  refine z_introV hv (by decide) rfl (fun X hX => ?_)
  refine bk hX lkJ3_ok (pc' := 1) [.iload_n 0] (by decide +kernel) (And.intro trivial ?_)
  refine if_lt hX (8) 9 (by decide +kernel) (by decide) (fun c => absurd c (nI_nn (by omega))) (fun c_1 => ?_)
  refine bk hX lkJ3_ok (pc' := 6) [.iload_n 0, .iload_n 1] (by decide +kernel) (And.intro trivial ?_)
  refine ic_lt hX (10) 16 (by decide +kernel) (by decide) (fun c_6 => ?_) (fun c => absurd (nI_lt h hj) c)
  refine bk hX lkJ3_ok (pc' := 17) [.iload_n 0] (by decide +kernel) (And.intro trivial ?_)
  exact z_iret hX (by decide +kernel) rfl (rfl) (by decide) (by decide) (⟨rfl, rfl⟩)
theorem c_J0_checkIndex (E : zE) (σ : Sg) {i j : Nat} (h : i < j) (hj : j < 2 ^ 31) : zCt E mJ0_checkIndex_df160 1 0 0 σ [.int (nI i), .int (nI j)] (fun r σ' => σ' = σ ∧ r = none) := by
  refine z_intro (by decide) (Nat.le_of_ble_eq_true rfl) (fun X hX => ?_)
  refine bk hX lkJ0_ok (pc' := 2) [.iload_n 0, .iload_n 1] (by decide +kernel) (And.intro trivial ?_)
  refine z_ck hX kg_J0_1053 kw_J0_1059 (c_J3_checkIndex E σ h hj) (by decide +kernel) (by decide +kernel) (by decide) (by decide) (by decide) (by decide) ?_
  refine bk hX lkJ0_ok (pc' := 9) [.pop] (by decide +kernel) (And.intro trivial ?_)
  exact z_vret hX (by decide +kernel) rfl (by decide) (by decide) (⟨rfl, rfl⟩)
section
variable {X : zX} {E : zE} {M : zM} {d mc ms : Nat} {Po : Option Value → Sg → Prop} {σ : Sg} {cells slots pc : Nat} {lv : List (Nat × Value)} {st : List Value}
theorem z_mmin (hX : zD X E M d mc ms Po) {idx : Nat} {x y : Int32} (hw : Cond.methodLink M.1.cls idx Lib.Math.min.name ∈ zGW ∧ Cond.static Lib.Math.min.name ∈ zGW ∧ Cond.initialized "java/lang/Math" ∈ zGW ∧ Cond.code Lib.Math.min.name Lib.Math.min.code 2 (some .int) ∈ zGW) (h1 : 1 ≤ d) (hrm : (st.map fun v => v.category).sum ≤ 8) (hc : cells ≤ mc) (hs : slots ≤ ms) (hd : decode M.2.1 pc = .ok (.invokestatic idx, 3)) (kk : zS X σ cells slots (pc + 3) lv (.int (if y < x then y else x) :: st)) : zS X σ cells slots pc lv (.int y :: .int x :: st) := by
  obtain ⟨p, l, e, R, s, m, args, below, meth, c, Q, G, b0, nL, σ0, ad0⟩ := X
  obtain ⟨⟨hx, hb, hml, hown, hts, hK, hlocks, hb0, hnL, hrt, hnm, hEx⟩, q1, q2, q3, q4, q5⟩ := hX
  subst q1 q2 q3 q4
  intro ad H locs ls a1 a2 a3 a4 a5 a6
  have ok : ∀ {w : Cond}, w ∈ zGW → w.before args s = true := fun h => hts _ (List.mem_cons_of_mem _ h)
  have hcat : ((st.map (ph ad)).map fun v => v.category).sum ≤ 8 := by rw [z_catm]; exact hrm
  exact va_mmin hx hb (hml.trans a6.1.symm) hown (ok hw.1) (ok hw.2.1) (ok hw.2.2.1) (ok hw.2.2.2) h1 (by show _ + 13 ≤ 50 * d; omega) hc hs hd (kk ad H locs ls a1 a2 a3 (zl_i (zl_t (zl_t a4))) a5 a6)
end
theorem kn_J1_38 : Cond.methodLink RJ1 38 Lib.Math.min.name ∈ zGW ∧ Cond.static Lib.Math.min.name ∈ zGW ∧ Cond.initialized "java/lang/Math" ∈ zGW ∧ Cond.code Lib.Math.min.name Lib.Math.min.code 2 (some .int) ∈ zGW := ⟨zGW_at 656 (by decide +kernel) (by decide +kernel), zGW_at 657 (by decide +kernel) (by decide +kernel), zGW_at 99 (by decide +kernel) (by decide +kernel), zGW_at 658 (by decide +kernel) (by decide +kernel)⟩
theorem kn_J2_183 : Cond.methodLink RJ2 183 Lib.Math.min.name ∈ zGW ∧ Cond.static Lib.Math.min.name ∈ zGW ∧ Cond.initialized "java/lang/Math" ∈ zGW ∧ Cond.code Lib.Math.min.name Lib.Math.min.code 2 (some .int) ∈ zGW := ⟨zGW_at 666 (by decide +kernel) (by decide +kernel), zGW_at 657 (by decide +kernel) (by decide +kernel), zGW_at 99 (by decide +kernel) (by decide +kernel), zGW_at 658 (by decide +kernel) (by decide +kernel)⟩
theorem kn_J7_304 : Cond.methodLink RJ7 304 Lib.Math.min.name ∈ zGW ∧ Cond.static Lib.Math.min.name ∈ zGW ∧ Cond.initialized "java/lang/Math" ∈ zGW ∧ Cond.code Lib.Math.min.name Lib.Math.min.code 2 (some .int) ∈ zGW := ⟨zGW_at 934 (by decide +kernel) (by decide +kernel), zGW_at 657 (by decide +kernel) (by decide +kernel), zGW_at 99 (by decide +kernel) (by decide +kernel), zGW_at 658 (by decide +kernel) (by decide +kernel)⟩
theorem kn_J5_138 : Cond.methodLink RJ5 138 Lib.Math.min.name ∈ zGW ∧ Cond.static Lib.Math.min.name ∈ zGW ∧ Cond.initialized "java/lang/Math" ∈ zGW ∧ Cond.code Lib.Math.min.name Lib.Math.min.code 2 (some .int) ∈ zGW := ⟨zGW_at 1082 (by decide +kernel) (by decide +kernel), zGW_at 657 (by decide +kernel) (by decide +kernel), zGW_at 99 (by decide +kernel) (by decide +kernel), zGW_at 658 (by decide +kernel) (by decide +kernel)⟩
