/-! ===== contracts over the abstract heap; branches, ends, calls ===== -/
abbrev zE : Type := Launch × zG × Nat
def zPre (G : zG) (b0 : Nat) (ad : Nat → Nat) (σ : Sg) (av : List Value) : Array Value → State → Prop := fun a U => a = (av.map (ph ad)).toArray ∧ zRl G b0 ad σ U.heap ∧ (∀ v ∈ av, zlv σ v) ∧ zK G U ∧ b0 ≤ U.heap.size ∧ zEx G b0 U U.heap
def zPo (G : zG) (b0 : Nat) (ad : Nat → Nat) (σ : Sg) (Po : Option Value → Sg → Prop) : Array Value → State → Outcome → State → Prop := fun _ st oc t =>
  ∃ (r : Option Value) (σ' : Sg) (ad' : Nat → Nat), oc = .returned (r.map (ph ad')) ∧ Po r σ' ∧ (∀ q, σ.1 q ≠ 0 → ad' q = ad q ∧ σ'.1 q = σ.1 q) ∧ zRl G b0 ad' σ' t.heap ∧ (∀ v, r = some v → zlv σ' v) ∧ va_F (fun q => b0 ≤ q) st t
abbrev zrm (d mc ms : Nat) : Room := { frames := d, cells := mc, slots := ms, locals := 50 * d }
/-- the contract of a method at an abstract heap: it returns, with an answer and a heap as Po says -/
def zCt (E : zE) (M : zM) (d mc ms : Nat) (σ : Sg) (av : List Value) (Po : Option Value → Sg → Prop) : Prop :=
  ∀ ad : Nat → Nat, Met E.1 M.1 (zws M) (zrm d mc ms) (zPre E.2.1 E.2.2 ad σ av) (zPo E.2.1 E.2.2 ad σ Po) mc ms (fun q => E.2.2 ≤ q)
/-- what is known inside a method -/
def zD (X : zX) (E : zE) (M : zM) (d mc ms : Nat) (Po : Option Value → Sg → Prop) : Prop := zC X M ∧ match X with
  | (_, l, _, R, s, _, args, below, _, _, Q, G, b0, _, σ0, ad0) => l = E.1 ∧ G = E.2.1 ∧ b0 = E.2.2 ∧ R = zrm d mc ms ∧ Q = MQ below (zPo G b0 ad0 σ0 Po) args s mc ms (fun q => b0 ≤ q)
theorem lv_args_ph (ad : Nat → Nat) : ∀ (av : List Value) (i : Nat), lv_args i (av.map (ph ad)) = (lv_args i av).map fun x => (x.1, ph ad x.2)
  | [], _ => rfl
  | v :: r, i => by
    show (_ :: _) = (_ :: _)
    rw [lv_args_ph ad r, ph_cat]
theorem lv_args_live {P : Value → Prop} : ∀ (av : List Value) (i : Nat), (∀ v ∈ av, P v) → ∀ x ∈ lv_args i av, P x.2
  | [], _, _, x, hx => by cases hx
  | v :: r, i, h, x, hx => by
    rcases List.mem_cons.mp hx with e | hx
    · rw [e]; exact h v List.mem_cons_self
    · exact lv_args_live r _ (fun w hw => h w (List.mem_cons_of_mem _ hw)) x hx
theorem lg_sl_len (ad : Nat → Nat) : ∀ av : List Value, (lg_sl (av.map (ph ad))).length = (lg_sl av).length
  | [] => rfl
  | v :: r => by
    have h := lg_sl_len ad r
    cases v <;> simp_all [lg_sl, ph, Value.category]
/-- a contract out of the walk of the body -/
theorem z_intro {E : zE} {M : zM} {d mc ms : Nat} {σ : Sg} {av : List Value} {Po : Option Value → Sg → Prop} (hy : plainName M.1.cls = true) (hn : (lg_sl av).length ≤ M.2.2.1) (body : ∀ X : zX, zD X E M d mc ms Po → zS X σ 0 0 0 (lv_args 0 av) []) : zCt E M d mc ms σ av Po := by
  intro ad
  refine Met.ofW (cc := M.2.1) (maxL := M.2.2.1) (ret := M.2.2.2) (ws' := zGW) hy rfl ?_
  intro p e s m args below meth c s₁ B hml hv
  obtain ⟨rfl, hR, hl, hK, hb0, hEx⟩ := hv
  have h := body (p, E.1, e, (headSpec (zws M) (zrm d mc ms)).room, s, m, (av.map (ph ad)).toArray, below, meth, c, MQ below (zPo E.2.1 E.2.2 ad σ Po) (av.map (ph ad)).toArray s mc ms (fun q => E.2.2 ≤ q), E.2.1, E.2.2, M.2.2.1, σ, ad)
    ⟨⟨B.exec, B.bytes, hml, findClass_of_methodNamed B.named, atoms_spec (ws := zws M) B.pre, hK, B.notSynchronized, hb0, rfl, B.returns, (name_of_methodNamed B.named B.method).1, hEx⟩, rfl, rfl, rfl, rfl, rfl⟩
  have hent := lv_entry (av.map (ph ad)) (n := M.2.2.1) (by rw [lg_sl_len]; exact hn)
  rw [lg_entry_eq]
  exact h ad s.heap [] _ (fun q _ => ⟨rfl, rfl⟩) hR (lv_args_live av 0 hl) (fun v hv => by cases hv) va_S.rf (by rw [← lv_args_ph]; exact hent)
section
variable {X : zX} {E : zE} {M : zM} {d mc ms : Nat} {Po : Option Value → Sg → Prop} {σ : Sg} {cells slots pc : Nat} {lv : List (Nat × Value)} {st : List Value}
def zcmp (op : ClassFile.Cond) (x y : Int32) : Prop := match op with
  | .eq => x = y
  | .ne => ¬ x = y
  | .lt => x < y
  | .ge => y ≤ x
  | .gt => y < x
  | .le => x ≤ y
theorem z_icmp (hX : zD X E M d mc ms Po) {op : ClassFile.Cond} {off : Int} {x y : Int32} (tgt : Nat) (hd : decode M.2.1 pc = .ok (.if_icmp op off, 3)) (ht : (pc : Int) + off = (tgt : Int)) (kt : zcmp op x y → zS X σ cells slots tgt lv st) (kf : ¬ zcmp op x y → zS X σ cells slots (pc + 3) lv st) : zS X σ cells slots pc lv (.int y :: .int x :: st) := by
  obtain ⟨p, l, e, R, s, m, args, below, meth, c, Q, G, b0, nL, σ0, ad0⟩ := X
  obtain ⟨⟨hx, hb, hml, hown, hts, hK, hlocks, hb0, hnL, hrt, hnm, hEx⟩, -⟩ := hX
  intro ad H locs ls a1 a2 a3 a4 a5 a6
  have kt' := fun h => kt h ad H locs ls a1 a2 a3 (zl_t (zl_t a4)) a5 a6
  have kf' := fun h => kf h ad H locs ls a1 a2 a3 (zl_t (zl_t a4)) a5 a6
  cases op with
  | eq => exact lv_icmp_eq hx hb hd ht kt' kf'
  | ne => exact lv_icmp_ne hx hb hd ht kt' (fun h => kf' (fun z => z h))
  | lt => exact lv_icmp_lt hx hb hd ht kt' kf'
  | ge => exact lv_icmp_ge hx hb hd ht kt' kf'
  | gt => exact lv_icmp_gt hx hb hd ht kt' kf'
  | le => exact lv_icmp_le hx hb hd ht kt' kf'
theorem z_if (hX : zD X E M d mc ms Po) {op : ClassFile.Cond} {off : Int} {x : Int32} (tgt : Nat) (hd : decode M.2.1 pc = .ok (.ifCond op off, 3)) (ht : (pc : Int) + off = (tgt : Int)) (kt : zcmp op x 0 → zS X σ cells slots tgt lv st) (kf : ¬ zcmp op x 0 → zS X σ cells slots (pc + 3) lv st) : zS X σ cells slots pc lv (.int x :: st) := by
  obtain ⟨p, l, e, R, s, m, args, below, meth, c, Q, G, b0, nL, σ0, ad0⟩ := X
  obtain ⟨⟨hx, hb, hml, hown, hts, hK, hlocks, hb0, hnL, hrt, hnm, hEx⟩, -⟩ := hX
  intro ad H locs ls a1 a2 a3 a4 a5 a6
  have kt' := fun h => kt h ad H locs ls a1 a2 a3 (zl_t a4) a5 a6
  have kf' := fun h => kf h ad H locs ls a1 a2 a3 (zl_t a4) a5 a6
  cases op with
  | eq => exact lv_if_eq hx hb hd ht kt' kf'
  | ne => exact lv_if_ne hx hb hd ht kt' (fun h => kf' (fun z => z h))
  | lt => exact lv_if_lt hx hb hd ht kt' kf'
  | ge => exact lv_if_ge hx hb hd ht kt' kf'
  | gt => exact lv_if_gt hx hb hd ht kt' kf'
  | le => exact lv_if_le hx hb hd ht kt' kf'
theorem z_goto (hX : zD X E M d mc ms Po) {off : Int} (tgt : Nat) (hd : decode M.2.1 pc = .ok (.goto off, 3)) (ht : (pc : Int) + off = (tgt : Int)) (k : zS X σ cells slots tgt lv st) : zS X σ cells slots pc lv st := by
  obtain ⟨p, l, e, R, s, m, args, below, meth, c, Q, G, b0, nL, σ0, ad0⟩ := X
  obtain ⟨⟨hx, hb, hml, hown, hts, hK, hlocks, hb0, hnL, hrt, hnm, hEx⟩, -⟩ := hX
  intro ad H locs ls a1 a2 a3 a4 a5 a6
  exact lv_goto hx hb hd ht (k ad H locs ls a1 a2 a3 a4 a5 a6)
theorem z_tsw (hX : zD X E M d mc ms Po) {dflt lo hi : Int} {offs : Array Int} {len : Nat} {x : Int32} (tgt : Nat) (hd : decode M.2.1 pc = .ok (.tableswitch dflt lo hi offs, len)) {off : Int} (ho : (x.toInt < lo ∨ hi < x.toInt) ∧ off = dflt ∨ (¬ x.toInt < lo ∧ ¬ hi < x.toInt) ∧ offs[(x.toInt - lo).toNat]? = some off) (ht : (pc : Int) + off = (tgt : Int)) (k : zS X σ cells slots tgt lv st) : zS X σ cells slots pc lv (.int x :: st) := by
  obtain ⟨p, l, e, R, s, m, args, below, meth, c, Q, G, b0, nL, σ0, ad0⟩ := X
  obtain ⟨⟨hx, hb, hml, hown, hts, hK, hlocks, hb0, hnL, hrt, hnm, hEx⟩, -⟩ := hX
  intro ad H locs ls a1 a2 a3 a4 a5 a6
  have k' := k ad H locs ls a1 a2 a3 (zl_t a4) a5 a6
  rcases ho with ⟨h, rfl⟩ | ⟨h, h2⟩
  · exact lv_tableOut hx hb hd h ht k'
  · exact lv_tableIn hx hb hd h.1 h.2 h2 ht k'
theorem z_lsw (hX : zD X E M d mc ms Po) {dflt : Int} {ps : Array (Int × Int)} {len : Nat} {x : Int32} {off : Int} (tgt : Nat) (hd : decode M.2.1 pc = .ok (.lookupswitch dflt ps, len)) (hp : (ps.toList.zip (ps.toList.drop 1)).all (fun (a, next) => a.1 < next.1) = true) (ho : Op.lookupswitch.offset ps.toList dflt x.toInt = off) (ht : (pc : Int) + off = (tgt : Int)) (k : zS X σ cells slots tgt lv st) : zS X σ cells slots pc lv (.int x :: st) := by
  obtain ⟨p, l, e, R, s, m, args, below, meth, c, Q, G, b0, nL, σ0, ad0⟩ := X
  obtain ⟨⟨hx, hb, hml, hown, hts, hK, hlocks, hb0, hnL, hrt, hnm, hEx⟩, -⟩ := hX
  intro ad H locs ls a1 a2 a3 a4 a5 a6
  exact lv_lookup hx hb hd hp ho ht (k ad H locs ls a1 a2 a3 (zl_t a4) a5 a6)
/-! ends -/
theorem z_iret (hX : zD X E M d mc ms Po) {v : Int32} {ty : FieldType} (hd : decode M.2.1 pc = .ok (.ireturn, 1)) (hty : M.2.2.2 = some ty) (hn : narrow ty (.int v) = .int v) (hc : cells ≤ mc) (hs : slots ≤ ms) (hp : Po (some (.int v)) σ) : zS X σ cells slots pc lv [.int v] := by
  obtain ⟨p, l, e, R, s, m, args, below, meth, c, Q, G, b0, nL, σ0, ad0⟩ := X
  obtain ⟨⟨hx, hb, hml, hown, hts, hK, hlocks, hb0, hnL, hrt, hnm, hEx⟩, h1, h2, h3, h4, h5⟩ := hX
  intro ad H locs ls a1 a2 a3 a4 a5 a6
  subst h5
  refine W.widen hc hs ?_
  exact W.zret (v := v) hx hb (hrt.trans hty) hn (fun t ht hW => ⟨some (.int v), σ, ad, rfl, hp, a1, by rw [ht]; exact a2, (fun w hw => by cases hw; exact fun q z => (by cases z)), a5.F ht⟩) a5.2.2 hd hlocks
theorem z_lret (hX : zD X E M d mc ms Po) {v : Int64} (hd : decode M.2.1 pc = .ok (.lreturn, 1)) (hty : M.2.2.2 = some .long) (hc : cells ≤ mc) (hs : slots ≤ ms) (hp : Po (some (.long v)) σ) : zS X σ cells slots pc lv [.long v] := by
  obtain ⟨p, l, e, R, s, m, args, below, meth, c, Q, G, b0, nL, σ0, ad0⟩ := X
  obtain ⟨⟨hx, hb, hml, hown, hts, hK, hlocks, hb0, hnL, hrt, hnm, hEx⟩, h1, h2, h3, h4, h5⟩ := hX
  intro ad H locs ls a1 a2 a3 a4 a5 a6
  subst h5
  refine W.widen hc hs ?_
  exact W.lret (v := v) hx hb (hrt.trans hty) (fun t ht hW => ⟨some (.long v), σ, ad, rfl, hp, a1, by rw [ht]; exact a2, (fun w hw => by cases hw; exact fun q z => (by cases z)), a5.F ht⟩) a5.2.2 hd hlocks
theorem z_vret (hX : zD X E M d mc ms Po) (hd : decode M.2.1 pc = .ok (.return_, 1)) (hty : M.2.2.2 = none) (hc : cells ≤ mc) (hs : slots ≤ ms) (hp : Po none σ) : zS X σ cells slots pc lv [] := by
  obtain ⟨p, l, e, R, s, m, args, below, meth, c, Q, G, b0, nL, σ0, ad0⟩ := X
  obtain ⟨⟨hx, hb, hml, hown, hts, hK, hlocks, hb0, hnL, hrt, hnm, hEx⟩, h1, h2, h3, h4, h5⟩ := hX
  intro ad H locs ls a1 a2 a3 a4 a5 a6
  subst h5
  refine W.widen hc hs ?_
  exact W.vret hx hb (hrt.trans hty) (fun t ht hW => ⟨none, σ, ad, rfl, hp, a1, by rw [ht]; exact a2, (fun w hw => by cases hw), a5.F ht⟩) a5.2.2 hd hlocks
theorem z_aret (hX : zD X E M d mc ms Po) {v : Nat} {ty : FieldType} (hd : decode M.2.1 pc = .ok (.areturn, 1)) (hty : M.2.2.2 = some ty) (hr : (∃ n, ty = .object n) ∨ ∃ t, ty = .array t) (hc : cells ≤ mc) (hs : slots ≤ ms) (hp : Po (some (.ref v)) σ) : zS X σ cells slots pc lv [.ref v] := by
  obtain ⟨p, l, e, R, s, m, args, below, meth, c, Q, G, b0, nL, σ0, ad0⟩ := X
  obtain ⟨⟨hx, hb, hml, hown, hts, hK, hlocks, hb0, hnL, hrt, hnm, hEx⟩, h1, h2, h3, h4, h5⟩ := hX
  intro ad H locs ls a1 a2 a3 a4 a5 a6
  subst h5
  refine W.widen hc hs ?_
  exact W.aret (v := .ref (ad v)) hx hb (hrt.trans hty) hr (Or.inr ⟨_, rfl⟩) (fun t ht hW => ⟨some (.ref v), σ, ad, rfl, hp, a1, by rw [ht]; exact a2, (fun w hw => by cases hw; exact zl_h a4), a5.F ht⟩) a5.2.2 hd hlocks
/-! calls -/
theorem z_phl {ad ad' : Nat → Nat} {σ : Sg} (h : ∀ q, σ.1 q ≠ 0 → ad' q = ad q) {v : Value} (hv : zlv σ v) : ph ad' v = ph ad v := by
  cases v with
  | ref q => show Value.ref _ = .ref _; rw [h q (hv q rfl)]
  | _ => rfl
theorem z_run (hX : zD X E M d mc ms Po) {mc' ms' : Nat} {rest : List Value} {Po' : Option Value → Sg → Prop} {A : Array Value} (hsub : ∀ v ∈ rest, v ∈ st)
    (hr : match X with
      | (p, l, e, R, s, m, args, below, meth, c, _, G, b0, nL, _, _) => ∀ (ad : Nat → Nat) (H : Heap) (locs : List Loc) (ls : Array Slot), zRl G b0 ad σ H → (∀ v ∈ st, zlv σ v) → va_S (fun q => b0 ≤ q) s.heap H locs → ls.size = nL → ∃ A : Array Value, va_Run p l e R s m args below meth c H locs cells slots mc' ms' (F0 m pc ls (st.map (ph ad))) (rest.map (ph ad)) (zPo G b0 ad σ Po' A) (fun q => b0 ≤ q))
    (kk : ∀ (r : Option Value) (σ' : Sg), Po' r σ' → zS X σ' (cells + mc') (slots + ms') (pc + 3) lv (r.toList ++ rest)) : zS X σ cells slots pc lv st := by
  obtain ⟨p, l, e, R, s, m, args, below, meth, c, Q, G, b0, nL, σ0, ad0⟩ := X
  intro ad H locs ls a1 a2 a3 a4 a5 a6
  obtain ⟨A, hr⟩ := hr ad H locs ls a2 a4 a5 a6.1
  intro T hT Xs
  obtain ⟨v, st₀, t, T', L, h0, X', hL, e1, e2, ⟨r, σ', ad', hv, hpo, hk, hrl, hlv, hF⟩, hst⟩ := hr T hT Xs
  have hv' : v = r.map (ph ad') := Outcome.returned.inj hv
  subst hv'
  have hlive : ∀ w : Value, zlv σ w → zlv σ' w := fun w hw q hq => by rw [(hk q (hw q hq)).2]; exact hw q hq
  have hS' : va_S (fun q => b0 ≤ q) s.heap T'.heap (locs ++ L) := by
    rw [e1]
    obtain ⟨f1, f2⟩ := hF
    rw [h0] at f1 f2
    refine ⟨Nat.le_trans a5.1 f1, fun q h1 h2 => ?_, fun q hq => ?_⟩
    · rw [f2 q (Nat.lt_of_lt_of_le h1 a5.1) h2]; exact a5.2.1 q h1 h2
    · rcases List.mem_append.mp hq with h | h
      · exact a5.2.2 q h
      · exact hL q h
  have hlvm : (lv.map fun x => (x.1, ph ad' x.2)) = lv.map fun x => (x.1, ph ad x.2) := List.map_congr_left fun x hx => by rw [z_phl (fun q hq => (hk q hq).1) (a3 x hx)]
  have hrm : rest.map (ph ad') = rest.map (ph ad) := List.map_congr_left fun w hw => z_phl (fun q hq => (hk q hq).1) (a4 w (hsub w hw))
  have hsm : (r.toList ++ rest).map (ph ad') = (r.map (ph ad')).toList ++ rest.map (ph ad) := by
    rw [List.map_append, hrm]
    cases r <;> rfl
  have K := kk r σ' hpo ad' T'.heap (locs ++ L) ls (fun q hq => by
      have h1 := a1 q hq
      have h2 : σ.1 q ≠ 0 := by rw [h1.2]; exact hq
      exact ⟨(hk q h2).1.trans h1.1, (hk q h2).2.trans h1.2⟩) (by rw [e1]; exact hrl) (fun x hx => hlive _ (a3 x hx)) (fun w hw => by
      rcases List.mem_append.mp hw with h | h
      · cases r with
        | none => cases h
        | some z => rw [Option.toList, List.mem_singleton] at h; rw [h]; exact hlv z rfl
      · exact hlive _ (a4 w (hsub w h))) hS' (by rw [hlvm]; exact a6)
  rw [hsm] at K
  obtain ⟨t2, k1, k2⟩ := K T' rfl X'
  exact ⟨t2, hst t2 k1, k2⟩
end
