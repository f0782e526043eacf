/-! ===== the rules in the forms that the walks use ===== -/
/-- straight code, with a mark at its end that makes the goal compute -/
theorem z_blk2 {X : zX} {M : zM} {lk : zLk} {ini : Bool} (hX : zC X M) (hlk : zlkOK M.1.cls lk) (hini : ini = true → zini M lk) {cells slots : Nat} {pc' : Nat} : ∀ (is : List Instr) {pc : Nat}, zdec M.2.1 pc is = some pc' → ∀ {σ : Sg} {lv : List (Nat × Value)} {st : List Value}, zwp M.2.2.1 lk ini is σ lv st (fun σ lv st => True ∧ zS X σ cells slots pc' lv st) → zS X σ cells slots pc lv st
  | [], pc, hd, σ, lv, st, h => by
    cases hd
    exact h.2
  | i :: r, pc, hd, σ, lv, st, h => by
    unfold zdec at hd
    split at hd
    · rename_i hi
      exact z1_ok hX hlk hini hi (fun σ' lv' st' h' => z_blk2 hX hlk hini r hd h') h
    · cases hd
section
variable {X : zX} {E : zE} {M : zM} {d mc ms : Nat} {Po : Option Value → Sg → Prop} {σ : Sg} {cells slots pc : Nat} {lv : List (Nat × Value)} {st : List Value}
theorem bk (hX : zD X E M d mc ms Po) {lk : zLk} (hlk : zlkOK M.1.cls lk) {pc' : Nat} (is : List Instr) (hd : zdec M.2.1 pc is = some pc') (h : zwp M.2.2.1 lk false is σ lv st (fun σ lv st => True ∧ zS X σ cells slots pc' lv st)) : zS X σ cells slots pc lv st := z_blk2 hX.1 hlk (fun h => by cases h) is hd h
theorem bi (hX : zD X E M d mc ms Po) {lk : zLk} (hlk : zlkOK M.1.cls lk) (hi : zini M lk) {pc' : Nat} (is : List Instr) (hd : zdec M.2.1 pc is = some pc') (h : zwp M.2.2.1 lk true is σ lv st (fun σ lv st => True ∧ zS X σ cells slots pc' lv st)) : zS X σ cells slots pc lv st := z_blk2 hX.1 hlk (fun _ => hi) is hd h
theorem ic_eq (hX : zD X E M d mc ms Po) (off : Int) {x y : Int32} (tgt : Nat) (hd : decode M.2.1 pc = .ok (.if_icmp .eq off, 3)) (ht : (pc : Int) + off = (tgt : Int)) (kt : x = y → zS X σ cells slots tgt lv st) (kf : ¬ x = y → zS X σ cells slots (pc + 3) lv st) : zS X σ cells slots pc lv (.int y :: .int x :: st) := z_icmp hX tgt hd ht kt kf
theorem ic_ne (hX : zD X E M d mc ms Po) (off : Int) {x y : Int32} (tgt : Nat) (hd : decode M.2.1 pc = .ok (.if_icmp .ne off, 3)) (ht : (pc : Int) + off = (tgt : Int)) (kt : ¬ x = y → zS X σ cells slots tgt lv st) (kf : x = y → zS X σ cells slots (pc + 3) lv st) : zS X σ cells slots pc lv (.int y :: .int x :: st) := z_icmp hX tgt hd ht kt (fun h => kf (Classical.not_not.mp h))
theorem ic_lt (hX : zD X E M d mc ms Po) (off : Int) {x y : Int32} (tgt : Nat) (hd : decode M.2.1 pc = .ok (.if_icmp .lt off, 3)) (ht : (pc : Int) + off = (tgt : Int)) (kt : x < y → zS X σ cells slots tgt lv st) (kf : ¬ x < y → zS X σ cells slots (pc + 3) lv st) : zS X σ cells slots pc lv (.int y :: .int x :: st) := z_icmp hX tgt hd ht kt kf
theorem ic_ge (hX : zD X E M d mc ms Po) (off : Int) {x y : Int32} (tgt : Nat) (hd : decode M.2.1 pc = .ok (.if_icmp .ge off, 3)) (ht : (pc : Int) + off = (tgt : Int)) (kt : y ≤ x → zS X σ cells slots tgt lv st) (kf : ¬ y ≤ x → zS X σ cells slots (pc + 3) lv st) : zS X σ cells slots pc lv (.int y :: .int x :: st) := z_icmp hX tgt hd ht kt kf
theorem ic_gt (hX : zD X E M d mc ms Po) (off : Int) {x y : Int32} (tgt : Nat) (hd : decode M.2.1 pc = .ok (.if_icmp .gt off, 3)) (ht : (pc : Int) + off = (tgt : Int)) (kt : y < x → zS X σ cells slots tgt lv st) (kf : ¬ y < x → zS X σ cells slots (pc + 3) lv st) : zS X σ cells slots pc lv (.int y :: .int x :: st) := z_icmp hX tgt hd ht kt kf
theorem ic_le (hX : zD X E M d mc ms Po) (off : Int) {x y : Int32} (tgt : Nat) (hd : decode M.2.1 pc = .ok (.if_icmp .le off, 3)) (ht : (pc : Int) + off = (tgt : Int)) (kt : x ≤ y → zS X σ cells slots tgt lv st) (kf : ¬ x ≤ y → zS X σ cells slots (pc + 3) lv st) : zS X σ cells slots pc lv (.int y :: .int x :: st) := z_icmp hX tgt hd ht kt kf
theorem if_eq (hX : zD X E M d mc ms Po) (off : Int) {x : Int32} (tgt : Nat) (hd : decode M.2.1 pc = .ok (.ifCond .eq off, 3)) (ht : (pc : Int) + off = (tgt : Int)) (kt : x = 0 → zS X σ cells slots tgt lv st) (kf : ¬ x = 0 → zS X σ cells slots (pc + 3) lv st) : zS X σ cells slots pc lv (.int x :: st) := z_if hX tgt hd ht kt kf
theorem if_ne (hX : zD X E M d mc ms Po) (off : Int) {x : Int32} (tgt : Nat) (hd : decode M.2.1 pc = .ok (.ifCond .ne off, 3)) (ht : (pc : Int) + off = (tgt : Int)) (kt : ¬ x = 0 → zS X σ cells slots tgt lv st) (kf : x = 0 → zS X σ cells slots (pc + 3) lv st) : zS X σ cells slots pc lv (.int x :: st) := z_if hX tgt hd ht kt (fun h => kf (Classical.not_not.mp h))
theorem if_lt (hX : zD X E M d mc ms Po) (off : Int) {x : Int32} (tgt : Nat) (hd : decode M.2.1 pc = .ok (.ifCond .lt off, 3)) (ht : (pc : Int) + off = (tgt : Int)) (kt : x < 0 → zS X σ cells slots tgt lv st) (kf : ¬ x < 0 → zS X σ cells slots (pc + 3) lv st) : zS X σ cells slots pc lv (.int x :: st) := z_if hX tgt hd ht kt kf
theorem if_ge (hX : zD X E M d mc ms Po) (off : Int) {x : Int32} (tgt : Nat) (hd : decode M.2.1 pc = .ok (.ifCond .ge off, 3)) (ht : (pc : Int) + off = (tgt : Int)) (kt : 0 ≤ x → zS X σ cells slots tgt lv st) (kf : ¬ 0 ≤ x → zS X σ cells slots (pc + 3) lv st) : zS X σ cells slots pc lv (.int x :: st) := z_if hX tgt hd ht kt kf
theorem if_gt (hX : zD X E M d mc ms Po) (off : Int) {x : Int32} (tgt : Nat) (hd : decode M.2.1 pc = .ok (.ifCond .gt off, 3)) (ht : (pc : Int) + off = (tgt : Int)) (kt : 0 < x → zS X σ cells slots tgt lv st) (kf : ¬ 0 < x → zS X σ cells slots (pc + 3) lv st) : zS X σ cells slots pc lv (.int x :: st) := z_if hX tgt hd ht kt kf
theorem if_le (hX : zD X E M d mc ms Po) (off : Int) {x : Int32} (tgt : Nat) (hd : decode M.2.1 pc = .ok (.ifCond .le off, 3)) (ht : (pc : Int) + off = (tgt : Int)) (kt : x ≤ 0 → zS X σ cells slots tgt lv st) (kf : ¬ x ≤ 0 → zS X σ cells slots (pc + 3) lv st) : zS X σ cells slots pc lv (.int x :: st) := z_if hX tgt hd ht kt kf
theorem gt_ (hX : zD X E M d mc ms Po) (off : Int) (tgt : Nat) (hd : decode M.2.1 pc = .ok (.goto off, 3)) (ht : (pc : Int) + off = (tgt : Int)) (k : zS X σ cells slots tgt lv st) : zS X σ cells slots pc lv st := z_goto hX tgt hd ht k
theorem z_cs {cells' slots' pc' : Nat} (hc : cells = cells') (hs : slots = slots') (hp : pc = pc') (h : zS X σ cells' slots' pc' lv st) : zS X σ cells slots pc lv st := by subst hc hs hp; exact h
theorem z_wid {cells' slots' : Nat} (hc : cells ≤ cells') (hs : slots ≤ slots') (h : zS X σ cells' slots' pc lv st) : zS X σ cells slots pc lv st := by
  obtain ⟨p, l, e, R, s, m, args, below, meth, c, Q, G, b0, nL, σ0, ad0⟩ := X
  intro ad H locs ls a1 a2 a3 a4 a5 a6
  exact W.widen hc hs (h ad H locs ls a1 a2 a3 a4 a5 a6)
/-- fewer locals are enough -/
theorem z_lv {lv' : List (Nat × Value)} (hs : ∀ x ∈ lv', x ∈ lv) (h : zS X σ cells slots pc lv' st) : zS X σ cells slots pc lv st := by
  obtain ⟨p, l, e, R, s, m, args, below, meth, c, Q, G, b0, nL, σ0, ad0⟩ := X
  intro ad H locs ls a1 a2 a3 a4 a5 a6
  refine h ad H locs ls a1 a2 (fun x hx => a3 x (hs x hx)) a4 a5 ⟨a6.1, a6.2.1, fun q hq => ?_⟩
  obtain ⟨x, hx, rfl⟩ := List.mem_map.mp hq
  exact a6.2.2 _ (List.mem_map.mpr ⟨x, hs x hx, rfl⟩)
end
/-- a contract's end weakened -/
theorem zCt.mono {E : zE} {M : zM} {d mc ms : Nat} {σ : Sg} {av : List Value} {Po Po' : Option Value → Sg → Prop} (h : zCt E M d mc ms σ av Po) (hp : ∀ r σ', Po r σ' → Po' r σ') : zCt E M d mc ms σ av Po' := by
  intro ad
  refine MetFree.mono (h ad) (fun _ _ h => h) (fun _ _ _ _ _ h => h) ?_
  rintro a st o t - ⟨⟨r, σ', ad', h1, h2, h3⟩, h4⟩
  exact ⟨⟨r, σ', ad', h1, hp _ _ h2, h3⟩, h4⟩
theorem z_lvk {X : zX} {σ : Sg} {cells slots pc : Nat} {lv lv' : List (Nat × Value)} {st : List Value} (ks : List Nat) (hl : lv_pick lv ks = lv') (h : zS X σ cells slots pc lv' st) : zS X σ cells slots pc lv st := by
  refine z_lv (fun x hx => ?_) h
  rw [← hl] at hx
  obtain ⟨k, -, hk⟩ := List.mem_filterMap.mp hx
  exact List.mem_of_getElem? hk
