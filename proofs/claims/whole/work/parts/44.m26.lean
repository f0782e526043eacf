/-! signs that wait, against what is read part by part -/
def opsL (o n : Bool) : List Nat := (if n = true then [38] else []) ++ (if o = true then [124] else [])
theorem ops_whl (o n : Bool) {S : List Nat} (hS : S = [] ∨ ∃ r, S = 40 :: r) : whl (opsL o n ++ S) = (opsL o n ++ S, []) := by
  rcases hS with rfl | ⟨r, rfl⟩ <;> cases o <;> cases n <;> rfl
theorem ops_38 (o n : Bool) {S : List Nat} (hS : S = [] ∨ ∃ r, S = 40 :: r) : stl 38 (opsL o n ++ S) = (opsL o false ++ S, if n = true then [1] else []) := by
  rcases hS with rfl | ⟨r, rfl⟩ <;> cases o <;> cases n <;> rfl
theorem ops_124 (o n : Bool) {S : List Nat} (hS : S = [] ∨ ∃ r, S = 40 :: r) : stl 124 (opsL o n ++ S) = (S, (if n = true then [1] else []) ++ (if o = true then [2] else [])) := by
  rcases hS with rfl | ⟨r, rfl⟩ <;> cases o <;> cases n <;> rfl
theorem ops_opn (o n : Bool) (S : List Nat) : opn (opsL o n ++ S) = opn S := by
  cases o <;> cases n <;> simp [opsL, opn]
theorem ops_len (o n : Bool) (S : List Nat) : (opsL o n ++ S).length = n.toNat + o.toNat + S.length := by
  cases o <;> cases n <;> simp [opsL] <;> omega
theorem whl_len : ∀ S : List Nat, (whl S).1.length + (whl S).2.length = S.length
  | [] => rfl
  | c :: r => by
    have := whl_len r
    rw [whl_s]
    split
    · show (whl r).1.length + ((whl r).2.length + 1) = r.length + 1
      omega
    · rfl
theorem stl_len (s : Nat) : ∀ S : List Nat, (stl s S).1.length + (stl s S).2.length = S.length
  | [] => rfl
  | c :: r => by
    have := stl_len s r
    rw [stl_s]
    split
    · show (stl s r).1.length + ((stl s r).2.length + 1) = r.length + 1
      omega
    · split
      · show (stl s r).1.length + ((stl s r).2.length + 1) = r.length + 1
        omega
      · rfl
theorem opn_le : ∀ S : List Nat, opn S ≤ S.length
  | [] => Nat.le_refl _
  | c :: r => by
    have := opn_le r
    show (if c = 33 ∨ c = 40 then 1 else 0) + opn r ≤ r.length + 1
    split <;> omega
abbrev bdE (t : List Nat) (a0 a : Nat) (S acc : List Nat) : Prop := acc.length + S.length + a0 ≤ a ∧ a ≤ t.length
theorem eL_s (t : List Nat) (F : Nat → Rs) (k : Nat) (o n : Bool) (a : Nat) (acc : List Nat) : eL t F (k + 1) o n a acc = (match F a with
    | (none, b) => (none, b)
    | (some ts, b) => if nx t b = 38 then eL t F k o true (b + 1) (acc ++ ts ++ (if n = true then [1] else [])) else if nx t b = 124 then eL t F k true false (b + 1) (acc ++ ts ++ (if n = true then [1] else []) ++ (if o = true then [2] else [])) else (some (acc ++ ts ++ (if n = true then [1] else []) ++ (if o = true then [2] else [])), b)) := rfl
section
variable {Q a0 : Nat} {t : List Nat} {R : Rs} {P : Nat → Nat → List Nat → List Nat → Prop}
theorem sy_E (d : Nat)
    (hop : ∀ a S acc, bdE t a0 a S acc → (nx t a = 38 ∨ nx t a = 124) → P 1 (a + 1) (nx t a :: (stl (nx t a) S).1) (acc ++ (stl (nx t a) S).2) → P 0 a S acc)
    (he1 : ∀ a S acc, bdE t a0 a S acc → ¬ nx t a = 38 → ¬ nx t a = 124 → (stl 124 S).1 = [] → R = (some (acc ++ (stl 124 S).2), a) → P 0 a S acc)
    (he2 : ∀ a S acc r, bdE t a0 a S acc → ¬ nx t a = 38 → ¬ nx t a = 124 → (stl 124 S).1 = 40 :: r → ¬ nx t a = 41 → R = (none, a) → P 0 a S acc)
    (he3 : ∀ a S acc r, bdE t a0 a S acc → (stl 124 S).1 = 40 :: r → nx t a = 41 → P 0 (a + 1) (whl r).1 (acc ++ (stl 124 S).2 ++ (whl r).2) → P 0 a S acc)
    (FL : ∀ a S acc, opn S + d = 4 → bdE t a0 a S acc → (∀ b, pFa Q t d a = (none, b) → R = (none, b)) → (∀ ts b, pFa Q t d a = (some ts, b) → P 0 b (whl S).1 (acc ++ ts ++ (whl S).2)) → P 1 a S acc)
    (pre S0 : List Nat) (hS0 : S0 = [] ∨ ∃ r, S0 = 40 :: r) (hop0 : opn S0 + d = 4) : ∀ k o n a acc, t.length < a + k → bdE t a0 a (opsL o n ++ S0) (pre ++ acc) → (∀ b, eL t (pFa Q t d) k o n a acc = (none, b) → R = (none, b)) →
    (∀ ts b, eL t (pFa Q t d) k o n a acc = (some ts, b) → (S0 = [] → R = (some (pre ++ ts), b)) ∧ ∀ r, S0 = 40 :: r → (¬ nx t b = 41 → R = (none, b)) ∧ (nx t b = 41 → P 0 (b + 1) (whl r).1 (pre ++ ts ++ (whl r).2))) → P 1 a (opsL o n ++ S0) (pre ++ acc) := by
  intro k
  induction k with
  | zero => intro o n a acc h1 h2; exact absurd h2.2 (by omega)
  | succ k ih =>
    intro o n a acc h1 h2 h3 h4
    refine FL a _ _ (by rw [ops_opn]; exact hop0) h2 (fun b hb => h3 b (by rw [eL_s, hb])) (fun ts b hb => ?_)
    obtain ⟨f1, f2, f3, f4, f5, f6⟩ := (pFa_ok d).1 _ _ _ hb
    have hl1 : ∀ x : Bool, (if x = true then [1] else ([] : List Nat)).length = x.toNat := fun x => by cases x <;> rfl
    have hl2 : ∀ x : Bool, (if x = true then [2] else ([] : List Nat)).length = x.toNat := fun x => by cases x <;> rfl
    have q1 := h2.1
    rw [ops_len, List.length_append] at q1
    rw [ops_whl o n hS0, List.append_nil]
    have hbd : bdE t a0 b (opsL o n ++ S0) (pre ++ acc ++ ts) := ⟨by rw [ops_len, List.length_append, List.length_append]; omega, f3⟩
    by_cases c1 : nx t b = 38
    · have hin := nx_in c1 (by decide)
      refine hop b _ _ hbd (Or.inl c1) ?_
      rw [c1, ops_38 o n hS0]
      have e : 38 :: (opsL o false ++ S0) = opsL o true ++ S0 := by cases o <;> rfl
      show P 1 (b + 1) (38 :: (opsL o false ++ S0)) (pre ++ acc ++ ts ++ (if n = true then [1] else []))
      rw [e, show pre ++ acc ++ ts ++ (if n = true then [1] else []) = pre ++ (acc ++ ts ++ (if n = true then [1] else [])) by simp only [List.append_assoc]]
      refine ih o true (b + 1) _ (by omega) ⟨?_, by omega⟩ (fun b' hb' => h3 b' (by rw [eL_s, hb]; show (if nx t b = 38 then _ else _) = _; rw [if_pos c1]; exact hb')) (fun ts' b' hb' => h4 ts' b' (by rw [eL_s, hb]; show (if nx t b = 38 then _ else _) = _; rw [if_pos c1]; exact hb'))
      rw [ops_len, List.length_append, List.length_append, List.length_append, hl1]
      show _ + (1 + o.toNat + _) + _ ≤ _
      omega
    · by_cases c2 : nx t b = 124
      · have hin := nx_in c2 (by decide)
        refine hop b _ _ hbd (Or.inr c2) ?_
        rw [c2, ops_124 o n hS0]
        have e : 124 :: S0 = opsL true false ++ S0 := rfl
        show P 1 (b + 1) (124 :: S0) (pre ++ acc ++ ts ++ ((if n = true then [1] else []) ++ (if o = true then [2] else [])))
        rw [e, show pre ++ acc ++ ts ++ ((if n = true then [1] else []) ++ (if o = true then [2] else [])) = pre ++ (acc ++ ts ++ (if n = true then [1] else []) ++ (if o = true then [2] else [])) by simp only [List.append_assoc]]
        refine ih true false (b + 1) _ (by omega) ⟨?_, by omega⟩ (fun b' hb' => h3 b' (by rw [eL_s, hb]; show (if nx t b = 38 then _ else _) = _; rw [if_neg c1, if_pos c2]; exact hb')) (fun ts' b' hb' => h4 ts' b' (by rw [eL_s, hb]; show (if nx t b = 38 then _ else _) = _; rw [if_neg c1, if_pos c2]; exact hb'))
        rw [ops_len, List.length_append, List.length_append, List.length_append, List.length_append, hl1, hl2]
        show _ + (0 + 1 + _) + _ ≤ _
        omega
      · obtain ⟨g1, g2⟩ := h4 (acc ++ ts ++ (if n = true then [1] else []) ++ (if o = true then [2] else [])) b (by rw [eL_s, hb]; show (if nx t b = 38 then _ else _) = _; rw [if_neg c1, if_neg c2])
        have ea : pre ++ acc ++ ts ++ ((if n = true then [1] else []) ++ (if o = true then [2] else [])) = pre ++ (acc ++ ts ++ (if n = true then [1] else []) ++ (if o = true then [2] else [])) := by simp only [List.append_assoc]
        rcases hS0 with e0 | ⟨r, e0⟩
        · refine he1 b _ _ hbd c1 c2 (by rw [ops_124 o n (Or.inl e0), e0]) ?_
          rw [ops_124 o n (Or.inl e0)]
          show R = (some (pre ++ acc ++ ts ++ ((if n = true then [1] else []) ++ (if o = true then [2] else []))), b)
          rw [ea]
          exact g1 e0
        · by_cases c3 : nx t b = 41
          · refine he3 b _ _ r hbd (by rw [ops_124 o n (Or.inr ⟨r, e0⟩), e0]) c3 ?_
            rw [ops_124 o n (Or.inr ⟨r, e0⟩)]
            show P 0 (b + 1) (whl r).1 (pre ++ acc ++ ts ++ ((if n = true then [1] else []) ++ (if o = true then [2] else [])) ++ (whl r).2)
            rw [ea]
            exact (g2 r e0).2 c3
          · exact he2 b _ _ r hbd c1 c2 (by rw [ops_124 o n (Or.inr ⟨r, e0⟩), e0]) c3 ((g2 r e0).1 c3)
theorem sy_F (hQ : t.length < a0 + 1 + Q)
    (hopen : ∀ a S acc, bdE t a0 a S acc → (nx t a = 33 ∨ nx t a = 40) → opn S < 4 → P 1 (a + 1) (nx t a :: S) acc → P 1 a S acc)
    (hful : ∀ a S acc, bdE t a0 a S acc → (nx t a = 33 ∨ nx t a = 40) → opn S = 4 → R = (none, a) → P 1 a S acc)
    (htst : ∀ a S acc, bdE t a0 a S acc → ¬ nx t a = 33 → ¬ nx t a = 40 → (∀ b, pTs t a = (none, b) → R = (none, b)) → (∀ ts b, pTs t a = (some ts, b) → P 0 b (whl S).1 (acc ++ ts ++ (whl S).2)) → P 1 a S acc)
    (hop : ∀ a S acc, bdE t a0 a S acc → (nx t a = 38 ∨ nx t a = 124) → P 1 (a + 1) (nx t a :: (stl (nx t a) S).1) (acc ++ (stl (nx t a) S).2) → P 0 a S acc)
    (he1 : ∀ a S acc, bdE t a0 a S acc → ¬ nx t a = 38 → ¬ nx t a = 124 → (stl 124 S).1 = [] → R = (some (acc ++ (stl 124 S).2), a) → P 0 a S acc)
    (he2 : ∀ a S acc r, bdE t a0 a S acc → ¬ nx t a = 38 → ¬ nx t a = 124 → (stl 124 S).1 = 40 :: r → ¬ nx t a = 41 → R = (none, a) → P 0 a S acc)
    (he3 : ∀ a S acc r, bdE t a0 a S acc → (stl 124 S).1 = 40 :: r → nx t a = 41 → P 0 (a + 1) (whl r).1 (acc ++ (stl 124 S).2 ++ (whl r).2) → P 0 a S acc) :
    ∀ d a S acc, opn S + d = 4 → bdE t a0 a S acc → (∀ b, pFa Q t d a = (none, b) → R = (none, b)) → (∀ ts b, pFa Q t d a = (some ts, b) → P 0 b (whl S).1 (acc ++ ts ++ (whl S).2)) → P 1 a S acc
  | 0, a, S, acc, h1, h2, h3, h4 => by
    by_cases c1 : nx t a = 33 ∨ nx t a = 40
    · exact hful a S acc h2 c1 (by omega) (h3 a (by unfold pFa; rw [if_pos c1]))
    · refine htst a S acc h2 (fun z => c1 (Or.inl z)) (fun z => c1 (Or.inr z)) (fun b hb => h3 b (by unfold pFa; rw [if_neg c1]; exact hb)) (fun ts b hb => h4 ts b (by unfold pFa; rw [if_neg c1]; exact hb))
  | d + 1, a, S, acc, h1, h2, h3, h4 => by
    have IH := sy_F hQ hopen hful htst hop he1 he2 he3 d
    by_cases c1 : nx t a = 33
    · have hin := nx_in c1 (by decide)
      refine hopen a S acc h2 (Or.inl c1) (by omega) (IH (a + 1) _ acc ?_ ⟨?_, by omega⟩ (fun b hb => h3 b ?_) (fun ts b hb => ?_))
      · show (if nx t a = 33 ∨ nx t a = 40 then 1 else 0) + opn S + d = 4
        rw [if_pos (Or.inl c1)]; omega
      · rw [List.length_cons]; omega
      · unfold pFa; rw [if_pos c1, hb]
      · have := h4 (ts ++ [0]) b (by unfold pFa; rw [if_pos c1, hb])
        rw [whl_s, if_pos c1]
        show P 0 b (whl S).1 (acc ++ ts ++ (0 :: (whl S).2))
        rw [show acc ++ ts ++ (0 :: (whl S).2) = acc ++ (ts ++ [0]) ++ (whl S).2 by simp]
        exact this
    · by_cases c2 : nx t a = 40
      · have hin := nx_in c2 (by decide)
        refine hopen a S acc h2 (Or.inr c2) (by omega) ?_
        rw [c2]
        have hs : opn (40 :: S) + d = 4 := by
          show (if 40 = 33 ∨ 40 = 40 then 1 else 0) + opn S + d = 4
          rw [if_pos (Or.inr rfl)]; omega
        have := sy_E (Q := Q) (R := R) d hop he1 he2 he3 IH acc (40 :: S) (Or.inr ⟨S, rfl⟩) hs Q false false (a + 1) [] (by have := h2.1; omega) ⟨by rw [List.append_nil]; show acc.length + (S.length + 1) + a0 ≤ a + 1; omega, by omega⟩ (fun b hb => h3 b (by unfold pFa; rw [if_neg c1, if_pos c2, hb])) (fun ts b hb => ⟨fun z => (by cases z), fun r hr => ?_⟩)
        · rw [List.append_nil] at this
          exact this
        · cases hr
          refine ⟨fun z => h3 b (by unfold pFa; rw [if_neg c1, if_pos c2, hb]; show (if nx t b = 41 then _ else _) = _; rw [if_neg z]), fun z => h4 ts (b + 1) (by unfold pFa; rw [if_neg c1, if_pos c2, hb]; show (if nx t b = 41 then _ else _) = _; rw [if_pos z])⟩
      · refine htst a S acc h2 c1 c2 (fun b hb => h3 b (by unfold pFa; rw [if_neg c1, if_neg c2]; exact hb)) (fun ts b hb => h4 ts b (by unfold pFa; rw [if_neg c1, if_neg c2]; exact hb))
end
