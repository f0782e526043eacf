/-! ===== the judgement inside a method over the abstract heap, and straight code by its weakest precondition ===== -/
abbrev zX : Type := Program × Launch × Env × Room × State × MethodId × Array Value × List Frame × Method × Code × (State → Prop) × zG × Nat × Nat × Sg × (Nat → Nat)
def zS (X : zX) (σ : Sg) (cells slots pc : Nat) (lv : List (Nat × Value)) (st : List Value) : Prop := match X with
  | (p, l, e, R, s, m, args, below, meth, c, Q, G, b0, nL, σ0, ad0) =>
    ∀ (ad : Nat → Nat) (H : Heap) (locs : List Loc) (ls : Array Slot), (∀ q, σ0.1 q ≠ 0 → ad q = ad0 q ∧ σ.1 q = σ0.1 q) → zRl G b0 ad σ H → (∀ x ∈ lv, zlv σ x.2) → (∀ v ∈ st, zlv σ v) →
      va_S (fun q => b0 ≤ q) s.heap H locs → lv_has ls nL (lv.map fun x => (x.1, ph ad x.2)) → W p l e R s m args below meth c H locs cells slots Q (F0 m pc ls (st.map (ph ad)))
def zC (X : zX) (M : zM) : Prop := match X with
  | (p, _, _, _, s, m, args, _, meth, c, _, G, b0, nL, _, _) =>
    p.tables.exec = Jvm.exec ∧ c.code = M.2.1 ∧ c.maxLocals = nL ∧ s.vm.findClass M.1.cls = some m.cls ∧ (∀ w ∈ zws M, w.before args s = true) ∧ zK G s ∧ meth.locks = false ∧ b0 ≤ s.heap.size ∧ nL = M.2.2.1 ∧ meth.sig.returnType = M.2.2.2 ∧ meth.name = M.1.name ∧ zEx G b0 s s.heap
def up2 {α : Type} (f : Nat → Nat → α) (p k : Nat) (v : α) : Nat → Nat → α := fun p' k' => bif Nat.beq p' p && Nat.beq k' k then v else f p' k'
theorem up2_ne {α : Type} (f : Nat → Nat → α) {p q : Nat} (k : Nat) (v : α) (h : q ≠ p) : up2 f p k v q = f q := by
  funext j
  have h1 : Nat.beq q p = false := by
    cases hb : Nat.beq q p with
    | false => rfl
    | true => exact absurd (Nat.eq_of_beq_eq_true hb) h
  simp [up2, h1]
theorem up2_at {α : Type} (f : Nat → Nat → α) (p k : Nat) (v : α) (j : Nat) : up2 f p k v p j = if j = k then v else f p j := by
  have h0 : Nat.beq p p = true := Nat.beq_refl p
  by_cases h : j = k
  · subst h
    have h2 : Nat.beq j j = true := Nat.beq_refl j
    simp [up2, h0, h2]
  · have h1 : Nat.beq j k = false := by
      cases hb : Nat.beq j k with
      | false => rfl
      | true => exact absurd (Nat.eq_of_beq_eq_true hb) h
    simp [up2, h0, h1, h]
theorem up2_self {α : Type} (f : Nat → Nat → α) (p k : Nat) (v : α) : up2 f p k v p k = v := by rw [up2_at, if_pos rfl]
/-! destructors, in continuation style, so that they compute -/
def zi1 (st : List Value) (k : Int32 → List Value → Prop) : Prop := match st with
  | .int x :: r => k x r
  | _ => False
def zi2 (st : List Value) (k : Int32 → Int32 → List Value → Prop) : Prop := zi1 st fun y r => zi1 r fun x r => k x y r
def zl1 (st : List Value) (k : Int64 → List Value → Prop) : Prop := match st with
  | .long x :: r => k x r
  | _ => False
def zl2 (st : List Value) (k : Int64 → Int64 → List Value → Prop) : Prop := zl1 st fun y r => zl1 r fun x r => k x y r
def zr1 (st : List Value) (k : Nat → List Value → Prop) : Prop := match st with
  | .ref x :: r => k x r
  | _ => False
def zv1 (st : List Value) (k : Value → List Value → Prop) : Prop := match st with
  | .int x :: r => k (.int x) r
  | .ref x :: r => k (.ref x) r
  | .null :: r => k .null r
  | _ => False
theorem zi1_sp {st : List Value} {k : Int32 → List Value → Prop} (h : zi1 st k) : ∃ x r, st = .int x :: r ∧ k x r := by
  unfold zi1 at h
  split at h
  · exact ⟨_, _, rfl, h⟩
  · exact h.elim
theorem zl1_sp {st : List Value} {k : Int64 → List Value → Prop} (h : zl1 st k) : ∃ x r, st = .long x :: r ∧ k x r := by
  unfold zl1 at h
  split at h
  · exact ⟨_, _, rfl, h⟩
  · exact h.elim
theorem zr1_sp {st : List Value} {k : Nat → List Value → Prop} (h : zr1 st k) : ∃ x r, st = .ref x :: r ∧ k x r := by
  unfold zr1 at h
  split at h
  · exact ⟨_, _, rfl, h⟩
  · exact h.elim
theorem zi2_sp {st : List Value} {k : Int32 → Int32 → List Value → Prop} (h : zi2 st k) : ∃ x y r, st = .int y :: .int x :: r ∧ k x y r := by
  obtain ⟨y, r, e1, h1⟩ := zi1_sp h
  obtain ⟨x, r2, e2, h2⟩ := zi1_sp h1
  subst e2
  subst e1
  exact ⟨x, y, r2, rfl, h2⟩
theorem zl2_sp {st : List Value} {k : Int64 → Int64 → List Value → Prop} (h : zl2 st k) : ∃ x y r, st = .long y :: .long x :: r ∧ k x y r := by
  obtain ⟨y, r, e1, h1⟩ := zl1_sp h
  obtain ⟨x, r2, e2, h2⟩ := zl1_sp h1
  subst e2
  subst e1
  exact ⟨x, y, r2, rfl, h2⟩
theorem zv1_sp {st : List Value} {k : Value → List Value → Prop} (h : zv1 st k) : ∃ v r, st = v :: r ∧ k v r ∧ v.category = 1 := by
  unfold zv1 at h
  split at h
  · exact ⟨_, _, rfl, h, rfl⟩
  · exact ⟨_, _, rfl, h, rfl⟩
  · exact ⟨_, _, rfl, h, rfl⟩
  · exact h.elim
/-- a local by its number -/
def zld (lv : List (Nat × Value)) (i : Nat) (k : Value → Prop) : Prop := match lv with
  | [] => False
  | q :: l => bif Nat.beq q.1 i then k q.2 else zld l i k
theorem zld_sp : ∀ {lv : List (Nat × Value)} {i : Nat} {k : Value → Prop}, zld lv i k → ∃ v, (i, v) ∈ lv ∧ k v
  | [], _, _, h => h.elim
  | q :: l, i, k, h => by
    unfold zld at h
    cases hb : Nat.beq q.1 i with
    | true =>
      rw [hb] at h
      have := Nat.eq_of_beq_eq_true hb
      subst this
      exact ⟨q.2, List.mem_cons_self, h⟩
    | false =>
      rw [hb] at h
      obtain ⟨v, h1, h2⟩ := zld_sp h
      exact ⟨v, List.mem_cons_of_mem _ h1, h2⟩
def zfil (f : Nat × Value → Bool) : List (Nat × Value) → (List (Nat × Value) → Prop) → Prop
  | [], k => k []
  | q :: l, k => zfil f l (fun l' => bif f q then k (q :: l') else k l')
theorem zfil_sp (f : Nat × Value → Bool) : ∀ (l : List (Nat × Value)) (k : List (Nat × Value) → Prop), zfil f l k → k (l.filter f)
  | [], k, h => h
  | q :: l, k, h => by
    have h1 := zfil_sp f l _ h
    cases hq : f q with
    | true => rw [hq] at h1; rw [List.filter_cons_of_pos hq]; exact h1
    | false => rw [hq] at h1; rw [List.filter_cons_of_neg (by simp [hq])]; exact h1
abbrev zf1 (i : Nat) : Nat × Value → Bool := fun q => !(q.1 == i) && !(q.1 + 1 == i && q.2.category == 2)
abbrev zf2 (i : Nat) : Nat × Value → Bool := fun q => !(q.1 == i) && (!(q.1 == i + 1) && !(q.1 + 1 == i && q.2.category == 2))
theorem zmapf (ad : Nat → Nat) (f : Nat × Value → Bool) (hf : ∀ q, f (q.1, ph ad q.2) = f q) (l : List (Nat × Value)) : (l.map fun x => (x.1, ph ad x.2)).filter f = (l.filter f).map fun x => (x.1, ph ad x.2) := by
  rw [List.filter_map]
  congr 1
  apply List.filter_congr
  intro q _
  exact hf q
theorem zf1_ph (ad : Nat → Nat) (i : Nat) (q : Nat × Value) : zf1 i (q.1, ph ad q.2) = zf1 i q := by simp only [zf1, ph_cat]
theorem zf2_ph (ad : Nat → Nat) (i : Nat) (q : Nat × Value) : zf2 i (q.1, ph ad q.2) = zf2 i q := by simp only [zf2, ph_cat]
/-- a constant as a number's name -/
def zcC (n : Int) (k : Int32 → Prop) : Prop := match n with
  | .ofNat a => k (nI a)
  | .negSucc a => k (-(nI (a + 1)))
def zcB (w : Nat) (n : Int) (k : Int32 → Prop) : Prop := match n with
  | .ofNat a => bif Nat.ble a w then k (nI a) else False
  | .negSucc a => bif Nat.ble a w then k (-(nI (a + 1))) else False
theorem zcC_sp {n : Int} {k : Int32 → Prop} (h : zcC n k) : k (Int32.ofInt n) := by
  cases n with
  | ofNat a => exact h
  | negSucc a =>
    have e : Int32.ofInt (Int.negSucc a) = -(nI (a + 1)) := by
      rw [show (Int.negSucc a) = -((a + 1 : Nat) : Int) from rfl, Int32.ofInt_neg]; rfl
    rw [e]; exact h
theorem zcB8 : (∀ a : Nat, a < 128 → (Int8.ofInt (Int.ofNat a)).toInt32 = nI a) ∧ (∀ a : Nat, a < 128 → (Int8.ofInt (Int.negSucc a)).toInt32 = -(nI (a + 1))) := by decide +kernel
theorem zcB16a {a : Nat} (h : a < 32768) : (Int16.ofInt (Int.ofNat a)).toInt32 = nI a := by
  apply Int32.toInt_inj.mp
  rw [Int16.toInt_toInt32, nI_toInt (by omega), Int16.toInt_ofInt]
  show Int.bmod (a : Int) 65536 = a
  simp only [Int.bmod]
  split <;> omega
theorem zcB16b {a : Nat} (h : a < 32768) : (Int16.ofInt (Int.negSucc a)).toInt32 = -(nI (a + 1)) := by
  apply Int32.toInt_inj.mp
  rw [Int16.toInt_toInt32, sb_negT (by omega), Int16.toInt_ofInt]
  show Int.bmod (Int.negSucc a) 65536 = _
  rw [Int.negSucc_eq]
  simp only [Int.bmod]
  split <;> omega
theorem zcB_sp8 {n : Int} {k : Int32 → Prop} (h : zcB 127 n k) : k ((Int8.ofInt n).toInt32) := by
  cases n with
  | ofNat a =>
    unfold zcB at h
    cases hb : Nat.ble a 127 with
    | false => simp only [hb] at h; exact h.elim
    | true => simp only [hb] at h; rw [zcB8.1 a (Nat.lt_succ_of_le (Nat.le_of_ble_eq_true hb))]; exact h
  | negSucc a =>
    unfold zcB at h
    cases hb : Nat.ble a 127 with
    | false => simp only [hb] at h; exact h.elim
    | true => simp only [hb] at h; rw [zcB8.2 a (Nat.lt_succ_of_le (Nat.le_of_ble_eq_true hb))]; exact h
theorem zcB_sp16 {n : Int} {k : Int32 → Prop} (h : zcB 32767 n k) : k ((Int16.ofInt n).toInt32) := by
  cases n with
  | ofNat a =>
    unfold zcB at h
    cases hb : Nat.ble a 32767 with
    | false => simp only [hb] at h; exact h.elim
    | true => simp only [hb] at h; rw [zcB16a (Nat.lt_succ_of_le (Nat.le_of_ble_eq_true hb))]; exact h
  | negSucc a =>
    unfold zcB at h
    cases hb : Nat.ble a 32767 with
    | false => simp only [hb] at h; exact h.elim
    | true => simp only [hb] at h; rw [zcB16b (Nat.lt_succ_of_le (Nat.le_of_ble_eq_true hb))]; exact h
def zfin (n : Fin 4) (k : Nat → Prop) : Prop := match n with
  | 0 => k 0
  | 1 => k 1
  | 2 => k 2
  | 3 => k 3
theorem zfin_sp {n : Fin 4} {k : Nat → Prop} (h : zfin n k) : k n.val := by
  match n, h with
  | 0, h => exact h
  | 1, h => exact h
  | 2, h => exact h
  | 3, h => exact h
def zvr (v : Value) (k : Value → Prop) : Prop := match v with
  | .ref a => k (.ref a)
  | .null => k .null
  | _ => False
theorem zvr_sp {v : Value} {k : Value → Prop} (h : zvr v k) : ((∃ a, v = .ref a) ∨ v = .null) ∧ k v := by
  unfold zvr at h
  split at h
  · exact ⟨Or.inl ⟨_, rfl⟩, h⟩
  · exact ⟨Or.inr rfl, h⟩
  · exact h.elim
def zop (o : Option Nat) (a : Prop) (k : Nat → Prop) : Prop := match o with
  | none => a
  | some q => k q
theorem zop_sp {o : Option Nat} {a : Prop} {k : Nat → Prop} (h : zop o a k) : (o = none ∧ a) ∨ ∃ q, o = some q ∧ k q := by
  unfold zop at h
  split at h
  · exact Or.inl ⟨rfl, h⟩
  · exact Or.inr ⟨_, rfl, h⟩
/-- links of a class: fields (entry, class number, slot, type's code, final), whole constants -/
abbrev zLk : Type := List (Nat × Nat × Nat × Nat × Bool) × List (Nat × Int32) × List (Nat × Int64)
def zlkF (l : List (Nat × Nat × Nat × Nat × Bool)) (i : Nat) (k : Nat → Nat → Nat → Bool → Prop) : Prop := match l with
  | [] => False
  | (a, ci, j, tc, fin) :: l => bif Nat.beq a i then k ci j tc fin else zlkF l i k
def zlkI (l : List (Nat × Int32)) (i : Nat) (k : Int32 → Prop) : Prop := match l with
  | [] => False
  | (a, v) :: l => bif Nat.beq a i then k v else zlkI l i k
def zlkL (l : List (Nat × Int64)) (i : Nat) (k : Int64 → Prop) : Prop := match l with
  | [] => False
  | (a, v) :: l => bif Nat.beq a i then k v else zlkL l i k
theorem zlkF_sp : ∀ {l : List (Nat × Nat × Nat × Nat × Bool)} {i : Nat} {k : Nat → Nat → Nat → Bool → Prop}, zlkF l i k → ∃ ci j tc fin, (i, ci, j, tc, fin) ∈ l ∧ k ci j tc fin
  | [], _, _, h => h.elim
  | (a, ci, j, tc, fin) :: l, i, k, h => by
    unfold zlkF at h
    cases hb : Nat.beq a i with
    | true =>
      rw [hb] at h
      have := Nat.eq_of_beq_eq_true hb
      subst this
      exact ⟨ci, j, tc, fin, List.mem_cons_self, h⟩
    | false =>
      rw [hb] at h
      obtain ⟨c, d, e, f, h1, h2⟩ := zlkF_sp h
      exact ⟨c, d, e, f, List.mem_cons_of_mem _ h1, h2⟩
theorem zlkI_sp : ∀ {l : List (Nat × Int32)} {i : Nat} {k : Int32 → Prop}, zlkI l i k → ∃ v, (i, v) ∈ l ∧ k v
  | [], _, _, h => h.elim
  | (a, v) :: l, i, k, h => by
    unfold zlkI at h
    cases hb : Nat.beq a i with
    | true =>
      rw [hb] at h
      have := Nat.eq_of_beq_eq_true hb
      subst this
      exact ⟨v, List.mem_cons_self, h⟩
    | false =>
      rw [hb] at h
      obtain ⟨v, h1, h2⟩ := zlkI_sp h
      exact ⟨v, List.mem_cons_of_mem _ h1, h2⟩
theorem zlkL_sp : ∀ {l : List (Nat × Int64)} {i : Nat} {k : Int64 → Prop}, zlkL l i k → ∃ v, (i, v) ∈ l ∧ k v
  | [], _, _, h => h.elim
  | (a, v) :: l, i, k, h => by
    unfold zlkL at h
    cases hb : Nat.beq a i with
    | true =>
      rw [hb] at h
      have := Nat.eq_of_beq_eq_true hb
      subst this
      exact ⟨v, List.mem_cons_self, h⟩
    | false =>
      rw [hb] at h
      obtain ⟨v, h1, h2⟩ := zlkL_sp h
      exact ⟨v, List.mem_cons_of_mem _ h1, h2⟩
/-- a field's entry: its class, its slot, its link, its type's code (0 int, 1 a reference, 2 boolean, 3 byte), whether it is final (then declared by the class itself) -/
def zFe (own : String) (q : Nat × Nat × Nat × Nat × Bool) : Prop := ∃ (c : vw_C) (rf : String), vwCl[q.2.1]? = some c ∧ q.2.2.1 < c.2.2 ∧ Cond.fieldLink own q.1 rf (c.2.1 q.2.2.1).2.1 (c.2.1 q.2.2.1).2.2.1 ∈ zGW ∧
  (rf = (c.2.1 q.2.2.1).1 ∨ Cond.sameField rf (c.2.1 q.2.2.1).1 (c.2.1 q.2.2.1).2.1 (c.2.1 q.2.2.1).2.2.1 ∈ zGW) ∧ (c.2.1 q.2.2.1).2.2.2 = q.2.2.2.2 ∧
  (q.2.2.2.1 = 1 ↔ zisR (zty q.2.1 q.2.2.1) = true) ∧ (q.2.2.2.1 = 0 → zty q.2.1 q.2.2.1 = .int) ∧ (q.2.2.2.1 = 2 → zty q.2.1 q.2.2.1 = .boolean) ∧ (q.2.2.2.1 = 3 → zty q.2.1 q.2.2.1 = .byte)
def zlkOK (own : String) (lk : zLk) : Prop := (∀ q ∈ lk.1, zFe own q) ∧ (∀ q ∈ lk.2.1, Cond.constant own q.1 q.2 ∈ zGW) ∧ (∀ q ∈ lk.2.2, Cond.constantLong own q.1 q.2 ∈ zGW)
