theorem zOK_same {G : zG} {ad ad' : Nat → Nat} {σ σ' : Sg} {H H' : Heap} {p : Nat} (h : zOK G ad σ H p) (e1 : σ'.1 p = σ.1 p) (e2 : σ'.2.1 p = σ.2.1 p) (e3 : σ'.2.2.1 p = σ.2.2.1 p) (e4 : σ'.2.2.2.1 p = σ.2.2.2.1 p) (e5 : σ'.2.2.2.2 p = σ.2.2.2.2 p) (ea : ad' p = ad p) (eR : ∀ k q, σ.2.2.2.2 p k = some q → ad' q = ad q) (eH : H'[ad p]? = H[ad p]?) : zOK G ad' σ' H' p := by
  have em : ∀ k, (σ'.2.2.2.2 p k).map ad' = (σ.2.2.2.2 p k).map ad := by
    intro k
    rw [e5]
    cases hk : σ.2.2.2.2 p k with
    | none => rfl
    | some q => simp [eR k q hk]
  refine ⟨fun ci q hk hq => ?_, fun t ht hk => ?_⟩
  · rw [e1] at hk
    rw [ea]
    exact ((h.1 ci q hk hq).kept eH).to (fun k _ => by simp only [zfv, e3, em])
  · rw [e1] at hk
    rw [ea, eH, h.2 t ht hk, e2]
    congr 2
    funext j
    simp only [zel, e3, e4, em]
theorem zRl_put {G : zG} {b0 : Nat} {ad : Nat → Nat} {σ σ' : Sg} {H H' : Heap} {p : Nat} (h : zRl G b0 ad σ H) (hp : σ.1 p ≠ 0) (hp3 : σ.1 p < 30) (eK : σ'.1 = σ.1) (eN : σ'.2.1 = σ.2.1) (e3 : ∀ q, q ≠ p → σ'.2.2.1 q = σ.2.2.1 q) (e4 : ∀ q, q ≠ p → σ'.2.2.2.1 q = σ.2.2.2.1 q) (e5 : ∀ q, q ≠ p → σ'.2.2.2.2 q = σ.2.2.2.2 q) (hz : H'.size = H.size) (ho : ∀ q, q ≠ ad p → H'[q]? = H[q]?) (hok : zOK G ad σ' H' p) (hR : ∀ k q, σ'.2.2.2.2 p k = some q → σ.1 q ≠ 0) : zRl G b0 ad σ' H' := by
  refine ⟨fun q hq => ?_, fun q r hq hq3 hr hr3 => ?_, fun q k r hq hr => ?_, fun i hi => ?_⟩
  · rw [eK] at hq
    obtain ⟨h1, h2⟩ := h.1 q hq
    refine ⟨by rw [hz]; exact h1, fun hq3 => ?_⟩
    rw [eK] at hq3
    obtain ⟨h2, h3⟩ := h2 hq3
    refine ⟨h2, ?_⟩
    by_cases e : q = p
    · subst e; exact hok
    · exact zOK_same h3 (by rw [eK]) (by rw [eN]) (e3 q e) (e4 q e) (e5 q e) rfl (fun _ _ _ => rfl) (ho _ (fun z => e (h.2.1 q p hq hq3 hp hp3 z)))
  · rw [eK] at hq hr hq3 hr3
    exact h.2.1 q r hq hq3 hr hr3
  · rw [eK] at hq ⊢
    by_cases e : q = p
    · subst e; exact hR k r hr
    · rw [e5 q e] at hr; exact h.2.2.1 q k r hq hr
  · rw [eK]; exact h.2.2.2 i hi
theorem zl_t {σ : Sg} {a : Value} {r : List Value} (h : ∀ v ∈ a :: r, zlv σ v) : ∀ v ∈ r, zlv σ v := fun v hv => h v (List.mem_cons_of_mem _ hv)
theorem zl_c {σ : Sg} {a : Value} {r : List Value} (ha : zlv σ a) (h : ∀ v ∈ r, zlv σ v) : ∀ v ∈ a :: r, zlv σ v := fun v hv => (List.mem_cons.mp hv).elim (fun e => e ▸ ha) (h v)
theorem zl_i {σ : Sg} {x : Int32} {r : List Value} (h : ∀ v ∈ r, zlv σ v) : ∀ v ∈ .int x :: r, zlv σ v := zl_c (fun q e => by cases e) h
theorem zl_l {σ : Sg} {x : Int64} {r : List Value} (h : ∀ v ∈ r, zlv σ v) : ∀ v ∈ .long x :: r, zlv σ v := zl_c (fun q e => by cases e) h
theorem zl_n {σ : Sg} {r : List Value} (h : ∀ v ∈ r, zlv σ v) : ∀ v ∈ .null :: r, zlv σ v := zl_c (fun q e => by cases e) h
theorem zl_h {σ : Sg} {a : Value} {r : List Value} (h : ∀ v ∈ a :: r, zlv σ v) : zlv σ a := h a List.mem_cons_self
theorem zl_f {σ : Sg} {f : Nat × Value → Bool} {i : Nat} {v : Value} {lv : List (Nat × Value)} (hv : zlv σ v) (h : ∀ x ∈ lv, zlv σ x.2) : ∀ x ∈ (i, v) :: lv.filter f, zlv σ x.2 := fun x hx => (List.mem_cons.mp hx).elim (fun e => by rw [e]; exact hv) (fun q => h x (List.mem_filter.mp q).1)
theorem z_at {ls : Array Slot} {nL : Nat} {lv : List (Nat × Value)} {ad : Nat → Nat} (h : lv_has ls nL (lv.map fun x => (x.1, ph ad x.2))) {i : Nat} {v : Value} (hi : (i, v) ∈ lv) : ls[i]? = some (.val (ph ad v)) := h.2.2 (i, ph ad v) (List.mem_map.mpr ⟨(i, v), hi, rfl⟩)
def zlen (i : Instr) : Nat := match i with
  | .aload _ | .iload _ | .lload _ | .astore _ | .istore _ | .lstore _ | .bipush _ | .ldc _ => 2
  | .sipush _ | .iinc _ _ | .getfield _ | .putfield _ | .ldc2_w _ => 3
  | _ => 1
/-- what must hold ahead of an instruction so that k holds behind it -/
def z1 (nL : Nat) (lk : zLk) (ini : Bool) (i : Instr) (σ : Sg) (lv : List (Nat × Value)) (st : List Value) (k : Sg → List (Nat × Value) → List Value → Prop) : Prop := match i with
  | .aload n => zld lv n fun v => zvr v fun v => k σ lv (v :: st)
  | .aload_n n => zfin n fun n => zld lv n fun v => zvr v fun v => k σ lv (v :: st)
  | .iload n => zld lv n fun v => zi1 [v] fun x _ => k σ lv (.int x :: st)
  | .iload_n n => zfin n fun n => zld lv n fun v => zi1 [v] fun x _ => k σ lv (.int x :: st)
  | .lload n => zld lv n fun v => zl1 [v] fun x _ => k σ lv (.long x :: st)
  | .lload_n n => zfin n fun n => zld lv n fun v => zl1 [v] fun x _ => k σ lv (.long x :: st)
  | .istore n => bif Nat.blt n nL then zi1 st fun x r => zfil (zf1 n) lv fun l => k σ ((n, .int x) :: l) r else False
  | .istore_n n => zfin n fun n => bif Nat.blt n nL then zi1 st fun x r => zfil (zf1 n) lv fun l => k σ ((n, .int x) :: l) r else False
  | .astore n => bif Nat.blt n nL then zr1 st fun x r => zfil (zf1 n) lv fun l => k σ ((n, .ref x) :: l) r else False
  | .astore_n n => zfin n fun n => bif Nat.blt n nL then zr1 st fun x r => zfil (zf1 n) lv fun l => k σ ((n, .ref x) :: l) r else False
  | .iconst n => zcC n fun v => k σ lv (.int v :: st)
  | .bipush n => zcB 127 n fun v => k σ lv (.int v :: st)
  | .sipush n => zcB 32767 n fun v => k σ lv (.int v :: st)
  | .lconst n => k σ lv (.long (lN n.val) :: st)
  | .ldc n => zlkI lk.2.1 n fun v => k σ lv (.int v :: st)
  | .ldc2_w n => zlkL lk.2.2 n fun v => k σ lv (.long v :: st)
  | .iinc n c => zld lv n fun v => zi1 [v] fun x _ => zcC c fun c => bif Nat.blt n nL then zfil (zf1 n) lv fun l => k σ ((n, .int (x + c)) :: l) st else False
  | .iadd => zi2 st fun x y r => k σ lv (.int (x + y) :: r)
  | .isub => zi2 st fun x y r => k σ lv (.int (x - y) :: r)
  | .imul => zi2 st fun x y r => k σ lv (.int (x * y) :: r)
  | .iand => zi2 st fun x y r => k σ lv (.int (x &&& y) :: r)
  | .ior => zi2 st fun x y r => k σ lv (.int (x ||| y) :: r)
  | .ixor => zi2 st fun x y r => k σ lv (.int (x ^^^ y) :: r)
  | .ishl => zi2 st fun x y r => k σ lv (.int (x <<< (y &&& 31)) :: r)
  | .ishr => zi2 st fun x y r => k σ lv (.int (x >>> (y &&& 31)) :: r)
  | .ineg => zi1 st fun x r => k σ lv (.int (-x) :: r)
  | .i2b => zi1 st fun x r => k σ lv (.int (x.toInt8.toInt32) :: r)
  | .i2s => zi1 st fun x r => k σ lv (.int (x.toInt16.toInt32) :: r)
  | .i2c => zi1 st fun x r => k σ lv (.int ((x.toUInt32 % 65536).toInt32) :: r)
  | .land => zl2 st fun x y r => k σ lv (.long (x &&& y) :: r)
  | .lor => zl2 st fun x y r => k σ lv (.long (x ||| y) :: r)
  | .idiv => zi2 st fun x y r => ¬ y = 0 ∧ k σ lv (.int (x / y) :: r)
  | .irem => zi2 st fun x y r => ¬ y = 0 ∧ k σ lv (.int (x - x / y * y) :: r)
  | .i2l => zi1 st fun x r => k σ lv (.long x.toInt64 :: r)
  | .l2i => zl1 st fun x r => k σ lv (.int x.toInt32 :: r)
  | .lshl => zi1 st fun y r => zl1 r fun x r => k σ lv (.long (x <<< (y.toInt64 &&& 63)) :: r)
  | .lcmp => zl2 st fun x y r => k σ lv (.int (lg_cmp x y) :: r)
  | .dup => zv1 st fun v r => k σ lv (v :: v :: r)
  | .pop => zv1 st fun _ r => k σ lv r
  | .dup_x1 => zv1 st fun v r => zv1 r fun w r => k σ lv (v :: w :: v :: r)
  | .dup2 => zv1 st fun v r => zv1 r fun w r => k σ lv (v :: w :: v :: w :: r)
  | .getfield n => zlkF lk.1 n fun ci j tc _ => zr1 st fun p r => match σ with
    | (K, N, I, L, R) => bif Nat.beq (K p) (ci + 1) then (bif Nat.beq tc 1 then zop (R p j) (k (K, N, I, L, R) lv (.null :: r)) (fun q => k (K, N, I, L, R) lv (.ref q :: r)) else k (K, N, I, L, R) lv (.int (I p j) :: r)) else False
  | .putfield n => zlkF lk.1 n fun ci j tc fin => bif fin && !ini then False else zv1 st fun v r => zr1 r fun p r => match σ with
    | (K, N, I, L, R) => bif Nat.beq (K p) (ci + 1) then (match v with
      | .ref q => bif Nat.beq tc 1 then k (K, N, I, L, up2 R p j (some q)) lv r else False
      | .int x => (bif Nat.beq tc 0 then k (K, N, up2 I p j x, L, R) lv r else bif Nat.beq tc 2 then (narrow .boolean (.int x) = .int x ∧ fits .boolean (.int x) = true) ∧ k (K, N, up2 I p j x, L, R) lv r else bif Nat.beq tc 3 then (narrow .byte (.int x) = .int x ∧ fits .byte (.int x) = true) ∧ k (K, N, up2 I p j x, L, R) lv r else False)
      | _ => False) else False
  | .iaload => zi1 st fun i r => zr1 r fun p r => match σ with
    | (K, N, I, L, R) => bif Nat.beq (K p) 22 then vp_in i (N p) ∧ k (K, N, I, L, R) lv (.int (I p i.toNatClampNeg) :: r) else False
  | .caload => zi1 st fun i r => zr1 r fun p r => match σ with
    | (K, N, I, L, R) => bif Nat.beq (K p) 21 then vp_in i (N p) ∧ k (K, N, I, L, R) lv (.int (I p i.toNatClampNeg) :: r) else False
  | .baload => zi1 st fun i r => zr1 r fun p r => match σ with
    | (K, N, I, L, R) => bif Nat.beq (K p) 20 || Nat.beq (K p) 24 then vp_in i (N p) ∧ k (K, N, I, L, R) lv (.int (I p i.toNatClampNeg) :: r) else False
  | .laload => zi1 st fun i r => zr1 r fun p r => match σ with
    | (K, N, I, L, R) => bif Nat.beq (K p) 23 then vp_in i (N p) ∧ k (K, N, I, L, R) lv (.long (L p i.toNatClampNeg) :: r) else False
  | .iastore => zi1 st fun x r => zi1 r fun i r => zr1 r fun p r => match σ with
    | (K, N, I, L, R) => bif Nat.beq (K p) 22 then vp_in i (N p) ∧ k (K, N, up2 I p i.toNatClampNeg x, L, R) lv r else False
  | .castore => zi1 st fun x r => zi1 r fun i r => zr1 r fun p r => match σ with
    | (K, N, I, L, R) => bif Nat.beq (K p) 21 then vp_in i (N p) ∧ k (K, N, up2 I p i.toNatClampNeg (vp_nar .char x), L, R) lv r else False
  | .bastore => zi1 st fun x r => zi1 r fun i r => zr1 r fun p r => match σ with
    | (K, N, I, L, R) => bif Nat.beq (K p) 20 then vp_in i (N p) ∧ k (K, N, up2 I p i.toNatClampNeg (vp_nar .byte x), L, R) lv r else bif Nat.beq (K p) 24 then vp_in i (N p) ∧ k (K, N, up2 I p i.toNatClampNeg (vp_nar .boolean x), L, R) lv r else False
  | .lastore => zl1 st fun x r => zi1 r fun i r => zr1 r fun p r => match σ with
    | (K, N, I, L, R) => bif Nat.beq (K p) 23 then vp_in i (N p) ∧ k (K, N, I, up2 L p i.toNatClampNeg x, R) lv r else False
  | .arraylength => zr1 st fun p r => match σ with
    | (K, N, I, L, R) => bif Nat.ble 20 (K p) && Nat.ble (K p) 25 then k (K, N, I, L, R) lv (.int (nI (N p)) :: r) else False
  | _ => False
