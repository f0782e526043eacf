/-! ===== the machine, when the law begins ===== -/
theorem z_tw {args : Array Value} {s : State} (htl : ∀ w ∈ lw_tbl, w.before args s = true) : ∀ w ∈ zGW, w.before args s = true := by
  intro w hw
  rcases List.mem_cons.mp (List.mem_filter.mp hw).1 with rfl | h
  · exact z_selPriv (y := ⟨"java/lang/AbstractStringBuilder", "ensureCapacityInternal", "(I)V"⟩) (n := 4) ⟨by decide +kernel, by decide +kernel⟩ (htl _ (List.mem_of_getElem? (i := 188) (by decide +kernel))) (htl _ (List.mem_of_getElem? (i := 908) (by decide +kernel))) (htl _ (List.mem_of_getElem? (i := 909) (by decide +kernel))) (htl _ (List.mem_of_getElem? (i := 1709) (by decide +kernel)))
  · exact htl w h
theorem z_ins {args : Array Value} {s : State} (htl : ∀ w ∈ lw_tbl, w.before args s = true) : ∀ (ci : Nat) (cq : vw_C), vwCl[ci]? = some cq → ∃ n, (Cond.instantiable cq.1 n).before args s = true
  | 0, cq, h => by cases h; exact ⟨4, htl _ (List.mem_of_getElem? (i := 188) (by decide +kernel))⟩
  | 1, cq, h => by cases h; exact ⟨2, htl _ (List.mem_of_getElem? (i := 323) (by decide +kernel))⟩
  | 2, cq, h => by cases h; exact ⟨11, htl _ (List.mem_of_getElem? (i := 112) (by decide +kernel))⟩
  | 3, cq, h => by cases h; exact ⟨2, htl _ (List.mem_of_getElem? (i := 350) (by decide +kernel))⟩
  | 4, cq, h => by cases h; exact ⟨2, htl _ (List.mem_of_getElem? (i := 305) (by decide +kernel))⟩
  | 5, cq, h => by cases h; exact ⟨2, htl _ (List.mem_of_getElem? (i := 278) (by decide +kernel))⟩
  | 6, cq, h => by cases h; exact ⟨2, htl _ (List.mem_of_getElem? (i := 332) (by decide +kernel))⟩
  | 7, cq, h => by cases h; exact ⟨2, htl _ (List.mem_of_getElem? (i := 314) (by decide +kernel))⟩
  | 8, cq, h => by cases h; exact ⟨4, htl _ (List.mem_of_getElem? (i := 507) (by decide +kernel))⟩
  | 9, cq, h => by cases h; exact ⟨4, htl _ (List.mem_of_getElem? (i := 120) (by decide +kernel))⟩
  | 10, cq, h => by cases h; exact ⟨2, htl _ (List.mem_of_getElem? (i := 341) (by decide +kernel))⟩
  | 11, cq, h => by cases h; exact ⟨5, htl _ (List.mem_of_getElem? (i := 513) (by decide +kernel))⟩
  | 12, cq, h => by cases h; exact ⟨13, htl _ (List.mem_of_getElem? (i := 104) (by decide +kernel))⟩
  | 13, cq, h => by cases h; exact ⟨70, htl _ (List.mem_of_getElem? (i := 1117) (by decide +kernel))⟩
  | n + 14, cq, h => absurd (zcl_lt h) (by omega)
theorem z_kn1 {args : Array Value} {s : State} (htl : ∀ w ∈ lw_tbl, w.before args s = true) (ci : Nat) : ∃ q : ClassId × (Nat → Nat), ∀ cq, vwCl[ci]? = some cq → u_Kn s cq.1 cq.2.1 cq.2.2 q.1 q.2 := by
  cases h : vwCl[ci]? with
  | none => exact ⟨(0, fun _ => 0), fun cq hc => (by cases hc)⟩
  | some cq0 =>
    obtain ⟨n, hi⟩ := z_ins htl ci cq0 h
    obtain ⟨cC, iS, hk⟩ := u_known (z_tw htl) (zin h) hi
    exact ⟨(cC, iS), fun cq hc => by cases hc; exact hk⟩
theorem z_arr {args : Array Value} {s : State} {ty : FieldType} (h : (Cond.arrayClass ty).before args s = true) : ∃ cA, ArrOfT s cA ty ∧ s.vm.findClass ("[" ++ ty.toString) = some cA := by
  obtain ⟨c, k, comp, h1, h2, h3⟩ := Cond.arrayClass_spec (args := args) (first := s) (o := none) (s := s) (idx := []) h
  exact ⟨c, fun n z => ⟨fun k h => (by cases h), k, h2, comp, h3⟩, h1⟩
theorem z_kn2 {args : Array Value} {s : State} (htl : ∀ w ∈ lw_tbl, w.before args s = true) : ∀ t : Nat, ∃ cA : ClassId, t < 6 → ArrOfT s cA (zat t) ∧ va_RA s cA (zat t)
  | 0 => by obtain ⟨c, h1, h2⟩ := z_arr (z_tw htl _ ka_byte); exact ⟨c, fun _ => ⟨h1, h2⟩⟩
  | 1 => by obtain ⟨c, h1, h2⟩ := z_arr (z_tw htl _ ka_char); exact ⟨c, fun _ => ⟨h1, h2⟩⟩
  | 2 => by obtain ⟨c, h1, h2⟩ := z_arr (z_tw htl _ ka_int); exact ⟨c, fun _ => ⟨h1, h2⟩⟩
  | 3 => by obtain ⟨c, h1, h2⟩ := z_arr (z_tw htl _ ka_long); exact ⟨c, fun _ => ⟨h1, h2⟩⟩
  | 4 => by obtain ⟨c, h1, h2⟩ := z_arr (z_tw htl _ ka_boolean); exact ⟨c, fun _ => ⟨h1, h2⟩⟩
  | 5 => by
    obtain ⟨comp, c, k, h1, -, h2, h3, h4⟩ := Cond.arrayOver_spec (args := args) (first := s) (o := none) (s := s) (idx := []) (n := "PunchedSouls$Hand") (htl _ (List.mem_of_getElem? (i := 118) (by decide +kernel)))
    exact ⟨c, fun _ => ⟨fun n z => ⟨fun k h => (by cases h), k, h2, comp, h3⟩, k, comp, h2, h3, h1, h4⟩⟩
  | n + 6 => ⟨0, fun h => absurd h (by omega)⟩
theorem z_kx {args : Array Value} {s : State} (htl : ∀ w ∈ lw_tbl, w.before args s = true) (hgv : (Jvm.Cond.and given_1 narrow_1).before args s = true) : zKx s := by
  have hs := flat_of_before _ hgv
  refine ⟨va_AO.of (htl _ (List.mem_of_getElem? (i := 118) (by decide +kernel))), fun q hq => ?_, fun q hq => va_Nc.of (hs _ ((show ∀ q ∈ zNc, Cond.not (.castable q.1 q.2) ∈ flatC (Jvm.Cond.and given_1 narrow_1) by decide +kernel) q hq))⟩
  exact va_Nw.of rfl (htl _ ((show ∀ q ∈ zCa, Cond.castable q.1 q.2 ∈ lw_tbl by decide +kernel) q hq))
def ztm (i : Nat) : Term := .string "PunchedSouls$Reader" (zget [43, 45, 47, 73] i)
theorem z_start {args : Array Value} {s : State} (htl : ∀ w ∈ lw_tbl, w.before args s = true) (hgv : (Jvm.Cond.and given_1 narrow_1).before args s = true) : ∃ G : zG, zK G s ∧ zEx G s.heap.size s s.heap := by
  have hs := flat_of_before _ hgv
  have hA : ∀ a : Nat, a < s.heap.size → ¬ s.heap.size ≤ a := fun a h => by omega
  obtain ⟨f1, hf1⟩ := Classical.axiomOfChoice (z_kn1 htl)
  obtain ⟨f2, hf2⟩ := Classical.axiomOfChoice (z_kn2 htl)
  obtain ⟨adK, adV, hS, hE⟩ := vk_Sof (args := args) (s := s) (N := 4) (tm := ztm) (len := zlens) (byt := zbyts) (A := fun q => s.heap.size ≤ q)
    (show ∀ i : Nat, i < 4 → zlens.getD i 0 < 2 ^ 31 by decide +kernel)
    (fun i hi => hs _ ((show ∀ i : Nat, i < 4 → Cond.exactly (ztm i) "java/lang/String" ∈ flatC (Jvm.Cond.and given_1 narrow_1) by decide +kernel) i hi))
    (fun i hi => hs _ ((show ∀ i : Nat, i < 4 → Cond.eq (.field (ztm i) "java/lang/String" "coder" "B") (.int 0) ∈ flatC (Jvm.Cond.and given_1 narrow_1) by decide +kernel) i hi))
    (fun i hi => hs _ ((show ∀ i : Nat, i < 4 → Cond.arrayOf (.field (ztm i) "java/lang/String" "value" "[B") .byte ∈ flatC (Jvm.Cond.and given_1 narrow_1) by decide +kernel) i hi))
    (fun i hi => hs _ ((show ∀ i : Nat, i < 4 → Cond.eq (.length (.field (ztm i) "java/lang/String" "value" "[B")) (.int (Int32.ofNat (zlens.getD i 0))) ∈ flatC (Jvm.Cond.and given_1 narrow_1) by decide +kernel) i hi))
    (fun i hi j hj => hs _ ((show ∀ i : Nat, i < 4 → ∀ j : Nat, j < zlens.getD i 0 → Cond.eq (.elem (.field (ztm i) "java/lang/String" "value" "[B") (.int (Int32.ofNat j))) (.int ((zbyts.getD i []).getD j 0)) ∈ flatC (Jvm.Cond.and given_1 narrow_1) by decide +kernel) i hi j hj))
    (fun i j hi hj hij => by
      rcases (show ∀ i : Nat, i < 4 → ∀ j : Nat, j < 4 → i ≠ j → (Cond.not (Cond.eq (ztm i) (ztm j)) ∈ flatC (Jvm.Cond.and given_1 narrow_1) ∨ Cond.not (Cond.eq (ztm j) (ztm i)) ∈ flatC (Jvm.Cond.and given_1 narrow_1)) by decide +kernel) i hi j hj hij with h | h
      · exact Or.inl (hs _ h)
      · exact Or.inr (hs _ h)) hA
  refine ⟨(fun ci => (f1 ci).1, fun ci => (f1 ci).2, f2, adK, adV), ⟨fun ci q hq => hf1 ci q hq, fun t ht => hf2 t ht, va_Nw.of rfl (htl _ (List.mem_of_getElem? (i := 113) (by decide +kernel))), va_Nw.of rfl (htl _ (List.mem_of_getElem? (i := 624) (by decide +kernel))), z_kx htl hgv⟩, ?_⟩
  refine ⟨va_Zof (htl _ (List.mem_of_getElem? (i := 197) (by decide +kernel))) (htl _ (List.mem_of_getElem? (i := 83) (by decide +kernel))) (va_eqt (hs _ (by decide +kernel))) hA, va_Zqof (htl _ (List.mem_of_getElem? (i := 593) (by decide +kernel))) (htl _ (List.mem_of_getElem? (i := 98) (by decide +kernel))) (hs _ (by decide +kernel)) hA, hS, vk_R.of (htl _ (List.mem_of_getElem? (i := 562) (by decide +kernel))) (hE 0 (by decide)), vk_R.of (htl _ (List.mem_of_getElem? (i := 563) (by decide +kernel))) (hE 1 (by decide)), vk_R.of (htl _ (List.mem_of_getElem? (i := 564) (by decide +kernel))) (hE 2 (by decide)), vk_R.of (htl _ (List.mem_of_getElem? (i := 637) (by decide +kernel))) (hE 3 (by decide))⟩
