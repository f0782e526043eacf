/-! ===== an abstract heap of numbered places over the machine's: what a place holds is data; addresses are hidden in a map ===== -/
/-- a private method of StringBuilder's superclass is its own on a StringBuilder -/
def zXw : Cond := Cond.selects "java/lang/StringBuilder" ⟨"java/lang/AbstractStringBuilder", "ensureCapacityInternal", "(I)V"⟩ ⟨"java/lang/AbstractStringBuilder", "ensureCapacityInternal", "(I)V"⟩
def zGW : List Cond := (zXw :: lw_tbl).filter goodWord
theorem zGW_in {w : Cond} (h : w ∈ lw_tbl) (hg : goodWord w = true) : w ∈ zGW := List.mem_filter.mpr ⟨List.mem_cons_of_mem _ h, hg⟩
theorem zGW_x : zXw ∈ zGW := List.mem_filter.mpr ⟨List.mem_cons_self, rfl⟩
theorem zGW_at (i : Nat) {w : Cond} (h : lw_tbl[i]? = some w) (hg : goodWord w = true) : w ∈ zGW := zGW_in (List.mem_of_getElem? h) hg
theorem zGW_ok {w : Cond} (h : w ∈ zGW) : (w.onTables && w.keeps) = true ∨ ∃ ty, w = .arrayClass ty := good_of_word (List.mem_filter.mp h).2
/-- a method: its name, code, locals, answer's type -/
abbrev zM : Type := MethodName × ByteArray × Nat × Option FieldType
abbrev zws (M : zM) : List Cond := .code M.1 M.2.1 M.2.2.1 M.2.2.2 :: zGW
theorem z_good {M' M : zM} (h : Cond.code M.1 M.2.1 M.2.2.1 M.2.2.2 ∈ zGW) : GoodIn (zws M') (zws M) := by
  intro w hw
  rcases List.mem_cons.mp hw with rfl | hw
  · exact ⟨List.mem_cons_of_mem _ h, zGW_ok h⟩
  · exact ⟨List.mem_cons_of_mem _ hw, zGW_ok hw⟩
/-- kinds, lengths, ints, longs, references, by place -/
abbrev Sg : Type := (Nat → Nat) × (Nat → Nat) × (Nat → Nat → Int32) × (Nat → Nat → Int64) × (Nat → Nat → Option Nat)
/-- classes' numbers, fields' slots, array classes, String constants and their bytes -/
abbrev zG : Type := (Nat → ClassId) × (Nat → Nat → Nat) × (Nat → ClassId) × (Nat → Nat) × (Nat → Nat)
def ph (ad : Nat → Nat) (v : Value) : Value := match v with
  | .ref a => .ref (ad a)
  | w => w
theorem ph_cat (ad : Nat → Nat) (v : Value) : (ph ad v).category = v.category := by cases v <;> rfl
def zty (ci : Nat) : Nat → FieldType := match ci with
  | 0 => tyJ4
  | 1 => tyX0
  | 2 => tyX1
  | 3 => tyX2
  | 4 => tyX3
  | 5 => tyX4
  | 6 => tyX5
  | 7 => tyX6
  | 8 => tyX7
  | 9 => tyX8
  | 10 => tyX9
  | 11 => tyX10
  | 12 => tyX11
  | _ => tyX12
/-- an array's items, by its kind less 20 -/
def zat (t : Nat) : FieldType := match t with
  | 0 => .byte
  | 1 => .char
  | 2 => .int
  | 3 => .long
  | 4 => .boolean
  | _ => .object "PunchedSouls$Hand"
def zisR (ty : FieldType) : Bool := match ty with
  | .object _ => true
  | .array _ => true
  | _ => false
def zfv (ad : Nat → Nat) (σ : Sg) (ci p k : Nat) : Value := if zisR (zty ci k) = true then va_rf ((σ.2.2.2.2 p k).map ad) else .int (σ.2.2.1 p k)
def zel (ad : Nat → Nat) (σ : Sg) (t p j : Nat) : Value := if t = 3 then .long (σ.2.2.2.1 p j) else if t = 5 then va_rf ((σ.2.2.2.2 p j).map ad) else .int (σ.2.2.1 p j)
def zOK (G : zG) (ad : Nat → Nat) (σ : Sg) (H : Heap) (p : Nat) : Prop :=
  (∀ (ci : Nat) (q : vw_C), σ.1 p = ci + 1 → vwCl[ci]? = some q → t_OB (ad p) (G.1 ci) q.2.2 (G.2.1 ci) H (zfv ad σ ci p)) ∧
  (∀ t : Nat, t < 6 → σ.1 p = 20 + t → H[ad p]? = some (arrV (G.2.2.1 t) (σ.2.1 p) (zel ad σ t p)))
def zRl (G : zG) (b0 : Nat) (ad : Nat → Nat) (σ : Sg) (H : Heap) : Prop :=
  (∀ p, σ.1 p ≠ 0 → ad p < H.size ∧ (σ.1 p < 30 → b0 ≤ ad p ∧ zOK G ad σ H p)) ∧ (∀ p q, σ.1 p ≠ 0 → σ.1 p < 30 → σ.1 q ≠ 0 → σ.1 q < 30 → ad p = ad q → p = q) ∧ (∀ p k q, σ.1 p ≠ 0 → σ.2.2.2.2 p k = some q → σ.1 q ≠ 0) ∧
  (∀ i, i < 4 → σ.1 (900 + i) = 30 ∧ ad (900 + i) = G.2.2.2.1 i ∧ σ.1 (910 + i) = 31 ∧ ad (910 + i) = G.2.2.2.2 i)
def zlv (σ : Sg) (v : Value) : Prop := ∀ q, v = .ref q → σ.1 q ≠ 0
def zCa : List (String × String) := [("PunchedSouls$Blinker", "PunchedSouls$Late"), ("PunchedSouls$Minder", "PunchedSouls$Lad"), ("PunchedSouls$Told", "PunchedSouls$Old"), ("PunchedSouls$Late", "PunchedSouls$Hand"), ("PunchedSouls$Lad", "PunchedSouls$Hand"), ("PunchedSouls$Old", "PunchedSouls$Hand"), ("PunchedSouls$Blinker", "PunchedSouls$Hand"), ("PunchedSouls$Minder", "PunchedSouls$Hand"), ("PunchedSouls$Told", "PunchedSouls$Hand")]
def zNc : List (String × String) := [("PunchedSouls$Hand", "PunchedSouls$Late"), ("PunchedSouls$Lad", "PunchedSouls$Late"), ("PunchedSouls$Old", "PunchedSouls$Late"), ("PunchedSouls$Minder", "PunchedSouls$Late"), ("PunchedSouls$Told", "PunchedSouls$Late"), ("PunchedSouls$Hand", "PunchedSouls$Lad"), ("PunchedSouls$Late", "PunchedSouls$Lad"), ("PunchedSouls$Old", "PunchedSouls$Lad"), ("PunchedSouls$Blinker", "PunchedSouls$Lad"), ("PunchedSouls$Told", "PunchedSouls$Lad"), ("PunchedSouls$Hand", "PunchedSouls$Old"), ("PunchedSouls$Late", "PunchedSouls$Old"), ("PunchedSouls$Lad", "PunchedSouls$Old"), ("PunchedSouls$Blinker", "PunchedSouls$Old"), ("PunchedSouls$Minder", "PunchedSouls$Old"), ("PunchedSouls$Hand", "PunchedSouls$Blinker"), ("PunchedSouls$Late", "PunchedSouls$Blinker"), ("PunchedSouls$Lad", "PunchedSouls$Blinker"), ("PunchedSouls$Old", "PunchedSouls$Blinker"), ("PunchedSouls$Minder", "PunchedSouls$Blinker"), ("PunchedSouls$Told", "PunchedSouls$Blinker"), ("PunchedSouls$Hand", "PunchedSouls$Minder"), ("PunchedSouls$Late", "PunchedSouls$Minder"), ("PunchedSouls$Lad", "PunchedSouls$Minder"), ("PunchedSouls$Old", "PunchedSouls$Minder"), ("PunchedSouls$Blinker", "PunchedSouls$Minder"), ("PunchedSouls$Told", "PunchedSouls$Minder"), ("PunchedSouls$Hand", "PunchedSouls$Told"), ("PunchedSouls$Late", "PunchedSouls$Told"), ("PunchedSouls$Lad", "PunchedSouls$Told"), ("PunchedSouls$Old", "PunchedSouls$Told"), ("PunchedSouls$Blinker", "PunchedSouls$Told"), ("PunchedSouls$Minder", "PunchedSouls$Told")]
def zKx (s : State) : Prop := va_AO "PunchedSouls$Hand" s ∧ (∀ q ∈ zCa, va_Nw (.castable q.1 q.2) s) ∧ ∀ q ∈ zNc, va_Nc q.1 q.2 s
theorem zKx.moved {s U : State} (hW : s.WarmedH U.vm) (h : zKx s) : zKx U := ⟨h.1.moved hW.alike, fun q hq => va_Nw.warmC hW (h.2.1 q hq), fun q hq => (h.2.2 q hq).moved hW.alike⟩
theorem zKx.vm {s U : State} (hv : U.vm = s.vm) (h : zKx s) : zKx U := by
  have ha : s.vm.Alike U.vm := by rw [hv]; exact Vm.Alike.refl _
  exact ⟨h.1.moved ha, fun q hq => va_Nw.same rfl hv.symm (h.2.1 q hq), fun q hq => (h.2.2 q hq).moved ha⟩
def zK (G : zG) (s : State) : Prop := (∀ (ci : Nat) (q : vw_C), vwCl[ci]? = some q → u_Kn s q.1 q.2.1 q.2.2 (G.1 ci) (G.2.1 ci)) ∧ (∀ t : Nat, t < 6 → ArrOfT s (G.2.2.1 t) (zat t) ∧ va_RA s (G.2.2.1 t) (zat t)) ∧ va_Nw (.methodLinkNest "PunchedSouls" 11 ⟨"PunchedSouls$Gate", "<init>", "()V"⟩ "PunchedSouls") s ∧ va_Nw (.methodLinkNest "PunchedSouls$Reader" 81 ⟨"PunchedSouls", "isDigit", "(I)Z"⟩ "PunchedSouls") s ∧ zKx s
theorem zK.moved {G : zG} {s U : State} (hW : s.WarmedH U.vm) (h : zK G s) : zK G U :=
  ⟨fun ci q hq => u_Kn_moved hW.alike (h.1 ci q hq), fun t ht => ⟨arrOfT_moved hW.alike (h.2.1 t ht).1, (h.2.1 t ht).2.moved hW.alike⟩, va_Nw.warmM hW h.2.2.1, va_Nw.warmM hW h.2.2.2.1, h.2.2.2.2.moved hW⟩
theorem zcl_lt {ci : Nat} {q : vw_C} (h : vwCl[ci]? = some q) : ci < 14 := (List.getElem?_eq_some_iff.mp h).1
theorem zty_ok {ci : Nat} {q : vw_C} (h : vwCl[ci]? = some q) : ∀ k, k < q.2.2 → parseFieldDescriptor (q.2.1 k).2.2.1 = some (zty ci k) := by
  match ci, h with
  | 0, h => cases h; exact tyJ4_ok
  | 1, h => cases h; exact tyX0_ok
  | 2, h => cases h; exact tyX1_ok
  | 3, h => cases h; exact tyX2_ok
  | 4, h => cases h; exact tyX3_ok
  | 5, h => cases h; exact tyX4_ok
  | 6, h => cases h; exact tyX5_ok
  | 7, h => cases h; exact tyX6_ok
  | 8, h => cases h; exact tyX7_ok
  | 9, h => cases h; exact tyX8_ok
  | 10, h => cases h; exact tyX9_ok
  | 11, h => cases h; exact tyX10_ok
  | 12, h => cases h; exact tyX11_ok
  | 13, h => cases h; exact tyX12_ok
  | n + 14, h => exact absurd (zcl_lt h) (by omega)
theorem znm {ci : Nat} {q : vw_C} (h : vwCl[ci]? = some q) : ∀ a, a < q.2.2 → ∀ b, b < q.2.2 → a ≠ b → (q.2.1 a).2.1 ≠ (q.2.1 b).2.1 := by
  match ci, h with
  | 0, h => cases h; exact nmJ4
  | 1, h => cases h; exact nmX0
  | 2, h => cases h; exact nmX1
  | 3, h => cases h; exact nmX2
  | 4, h => cases h; exact nmX3
  | 5, h => cases h; exact nmX4
  | 6, h => cases h; exact nmX5
  | 7, h => cases h; exact nmX6
  | 8, h => cases h; exact nmX7
  | 9, h => cases h; exact nmX8
  | 10, h => cases h; exact nmX9
  | 11, h => cases h; exact nmX10
  | 12, h => cases h; exact nmX11
  | 13, h => cases h; exact nmX12
  | n + 14, h => exact absurd (zcl_lt h) (by omega)
/-- a list's words are among the tables' by their places -/
theorem z_inAt {ws : List Cond} (ps : List Nat) (hp : ws = ps.filterMap (fun i => lw_tbl[i]?)) (hg : ws.all goodWord = true) : ∀ w ∈ ws, w ∈ zGW := by
  intro w hw
  have h1 := List.all_eq_true.mp hg w hw
  rw [hp] at hw
  obtain ⟨i, -, hi⟩ := List.mem_filterMap.mp hw
  exact zGW_at i hi h1
def zlens : List Nat := [6, 5, 5, 6]
def zbyts : List (List Int32) := [[114, 111, 117, 110, 100, 32], [115, 111, 117, 114, 32], [103, 108, 97, 100, 32], [112, 99, 107, 118, 104, 100]]
/-- what lies in the old heap: two statics, four String constants -/
def zEx (G : zG) (b0 : Nat) (U : State) (H : Heap) : Prop :=
  va_Z "java/lang/String" "COMPACT_STRINGS" "Z" (.int 1) (fun q => b0 ≤ q) U H ∧ va_Zq "jdk/internal/util/Preconditions" "SIOOBE_FORMATTER" "Ljava/util/function/BiFunction;" (fun q => b0 ≤ q) U H ∧
  vk_S 4 zlens zbyts G.2.2.2.1 G.2.2.2.2 (fun q => b0 ≤ q) U H ∧ vk_R "PunchedSouls$Reader" 43 "round " (G.2.2.2.1 0) U ∧ vk_R "PunchedSouls$Reader" 45 "sour " (G.2.2.2.1 1) U ∧ vk_R "PunchedSouls$Reader" 47 "glad " (G.2.2.2.1 2) U ∧ vk_R "PunchedSouls$Reader" 73 "pckvhd" (G.2.2.2.1 3) U
theorem zEx.moved {G : zG} {b0 : Nat} {s U : State} {H : Heap} (hW : s.WarmedH U.vm) (h : zEx G b0 s H) : zEx G b0 U H := by
  obtain ⟨h1, h2, h3, h4, h5, h6, h7⟩ := h
  exact ⟨va_Z.moved hW.alike h1, va_Zq.moved hW.alike h2, vk_S.moved hW.alike h3, h4.warm hW, h5.warm hW, h6.warm hW, h7.warm hW⟩
theorem zEx.kept {G : zG} {b0 : Nat} {U : State} {H H1 : Heap} (hq : ∀ a : Nat, a < H.size → ¬ b0 ≤ a → H1[a]? = H[a]?) (h : zEx G b0 U H) : zEx G b0 U H1 := by
  obtain ⟨h1, h2, h3, h4, h5, h6, h7⟩ := h
  exact ⟨h1.kept hq, h2.kept hq, h3.kept hq, h4, h5, h6, h7⟩
theorem zEx.vm {G : zG} {b0 : Nat} {s U : State} {H : Heap} (hv : U.vm = s.vm) (h : zEx G b0 s H) : zEx G b0 U H := by
  obtain ⟨h1, h2, h3, h4, h5, h6, h7⟩ := h
  have ha : s.vm.Alike U.vm := by rw [hv]; exact Vm.Alike.refl _
  exact ⟨va_Z.moved ha h1, va_Zq.moved ha h2, vk_S.moved ha h3, h4.same hv, h5.same hv, h6.same hv, h7.same hv⟩
theorem zK.vm {G : zG} {s U : State} (hv : U.vm = s.vm) (h : zK G s) : zK G U := by
  have ha : s.vm.Alike U.vm := by rw [hv]; exact Vm.Alike.refl _
  exact ⟨fun ci q hq => u_Kn_moved ha (h.1 ci q hq), fun t ht => ⟨arrOfT_moved ha (h.2.1 t ht).1, (h.2.1 t ht).2.moved ha⟩, va_Nw.same rfl hv.symm h.2.2.1, va_Nw.same rfl hv.symm h.2.2.2.1, h.2.2.2.2.vm hv⟩
