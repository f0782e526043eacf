def lkX0 : zLk := ([], [], [])
theorem lkX0_ok : zlkOK RX0 lkX0 := ⟨fun _ h => absurd h List.not_mem_nil, fun _ h => absurd h List.not_mem_nil, fun _ h => absurd h List.not_mem_nil⟩
def lkX4 : zLk := ([], [], [])
theorem lkX4_ok : zlkOK RX4 lkX4 := ⟨fun _ h => absurd h List.not_mem_nil, fun _ h => absurd h List.not_mem_nil, fun _ h => absurd h List.not_mem_nil⟩
def lkX6 : zLk := ([], [], [])
theorem lkX6_ok : zlkOK RX6 lkX6 := ⟨fun _ h => absurd h List.not_mem_nil, fun _ h => absurd h List.not_mem_nil, fun _ h => absurd h List.not_mem_nil⟩
theorem c_X2_kind (E : zE) (σ : Sg) (h : Nat) : zCt E mX2_kind 0 0 0 σ [.ref h] (fun r σ' => σ' = σ ∧ r = some (.int (nI 0))) := by
  refine z_intro (by decide) (Nat.le_of_ble_eq_true rfl) (fun X hX => ?_)
  refine bk hX lkX2_ok (pc' := 1) [.iconst 0] (by decide +kernel) (And.intro trivial ?_)
  exact z_iret hX (by decide +kernel) rfl (rfl) (by decide) (by decide) (⟨rfl, rfl⟩)
theorem c_X4_kind (E : zE) (σ : Sg) (h : Nat) : zCt E mX4_kind 0 0 0 σ [.ref h] (fun r σ' => σ' = σ ∧ r = some (.int (nI 1))) := by
  refine z_intro (by decide) (Nat.le_of_ble_eq_true rfl) (fun X hX => ?_)
  refine bk hX lkX4_ok (pc' := 1) [.iconst 1] (by decide +kernel) (And.intro trivial ?_)
  exact z_iret hX (by decide +kernel) rfl (rfl) (by decide) (by decide) (⟨rfl, rfl⟩)
theorem c_X3_kind (E : zE) (σ : Sg) (h : Nat) : zCt E mX3_kind 0 0 0 σ [.ref h] (fun r σ' => σ' = σ ∧ r = some (.int (nI 2))) := by
  refine z_intro (by decide) (Nat.le_of_ble_eq_true rfl) (fun X hX => ?_)
  refine bk hX lkX3_ok (pc' := 1) [.iconst 2] (by decide +kernel) (And.intro trivial ?_)
  exact z_iret hX (by decide +kernel) rfl (rfl) (by decide) (by decide) (⟨rfl, rfl⟩)
theorem c_X6_kind (E : zE) (σ : Sg) (h : Nat) : zCt E mX6_kind 0 0 0 σ [.ref h] (fun r σ' => σ' = σ ∧ r = some (.int (nI 3))) := by
  refine z_intro (by decide) (Nat.le_of_ble_eq_true rfl) (fun X hX => ?_)
  refine bk hX lkX6_ok (pc' := 1) [.iconst 3] (by decide +kernel) (And.intro trivial ?_)
  exact z_iret hX (by decide +kernel) rfl (rfl) (by decide) (by decide) (⟨rfl, rfl⟩)
theorem c_X0_kind (E : zE) (σ : Sg) (h : Nat) : zCt E mX0_kind 0 0 0 σ [.ref h] (fun r σ' => σ' = σ ∧ r = some (.int (nI 4))) := by
  refine z_intro (by decide) (Nat.le_of_ble_eq_true rfl) (fun X hX => ?_)
  refine bk hX lkX0_ok (pc' := 1) [.iconst 4] (by decide +kernel) (And.intro trivial ?_)
  exact z_iret hX (by decide +kernel) rfl (rfl) (by decide) (by decide) (⟨rfl, rfl⟩)
theorem c_X5_kind (E : zE) (σ : Sg) (h : Nat) : zCt E mX5_kind 0 0 0 σ [.ref h] (fun r σ' => σ' = σ ∧ r = some (.int (nI 5))) := by
  refine z_intro (by decide) (Nat.le_of_ble_eq_true rfl) (fun X hX => ?_)
  refine bk hX lkX5_ok (pc' := 1) [.iconst 5] (by decide +kernel) (And.intro trivial ?_)
  exact z_iret hX (by decide +kernel) rfl (rfl) (by decide) (by decide) (⟨rfl, rfl⟩)
theorem c_X9_kind (E : zE) (σ : Sg) (h : Nat) : zCt E mX9_kind 0 0 0 σ [.ref h] (fun r σ' => σ' = σ ∧ r = some (.int (nI 6))) := by
  refine z_intro (by decide) (Nat.le_of_ble_eq_true rfl) (fun X hX => ?_)
  refine bk hX lkX9_ok (pc' := 2) [.bipush 6] (by decide +kernel) (And.intro trivial ?_)
  exact z_iret hX (by decide +kernel) rfl (rfl) (by decide) (by decide) (⟨rfl, rfl⟩)
def tmK (k v p c : Nat) (m : Int32) : Int32 := if k = 2 ∨ k = 5 then (if c = p then m else m + nI v) else if k = 3 ∨ k = 6 then m / nI 2 else m
theorem c_X2_temper (E : zE) (σ : Sg) (h : Nat) (m c : Int32) : zCt E mX2_temper 0 0 0 σ [.ref h, .int m, .int c] (fun r σ' => σ' = σ ∧ r = some (.int m)) := by
  refine z_intro (by decide) (Nat.le_of_ble_eq_true rfl) (fun X hX => ?_)
  refine bk hX lkX2_ok (pc' := 1) [.iload_n 1] (by decide +kernel) (And.intro trivial ?_)
  exact z_iret hX (by decide +kernel) rfl (rfl) (by decide) (by decide) (⟨rfl, rfl⟩)
theorem c_X6_temper (E : zE) (σ : Sg) (h : Nat) (m c : Int32) : zCt E mX6_temper 0 0 0 σ [.ref h, .int m, .int c] (fun r σ' => σ' = σ ∧ r = some (.int (m / nI 2))) := by
  refine z_intro (by decide) (Nat.le_of_ble_eq_true rfl) (fun X hX => ?_)
  refine bk hX lkX6_ok (pc' := 3) [.iload_n 1, .iconst 2, .idiv] (by decide +kernel) (And.intro (by decide) (And.intro trivial ?_))
  exact z_iret hX (by decide +kernel) rfl (rfl) (by decide) (by decide) (⟨rfl, rfl⟩)
theorem c_X3_temper (E : zE) (σ : Sg) {h k p v c : Nat} (hk6 : k ≤ 6) (hk : σ.1 h = hci k + 1) (hp : σ.2.2.1 h 0 = nI p) (hv : σ.2.2.1 h 1 = nI v) (hp6 : p < 100) (hc6 : c < 100) (m : Int32) : zCt E mX3_temper 0 0 0 σ [.ref h, .int m, .int (nI c)] (fun r σ' => σ' = σ ∧ r = some (.int (if c = p then m else m + nI v))) := by
  refine z_intro (by decide) (Nat.le_of_ble_eq_true rfl) (fun X hX => ?_)
  refine bk hX lkX3_ok (pc' := 2) [.iload_n 2, .aload_n 0] (by decide +kernel) (And.intro trivial ?_)
  refine z_gIe hX (fh_X3_9 k hk6) (hk) (by decide +kernel) ?_
  refine ic_ne hX (7) 12 (by decide +kernel) (by decide) (fun c5 => ?_) (fun c5 => ?_)
  · refine bk hX lkX3_ok (pc' := 14) [.iload_n 1, .aload_n 0] (by decide +kernel) (And.intro trivial ?_)
    refine z_gIe hX (fh_X3_15 k hk6) (hk) (by decide +kernel) ?_
    refine bk hX lkX3_ok (pc' := 18) [.iadd] (by decide +kernel) (And.intro trivial ?_)
    exact z_iret hX (by decide +kernel) rfl (rfl) (by decide) (by decide) (by first | (rw [hp] at c5; refine ⟨rfl, ?_⟩; rw [if_neg (fun z => c5 (by rw [z])), hv]) | (rw [hp] at c5; refine ⟨rfl, ?_⟩; rw [if_pos (nI_inj (by omega) (by omega) c5)]))
  · refine bk hX lkX3_ok (pc' := 9) [.iload_n 1] (by decide +kernel) (And.intro trivial ?_)
    refine gt_ hX (9) 18 (by decide +kernel) (by decide) ?_
    exact z_iret hX (by decide +kernel) rfl (rfl) (by decide) (by decide) (by first | (rw [hp] at c5; refine ⟨rfl, ?_⟩; rw [if_neg (fun z => c5 (by rw [z])), hv]) | (rw [hp] at c5; refine ⟨rfl, ?_⟩; rw [if_pos (nI_inj (by omega) (by omega) c5)]))
theorem c_X2_punches (E : zE) (σ : Sg) (h : Nat) {dd : Nat} (hd : dd < 2 ^ 30) (s rs : Int32) : zCt E mX2_punches 0 0 0 σ [.ref h, .int (nI dd), .int s, .int rs] (fun r σ' => σ' = σ ∧ r = some (.int (nI (2 ^ (dd % 10))))) := by
  have b10 : dd % 10 < 10 := Nat.mod_lt _ (by decide)
  refine z_intro (by decide) (Nat.le_of_ble_eq_true rfl) (fun X hX => ?_)
  refine bk hX lkX2_ok (pc' := 6) [.iconst 1, .iload_n 1, .bipush 10, .irem, .ishl] (by decide +kernel) (And.intro (by decide) (And.intro trivial ?_))
  exact z_iret hX (by decide +kernel) rfl (rfl) (by decide) (by decide) (by rw [i_mod (by omega) (by decide) (by decide), i_1shl b10]; exact ⟨rfl, rfl⟩)
theorem c_X3_punches (E : zE) (σ : Sg) {h k v : Nat} (hk6 : k ≤ 6) (hk : σ.1 h = hci k + 1) (hv : σ.2.2.1 h 1 = nI v) (hv9 : v ≤ 9) {dd : Nat} (hd : dd < 2 ^ 30) (s rs : Int32) : zCt E mX3_punches 0 0 0 σ [.ref h, .int (nI dd), .int s, .int rs] (fun r σ' => σ' = σ ∧ r = some (.int (nI (2 ^ ((v + dd) % 10))))) := by
  have b10 : (v + dd) % 10 < 10 := Nat.mod_lt _ (by decide)
  refine z_intro (by decide) (Nat.le_of_ble_eq_true rfl) (fun X hX => ?_)
  refine bk hX lkX3_ok (pc' := 2) [.iconst 1, .aload_n 0] (by decide +kernel) (And.intro trivial ?_)
  refine z_gIe hX (fh_X3_15 k hk6) (hk) (by decide +kernel) ?_
  refine bk hX lkX3_ok (pc' := 11) [.iload_n 1, .iadd, .bipush 10, .irem, .ishl] (by decide +kernel) (And.intro (by decide) (And.intro trivial ?_))
  exact z_iret hX (by decide +kernel) rfl (rfl) (by decide) (by decide) (by rw [hv, nI_add, i_mod (by omega) (by decide) (by decide), i_1shl b10]; exact ⟨rfl, rfl⟩)
theorem hci_cl : ∀ k, k ≤ 6 → ∃ cq : vw_C, vwCl[hci k]? = some cq
  | 0, _ => ⟨_, rfl⟩
  | 1, _ => ⟨_, rfl⟩
  | 2, _ => ⟨_, rfl⟩
  | 3, _ => ⟨_, rfl⟩
  | 4, _ => ⟨_, rfl⟩
  | 5, _ => ⟨_, rfl⟩
  | 6, _ => ⟨_, rfl⟩
  | n + 7, h => absurd h (by omega)
theorem c_X4_punches (E : zE) (σ : Sg) {h k : Nat} (hk6 : k ≤ 6) (hk : σ.1 h = hci k + 1) {dd : Nat} (hd : dd < 2 ^ 30) (s rs : Int32) : zCt E mX4_punches 1 0 0 σ [.ref h, .int (nI dd), .int s, .int rs] (fun r σ' => σ' = σ ∧ r = some (.int (nI (if dd % 3 = 0 then 0 else 2 ^ (dd % 10))))) := by
  obtain ⟨cq, hcq⟩ := hci_cl k hk6
  refine z_intro (by decide) (Nat.le_of_ble_eq_true rfl) (fun X hX => ?_)
  refine bk hX lkX4_ok (pc' := 3) [.iload_n 1, .iconst 3, .irem] (by decide +kernel) (And.intro (by decide) (And.intro trivial ?_))
  rw [i_mod (by omega) (by decide) (by decide)]
  refine if_ne hX (7) 10 (by decide +kernel) (by decide) (fun c3 => ?_) (fun c3 => ?_)
  · refine bk hX lkX4_ok (pc' := 14) [.aload_n 0, .iload_n 1, .iload_n 2, .iload_n 3] (by decide +kernel) (And.intro trivial ?_)
    refine z_callSU hX ks_X4_9 (c_X2_punches E _ h hd _ _) rfl rfl hk hcq (by decide +kernel) (by decide) (by decide) (by decide) (by decide) (Nat.le_of_ble_eq_true rfl) ?_
    rintro _ _ ⟨rfl, rfl⟩
    exact z_iret hX (by decide +kernel) rfl (rfl) (by decide) (by decide) (by first | (refine ⟨rfl, ?_⟩; rw [if_neg (fun z => c3 (by rw [z]; rfl))]) | (refine ⟨rfl, ?_⟩; rw [if_pos (show dd % 3 = 0 from nI_inj (Nat.lt_of_le_of_lt (Nat.mod_le dd 3) (by omega)) (by decide) c3)]))
  · refine bk hX lkX4_ok (pc' := 7) [.iconst 0] (by decide +kernel) (And.intro trivial ?_)
    refine gt_ hX (10) 17 (by decide +kernel) (by decide) ?_
    exact z_iret hX (by decide +kernel) rfl (rfl) (by decide) (by decide) (by first | (refine ⟨rfl, ?_⟩; rw [if_neg (fun z => c3 (by rw [z]; rfl))]) | (refine ⟨rfl, ?_⟩; rw [if_pos (show dd % 3 = 0 from nI_inj (Nat.lt_of_le_of_lt (Nat.mod_le dd 3) (by omega)) (by decide) c3)]))
def fuI (x y : Int32) : Int32 := (x <<< (y &&& 31) ||| x >>> ((nI 10 - y) &&& 31)) &&& nI 1023
theorem fu_1 : ∀ j, j < 10 → fuI (nI (2 ^ j)) (nI 1) = nI (2 ^ ((j + 1) % 10)) := by decide +kernel
theorem fu_5 : ∀ j, j < 10 → fuI (nI (2 ^ j)) (nI 5) = nI (2 ^ ((j + 5) % 10)) := by decide +kernel
theorem fu_0 : fuI (nI 0) (nI 1) = nI 0 := by decide +kernel
theorem c_X2_further (E : zE) (σ : Sg) (x y : Int32) : zCt E mX2_further 0 0 0 σ [.int x, .int y] (fun r σ' => σ' = σ ∧ r = some (.int (fuI x y))) := by
  refine z_intro (by decide) (Nat.le_of_ble_eq_true rfl) (fun X hX => ?_)
  refine bk hX lkX2_ok (pc' := 14) [.iload_n 0, .iload_n 1, .ishl, .iload_n 0, .bipush 10, .iload_n 1, .isub, .ishr, .ior, .sipush 1023, .iand] (by decide +kernel) (And.intro trivial ?_)
  exact z_iret hX (by decide +kernel) rfl (rfl) (by decide) (by decide) (⟨rfl, rfl⟩)
theorem c_X0_punches (E : zE) (σ : Sg) {h : Nat} (hk : σ.1 h = hci 4 + 1) {dd : Nat} (hd : dd < 2 ^ 30) (s rs : Int32) : zCt E mX0_punches 2 0 0 σ [.ref h, .int (nI dd), .int s, .int rs] (fun r σ' => σ' = σ ∧ r = some (.int (nI (if dd % 3 = 0 then 0 else 2 ^ (dd % 10) ||| 2 ^ ((dd + 1) % 10))))) := by
  have b10 : dd % 10 < 10 := Nat.mod_lt _ (by decide)
  refine z_intro (by decide) (Nat.le_of_ble_eq_true rfl) (fun X hX => ?_)
  refine bk hX lkX0_ok (pc' := 4) [.aload_n 0, .iload_n 1, .iload_n 2, .iload_n 3] (by decide +kernel) (And.intro trivial ?_)
  refine z_callSU hX ks_X0_9 (c_X4_punches E _ (k := 4) (by decide) hk hd _ _) rfl rfl hk rfl (by decide +kernel) (by decide) (by decide) (by decide) (by decide) (Nat.le_of_ble_eq_true rfl) ?_
  rintro _ _ ⟨rfl, rfl⟩
  refine bk hX lkX0_ok (pc' := 14) [.istore 4, .iload 4, .iload 4, .iconst 1] (by decide +kernel) (And.intro trivial ?_)
  refine z_callSt hX kt_X0_13 (c_X2_further E _ _ _) rfl rfl (by decide +kernel) (by decide) (by decide) (by decide) (by decide) (Nat.le_of_ble_eq_true rfl) ?_
  rintro _ _ ⟨rfl, rfl⟩
  refine bk hX lkX0_ok (pc' := 18) [.ior] (by decide +kernel) (And.intro trivial ?_)
  exact z_iret hX (by decide +kernel) rfl (rfl) (by decide) (by decide) (by
    refine ⟨rfl, ?_⟩
    by_cases h3 : dd % 3 = 0
    · rw [if_pos h3, if_pos h3, fu_0, i_or]; rfl
    · rw [if_neg h3, if_neg h3, fu_1 _ b10, i_or, show (dd % 10 + 1) % 10 = (dd + 1) % 10 by omega])
theorem an_5 : ∀ j, j < 10 → ∀ s, s < 1024 → ((nI (2 ^ j) &&& nI s = 0) ↔ ¬ s.testBit j = true) := by decide +kernel
theorem c_X5_punches (E : zE) (σ : Sg) {h v : Nat} (hk : σ.1 h = hci 5 + 1) (hv : σ.2.2.1 h 1 = nI v) (hv9 : v ≤ 9) {dd s : Nat} (hd : dd < 2 ^ 30) (hs : s < 1024) (rs : Int32) : zCt E mX5_punches 1 0 0 σ [.ref h, .int (nI dd), .int (nI s), .int rs] (fun r σ' => σ' = σ ∧ r = some (.int (nI (2 ^ (if s.testBit ((v + dd) % 10) = true then ((v + dd) % 10 + 5) % 10 else (v + dd) % 10))))) := by
  have b10 : (v + dd) % 10 < 10 := Nat.mod_lt _ (by decide)
  refine z_intro (by decide) (Nat.le_of_ble_eq_true rfl) (fun X hX => ?_)
  refine bk hX lkX5_ok (pc' := 4) [.aload_n 0, .iload_n 1, .iload_n 2, .iload_n 3] (by decide +kernel) (And.intro trivial ?_)
  refine z_callSU hX ks_X5_9 (c_X3_punches E _ (k := 5) (by decide) hk hv hv9 hd _ _) rfl rfl hk rfl (by decide +kernel) (by decide) (by decide) (by decide) (by decide) (Nat.le_of_ble_eq_true rfl) ?_
  rintro _ _ ⟨rfl, rfl⟩
  refine bk hX lkX5_ok (pc' := 13) [.istore 4, .iload 4, .iload_n 2, .iand] (by decide +kernel) (And.intro trivial ?_)
  refine if_ne hX (8) 21 (by decide +kernel) (by decide) (fun c13 => ?_) (fun c13 => ?_)
  · refine bk hX lkX5_ok (pc' := 24) [.iload 4, .iconst 5] (by decide +kernel) (And.intro trivial ?_)
    refine z_callSt hX kt_X5_13 (c_X2_further E _ _ _) rfl rfl (by decide +kernel) (by decide) (by decide) (by decide) (by decide) (Nat.le_of_ble_eq_true rfl) ?_
    rintro _ _ ⟨rfl, rfl⟩
    exact z_iret hX (by decide +kernel) rfl (rfl) (by decide) (by decide) (by
    refine ⟨rfl, ?_⟩
    first
      | (rw [if_neg ((an_5 _ b10 s hs).mp c13)]; done)
      | (rw [if_pos (Classical.not_not.mp (fun z => c13 ((an_5 _ b10 s hs).mpr z))), fu_5 _ b10]; done))
  · refine bk hX lkX5_ok (pc' := 18) [.iload 4] (by decide +kernel) (And.intro trivial ?_)
    refine gt_ hX (9) 27 (by decide +kernel) (by decide) ?_
    exact z_iret hX (by decide +kernel) rfl (rfl) (by decide) (by decide) (by
    refine ⟨rfl, ?_⟩
    first
      | (rw [if_neg ((an_5 _ b10 s hs).mp c13)]; done)
      | (rw [if_pos (Classical.not_not.mp (fun z => c13 ((an_5 _ b10 s hs).mpr z))), fu_5 _ b10]; done))
def olI (x : Int32) : Int32 := ((x ^^^ -nI 1) &&& nI 1023) &&& -((x ^^^ -nI 1) &&& nI 1023)
theorem ol_ok : ∀ s, s < 1024 → olI (nI s) = nI (lf s) := by decide +kernel
theorem c_X6_punches (E : zE) (σ : Sg) (h : Nat) {s : Nat} (hs : s < 1024) (dd rs : Int32) : zCt E mX6_punches 0 0 0 σ [.ref h, .int dd, .int (nI s), .int rs] (fun r σ' => σ' = σ ∧ r = some (.int (nI (lf s)))) := by
  refine z_intro (by decide) (Nat.le_of_ble_eq_true rfl) (fun X hX => ?_)
  refine bk hX lkX6_ok (pc' := 15) [.iload_n 2, .iconst (Int.negSucc 0), .ixor, .sipush 1023, .iand, .istore 4, .iload 4, .iload 4, .ineg, .iand] (by decide +kernel) (And.intro trivial ?_)
  exact z_iret hX (by decide +kernel) rfl (rfl) (by decide) (by decide) (⟨rfl, congrArg some (congrArg Value.int (ol_ok s hs))⟩)
theorem c_X9_punches (E : zE) (σ : Sg) {h : Nat} (hk : σ.1 h = hci 6 + 1) {s rs : Nat} (hs : s < 1024) (hr : rs < 10) (dd : Int32) : zCt E mX9_punches 1 0 0 σ [.ref h, .int dd, .int (nI s), .int (nI rs)] (fun r σ' => σ' = σ ∧ r = some (.int (nI (lf s ||| 2 ^ rs)))) := by
  refine z_intro (by decide) (Nat.le_of_ble_eq_true rfl) (fun X hX => ?_)
  refine bk hX lkX9_ok (pc' := 4) [.aload_n 0, .iload_n 1, .iload_n 2, .iload_n 3] (by decide +kernel) (And.intro trivial ?_)
  refine z_callSU hX ks_X9_9 (c_X6_punches E _ h hs _ _) rfl rfl hk rfl (by decide +kernel) (by decide) (by decide) (by decide) (by decide) (Nat.le_of_ble_eq_true rfl) ?_
  rintro _ _ ⟨rfl, rfl⟩
  refine bk hX lkX9_ok (pc' := 11) [.iconst 1, .iload_n 3, .ishl, .ior] (by decide +kernel) (And.intro trivial ?_)
  exact z_iret hX (by decide +kernel) rfl (rfl) (by decide) (by decide) (by rw [i_1shl hr, i_or]; exact ⟨rfl, rfl⟩)
section
variable {X : zX} {E : zE} {M : zM} {d mc ms : Nat} {Po : Option Value → Sg → Prop} {σ : Sg} {cells slots pc : Nat} {lv : List (Nat × Value)} {st : List Value}
theorem vc_kind_X10 (hX : zD X E M d mc ms Po) (ho : M.1.cls = RX10) {h k : Nat} (hk6 : k ≤ 6) (hk : σ.1 h = hci k + 1) (hd : decode M.2.1 pc = .ok (.invokevirtual 36, 3)) (hdep : 1 ≤ d) (hc : cells ≤ mc) (hs : slots ≤ ms) (hrm : (st.map fun v => v.category).sum ≤ 8) (kk : zS X σ cells slots (pc + 3) lv (.int (nI k) :: st)) : zS X σ cells slots pc lv ( .ref h :: st) := by
  rcases (show k = 0 ∨ k = 1 ∨ k = 2 ∨ k = 3 ∨ k = 4 ∨ k = 5 ∨ k = 6 by omega) with rfl | rfl | rfl | rfl | rfl | rfl | rfl
  · refine z_callU hX (by rw [ho]; exact ku_X10_36_X2) (c_X2_kind E σ h) rfl rfl hk rfl hd (by omega) (by decide) hc hs hrm ?_
    rintro _ _ ⟨rfl, rfl⟩
    exact kk
  · refine z_callU hX (by rw [ho]; exact ku_X10_36_X4) (c_X4_kind E σ h) rfl rfl hk rfl hd (by omega) (by decide) hc hs hrm ?_
    rintro _ _ ⟨rfl, rfl⟩
    exact kk
  · refine z_callU hX (by rw [ho]; exact ku_X10_36_X3) (c_X3_kind E σ h) rfl rfl hk rfl hd (by omega) (by decide) hc hs hrm ?_
    rintro _ _ ⟨rfl, rfl⟩
    exact kk
  · refine z_callU hX (by rw [ho]; exact ku_X10_36_X6) (c_X6_kind E σ h) rfl rfl hk rfl hd (by omega) (by decide) hc hs hrm ?_
    rintro _ _ ⟨rfl, rfl⟩
    exact kk
  · refine z_callU hX (by rw [ho]; exact ku_X10_36_X0) (c_X0_kind E σ h) rfl rfl hk rfl hd (by omega) (by decide) hc hs hrm ?_
    rintro _ _ ⟨rfl, rfl⟩
    exact kk
  · refine z_callU hX (by rw [ho]; exact ku_X10_36_X5) (c_X5_kind E σ h) rfl rfl hk rfl hd (by omega) (by decide) hc hs hrm ?_
    rintro _ _ ⟨rfl, rfl⟩
    exact kk
  · refine z_callU hX (by rw [ho]; exact ku_X10_36_X9) (c_X9_kind E σ h) rfl rfl hk rfl hd (by omega) (by decide) hc hs hrm ?_
    rintro _ _ ⟨rfl, rfl⟩
    exact kk
theorem vc_kind_X11 (hX : zD X E M d mc ms Po) (ho : M.1.cls = RX11) {h k : Nat} (hk6 : k ≤ 6) (hk : σ.1 h = hci k + 1) (hd : decode M.2.1 pc = .ok (.invokevirtual 87, 3)) (hdep : 1 ≤ d) (hc : cells ≤ mc) (hs : slots ≤ ms) (hrm : (st.map fun v => v.category).sum ≤ 8) (kk : zS X σ cells slots (pc + 3) lv (.int (nI k) :: st)) : zS X σ cells slots pc lv ( .ref h :: st) := by
  rcases (show k = 0 ∨ k = 1 ∨ k = 2 ∨ k = 3 ∨ k = 4 ∨ k = 5 ∨ k = 6 by omega) with rfl | rfl | rfl | rfl | rfl | rfl | rfl
  · refine z_callU hX (by rw [ho]; exact ku_X11_87_X2) (c_X2_kind E σ h) rfl rfl hk rfl hd (by omega) (by decide) hc hs hrm ?_
    rintro _ _ ⟨rfl, rfl⟩
    exact kk
  · refine z_callU hX (by rw [ho]; exact ku_X11_87_X4) (c_X4_kind E σ h) rfl rfl hk rfl hd (by omega) (by decide) hc hs hrm ?_
    rintro _ _ ⟨rfl, rfl⟩
    exact kk
  · refine z_callU hX (by rw [ho]; exact ku_X11_87_X3) (c_X3_kind E σ h) rfl rfl hk rfl hd (by omega) (by decide) hc hs hrm ?_
    rintro _ _ ⟨rfl, rfl⟩
    exact kk
  · refine z_callU hX (by rw [ho]; exact ku_X11_87_X6) (c_X6_kind E σ h) rfl rfl hk rfl hd (by omega) (by decide) hc hs hrm ?_
    rintro _ _ ⟨rfl, rfl⟩
    exact kk
  · refine z_callU hX (by rw [ho]; exact ku_X11_87_X0) (c_X0_kind E σ h) rfl rfl hk rfl hd (by omega) (by decide) hc hs hrm ?_
    rintro _ _ ⟨rfl, rfl⟩
    exact kk
  · refine z_callU hX (by rw [ho]; exact ku_X11_87_X5) (c_X5_kind E σ h) rfl rfl hk rfl hd (by omega) (by decide) hc hs hrm ?_
    rintro _ _ ⟨rfl, rfl⟩
    exact kk
  · refine z_callU hX (by rw [ho]; exact ku_X11_87_X9) (c_X9_kind E σ h) rfl rfl hk rfl hd (by omega) (by decide) hc hs hrm ?_
    rintro _ _ ⟨rfl, rfl⟩
    exact kk
theorem vc_temper_X1 (hX : zD X E M d mc ms Po) (ho : M.1.cls = RX1) {h k p v c : Nat} {m : Int32} (hk6 : k ≤ 6) (hk : σ.1 h = hci k + 1) (hp : σ.2.2.1 h 0 = nI p) (hv : σ.2.2.1 h 1 = nI v) (hp6 : p < 100) (hc6 : c < 100) (hd : decode M.2.1 pc = .ok (.invokevirtual 91, 3)) (hdep : 1 ≤ d) (hc : cells ≤ mc) (hs : slots ≤ ms) (hrm : (st.map fun v => v.category).sum ≤ 8) (kk : zS X σ cells slots (pc + 3) lv (.int (tmK k v p c m) :: st)) : zS X σ cells slots pc lv (.int (nI c) :: .int m :: .ref h :: st) := by
  rcases (show k = 0 ∨ k = 1 ∨ k = 2 ∨ k = 3 ∨ k = 4 ∨ k = 5 ∨ k = 6 by omega) with rfl | rfl | rfl | rfl | rfl | rfl | rfl
  · refine z_callU hX (by rw [ho]; exact ku_X1_91_X2) (c_X2_temper E σ h m (nI c)) rfl rfl hk rfl hd (by omega) (by decide) hc hs hrm ?_
    rintro _ _ ⟨rfl, rfl⟩
    exact kk
  · refine z_callU hX (by rw [ho]; exact ku_X1_91_X4) (c_X2_temper E σ h m (nI c)) rfl rfl hk rfl hd (by omega) (by decide) hc hs hrm ?_
    rintro _ _ ⟨rfl, rfl⟩
    exact kk
  · refine z_callU hX (by rw [ho]; exact ku_X1_91_X3) (c_X3_temper E σ (k := 2) (by decide) hk hp hv hp6 hc6 m) rfl rfl hk rfl hd (by omega) (by decide) hc hs hrm ?_
    rintro _ _ ⟨rfl, rfl⟩
    exact kk
  · refine z_callU hX (by rw [ho]; exact ku_X1_91_X6) (c_X6_temper E σ h m (nI c)) rfl rfl hk rfl hd (by omega) (by decide) hc hs hrm ?_
    rintro _ _ ⟨rfl, rfl⟩
    exact kk
  · refine z_callU hX (by rw [ho]; exact ku_X1_91_X0) (c_X2_temper E σ h m (nI c)) rfl rfl hk rfl hd (by omega) (by decide) hc hs hrm ?_
    rintro _ _ ⟨rfl, rfl⟩
    exact kk
  · refine z_callU hX (by rw [ho]; exact ku_X1_91_X5) (c_X3_temper E σ (k := 5) (by decide) hk hp hv hp6 hc6 m) rfl rfl hk rfl hd (by omega) (by decide) hc hs hrm ?_
    rintro _ _ ⟨rfl, rfl⟩
    exact kk
  · refine z_callU hX (by rw [ho]; exact ku_X1_91_X9) (c_X6_temper E σ h m (nI c)) rfl rfl hk rfl hd (by omega) (by decide) hc hs hrm ?_
    rintro _ _ ⟨rfl, rfl⟩
    exact kk
theorem vc_punches_X1 (hX : zD X E M d mc ms Po) (ho : M.1.cls = RX1) {h k v dd s rs : Nat} (hk6 : k ≤ 6) (hk : σ.1 h = hci k + 1) (hv : σ.2.2.1 h 1 = nI v) (hv9 : v ≤ 9) (hdd : dd < 2 ^ 30) (hs1 : s < 1024) (hr9 : rs ≤ 9) (hd : decode M.2.1 pc = .ok (.invokevirtual 108, 3)) (hdep : 3 ≤ d) (hc : cells ≤ mc) (hs : slots ≤ ms) (hrm : (st.map fun v => v.category).sum ≤ 8) (kk : zS X σ cells slots (pc + 3) lv (.int (nI (pn k v dd s rs)) :: st)) : zS X σ cells slots pc lv (.int (nI rs) :: .int (nI s) :: .int (nI dd) :: .ref h :: st) := by
  rcases (show k = 0 ∨ k = 1 ∨ k = 2 ∨ k = 3 ∨ k = 4 ∨ k = 5 ∨ k = 6 by omega) with rfl | rfl | rfl | rfl | rfl | rfl | rfl
  · refine z_callU hX (by rw [ho]; exact ku_X1_108_X2) (c_X2_punches E σ h hdd _ _) rfl rfl hk rfl hd (by omega) (by decide) hc hs hrm ?_
    rintro _ _ ⟨rfl, rfl⟩
    exact kk
  · refine z_callU hX (by rw [ho]; exact ku_X1_108_X4) (c_X4_punches E σ (k := 1) (by decide) hk hdd _ _) rfl rfl hk rfl hd (by omega) (by decide) hc hs hrm ?_
    rintro _ _ ⟨rfl, rfl⟩
    exact kk
  · refine z_callU hX (by rw [ho]; exact ku_X1_108_X3) (c_X3_punches E σ (k := 2) (by decide) hk hv hv9 hdd _ _) rfl rfl hk rfl hd (by omega) (by decide) hc hs hrm ?_
    rintro _ _ ⟨rfl, rfl⟩
    exact kk
  · refine z_callU hX (by rw [ho]; exact ku_X1_108_X6) (c_X6_punches E σ h hs1 _ _) rfl rfl hk rfl hd (by omega) (by decide) hc hs hrm ?_
    rintro _ _ ⟨rfl, rfl⟩
    exact kk
  · refine z_callU hX (by rw [ho]; exact ku_X1_108_X0) (c_X0_punches E σ hk hdd _ _) rfl rfl hk rfl hd (by omega) (by decide) hc hs hrm ?_
    rintro _ _ ⟨rfl, rfl⟩
    exact kk
  · refine z_callU hX (by rw [ho]; exact ku_X1_108_X5) (c_X5_punches E σ hk hv hv9 hdd hs1 _) rfl rfl hk rfl hd (by omega) (by decide) hc hs hrm ?_
    rintro _ _ ⟨rfl, rfl⟩
    exact kk
  · refine z_callU hX (by rw [ho]; exact ku_X1_108_X9) (c_X9_punches E σ hk hs1 (by omega) _) rfl rfl hk rfl hd (by omega) (by decide) hc hs hrm ?_
    rintro _ _ ⟨rfl, rfl⟩
    exact kk
theorem vc_punches_X11 (hX : zD X E M d mc ms Po) (ho : M.1.cls = RX11) {h k v dd s rs : Nat} (hk6 : k ≤ 6) (hk : σ.1 h = hci k + 1) (hv : σ.2.2.1 h 1 = nI v) (hv9 : v ≤ 9) (hdd : dd < 2 ^ 30) (hs1 : s < 1024) (hr9 : rs ≤ 9) (hd : decode M.2.1 pc = .ok (.invokevirtual 116, 3)) (hdep : 3 ≤ d) (hc : cells ≤ mc) (hs : slots ≤ ms) (hrm : (st.map fun v => v.category).sum ≤ 8) (kk : zS X σ cells slots (pc + 3) lv (.int (nI (pn k v dd s rs)) :: st)) : zS X σ cells slots pc lv (.int (nI rs) :: .int (nI s) :: .int (nI dd) :: .ref h :: st) := by
  rcases (show k = 0 ∨ k = 1 ∨ k = 2 ∨ k = 3 ∨ k = 4 ∨ k = 5 ∨ k = 6 by omega) with rfl | rfl | rfl | rfl | rfl | rfl | rfl
  · refine z_callU hX (by rw [ho]; exact ku_X11_116_X2) (c_X2_punches E σ h hdd _ _) rfl rfl hk rfl hd (by omega) (by decide) hc hs hrm ?_
    rintro _ _ ⟨rfl, rfl⟩
    exact kk
  · refine z_callU hX (by rw [ho]; exact ku_X11_116_X4) (c_X4_punches E σ (k := 1) (by decide) hk hdd _ _) rfl rfl hk rfl hd (by omega) (by decide) hc hs hrm ?_
    rintro _ _ ⟨rfl, rfl⟩
    exact kk
  · refine z_callU hX (by rw [ho]; exact ku_X11_116_X3) (c_X3_punches E σ (k := 2) (by decide) hk hv hv9 hdd _ _) rfl rfl hk rfl hd (by omega) (by decide) hc hs hrm ?_
    rintro _ _ ⟨rfl, rfl⟩
    exact kk
  · refine z_callU hX (by rw [ho]; exact ku_X11_116_X6) (c_X6_punches E σ h hs1 _ _) rfl rfl hk rfl hd (by omega) (by decide) hc hs hrm ?_
    rintro _ _ ⟨rfl, rfl⟩
    exact kk
  · refine z_callU hX (by rw [ho]; exact ku_X11_116_X0) (c_X0_punches E σ hk hdd _ _) rfl rfl hk rfl hd (by omega) (by decide) hc hs hrm ?_
    rintro _ _ ⟨rfl, rfl⟩
    exact kk
  · refine z_callU hX (by rw [ho]; exact ku_X11_116_X5) (c_X5_punches E σ hk hv hv9 hdd hs1 _) rfl rfl hk rfl hd (by omega) (by decide) hc hs hrm ?_
    rintro _ _ ⟨rfl, rfl⟩
    exact kk
  · refine z_callU hX (by rw [ho]; exact ku_X11_116_X9) (c_X9_punches E σ hk hs1 (by omega) _) rfl rfl hk rfl hd (by omega) (by decide) hc hs hrm ?_
    rintro _ _ ⟨rfl, rfl⟩
    exact kk
end
