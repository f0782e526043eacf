/-! ===== the reader is made; works ===== -/
theorem zNewA_sg {K N : Nat → Nat} {Rf : Nat → Nat → Option Nat} {I : Nat → Nat → Int32} {L : Nat → Nat → Int64} {n : Nat} (hn : 1000 ≤ n) (t len : Nat) : zNewA (sg K N Rf I L) n t len = sg (upK K n (20 + t)) (upK N n len) (upW Rf n none) (upW I n 0) (upW L n 0) := by
  show ((upK (kF K) n (20 + t), upK (nF N) n len, upW I n 0, upW L n 0, upW (rF Rf) n none) : Sg) = _
  rw [kF_up K hn, nF_up N hn, rF_upW Rf hn]
theorem sg_pR {K N : Nat → Nat} {R : Nat → Nat → Option Nat} {I : Nat → Nat → Int32} {L : Nat → Nat → Int64} {n : Nat} (hn : 1000 ≤ n) {j : Nat} {x : Option Nat} : (((sg K N R I L).1, (sg K N R I L).2.1, (sg K N R I L).2.2.1, (sg K N R I L).2.2.2.1, up2 (sg K N R I L).2.2.2.2 n j x) : Sg) = sg K N (up2 R n j x) I L := by
  show ((kF K, nF N, I, L, up2 (rF R) n j x) : Sg) = _
  rw [rF_up2 R hn]
theorem sg_pR7 {K N : Nat → Nat} {R : Nat → Nat → Option Nat} {I : Nat → Nat → Int32} {L : Nat → Nat → Int64} {x : Option Nat} : (((sg K N R I L).1, (sg K N R I L).2.1, (sg K N R I L).2.2.1, (sg K N R I L).2.2.2.1, up2 (sg K N R I L).2.2.2.2 300 7 x) : Sg) = sg K N (up2 R 300 7 x) I L := by
  show ((kF K, nF N, I, L, up2 (rF R) 300 7 x) : Sg) = _
  rw [up2_rF7 R (Or.inl rfl)]
theorem sg_pI {K N : Nat → Nat} {R : Nat → Nat → Option Nat} {I : Nat → Nat → Int32} {L : Nat → Nat → Int64} {n j : Nat} {x : Int32} : (((sg K N R I L).1, (sg K N R I L).2.1, up2 (sg K N R I L).2.2.1 n j x, (sg K N R I L).2.2.2.1, (sg K N R I L).2.2.2.2) : Sg) = sg K N R (up2 I n j x) L := rfl
def lkX10i : zLk := ([(7, 11, 0, 1, true), (13, 11, 1, 1, true), (16, 11, 2, 1, true), (19, 11, 3, 0, false)], [], [])
theorem lkX10i_ok : zlkOK RX10 lkX10i := ⟨List.forall_mem_cons.mpr ⟨fe_X10_7, List.forall_mem_cons.mpr ⟨fe_X10_13, List.forall_mem_cons.mpr ⟨fe_X10_16, List.forall_mem_cons.mpr ⟨fe_X10_19, fun _ h => absurd h List.not_mem_nil⟩⟩⟩⟩, fun _ h => absurd h List.not_mem_nil, fun _ h => absurd h List.not_mem_nil⟩
theorem lkX10i_i : zini mX10_init lkX10i := ⟨rfl, List.forall_mem_cons.mpr ⟨fun c hc => by obtain rfl := Option.some.inj (show some (RX10, TX10, 5) = some c from hc); rfl, List.forall_mem_cons.mpr ⟨fun c hc => by obtain rfl := Option.some.inj (show some (RX10, TX10, 5) = some c from hc); rfl, List.forall_mem_cons.mpr ⟨fun c hc => by obtain rfl := Option.some.inj (show some (RX10, TX10, 5) = some c from hc); rfl, List.forall_mem_cons.mpr ⟨fun c hc => by obtain rfl := Option.some.inj (show some (RX10, TX10, 5) = some c from hc); rfl, fun _ h => absurd h List.not_mem_nil⟩⟩⟩⟩⟩
def lkX7i : zLk := ([(9, 8, 0, 1, true), (15, 8, 1, 0, true), (24, 8, 2, 1, true), (32, 8, 3, 0, false)], [], [])
theorem lkX7i_ok : zlkOK RX7 lkX7i := ⟨List.forall_mem_cons.mpr ⟨fe_X7_9, List.forall_mem_cons.mpr ⟨fe_X7_15, List.forall_mem_cons.mpr ⟨fe_X7_24, List.forall_mem_cons.mpr ⟨fe_X7_32, fun _ h => absurd h List.not_mem_nil⟩⟩⟩⟩, fun _ h => absurd h List.not_mem_nil, fun _ h => absurd h List.not_mem_nil⟩
theorem lkX7i_i : zini mX7_init lkX7i := ⟨rfl, List.forall_mem_cons.mpr ⟨fun c hc => by obtain rfl := Option.some.inj (show some (RX7, TX7, 4) = some c from hc); rfl, List.forall_mem_cons.mpr ⟨fun c hc => by obtain rfl := Option.some.inj (show some (RX7, TX7, 4) = some c from hc); rfl, List.forall_mem_cons.mpr ⟨fun c hc => by obtain rfl := Option.some.inj (show some (RX7, TX7, 4) = some c from hc); rfl, List.forall_mem_cons.mpr ⟨fun c hc => by obtain rfl := Option.some.inj (show some (RX7, TX7, 4) = some c from hc); rfl, fun _ h => absurd h List.not_mem_nil⟩⟩⟩⟩⟩
theorem c_X10_init (E : zE) (K N : Nat → Nat) (Rf : Nat → Nat → Option Nat) (I : Nat → Nat → Int32) (L : Nat → Nat → Int64) {oo x y z n : Nat} (ho : 1000 ≤ oo) (hk : K oo = 12) (hx : 1000 ≤ x) (hy : 1000 ≤ y) (hz : 1000 ≤ z) (kx : K x = 0) (ky : K y = 0) (kz : K z = 0) (hd : x < y ∧ y < z ∧ oo < x) (hn : n ≤ 100) : zCt E mX10_init 1 3 (3 * n) (sg K N Rf I L) [.ref oo, .int (nI n)] (fun v σ' => σ' = sg (upK (upK (upK K x 22) y 22) z 22) (upK (upK (upK N x n) y n) z n) (up2 (upW (up2 (upW (up2 (upW Rf x none) oo 0 (some x)) y none) oo 1 (some y)) z none) oo 2 (some z)) (upW (upW (upW I x 0) y 0) z 0) (upW (upW (upW L x 0) y 0) z 0) ∧ v = none) := by
  refine z_intro (by decide) (Nat.le_of_ble_eq_true rfl) (fun X hX => ?_)
  refine bk hX lkX10_ok (pc' := 1) [.aload_n 0] (by decide +kernel) (And.intro trivial ?_)
  refine z_obj hX ko_X10_1 (by decide +kernel) (by decide) (Nat.le_of_ble_eq_true rfl) (by omega) (by omega) ?_
  refine bk hX lkX10_ok (pc' := 6) [.aload_n 0, .iload_n 1] (by decide +kernel) (And.intro trivial ?_)
  refine z_newa hX (atype := .int) (t := 2) (by decide) rfl ka_int x (by first | exact (kF_hi _ hx).trans kx | exact (kF_hi _ hx).trans (by rw [upK_ne _ _ (by omega)]; exact kx) | exact (kF_hi _ hx).trans (by rw [upK_ne _ _ (by omega), upK_ne _ _ (by omega)]; exact kx)) (nI_nn (by omega)) (cl (by omega)) (by omega) (by decide +kernel) (by omega) (by omega) ?_
  rw [zNewA_sg hx]
  refine z_pR hX lkX10i_ok (ini := true) (fun _ => lkX10i_i) 7 11 0 (fun k h => h) rfl ((kF_hi _ ho).trans (by rw [upK_ne _ _ (by omega)]; exact hk)) (by decide +kernel) ?_
  rw [sg_pR ho]
  refine bk hX lkX10_ok (pc' := 13) [.aload_n 0, .iload_n 1] (by decide +kernel) (And.intro trivial ?_)
  refine z_newa hX (atype := .int) (t := 2) (by decide) rfl ka_int y (by first | exact (kF_hi _ hy).trans ky | exact (kF_hi _ hy).trans (by rw [upK_ne _ _ (by omega)]; exact ky) | exact (kF_hi _ hy).trans (by rw [upK_ne _ _ (by omega), upK_ne _ _ (by omega)]; exact ky)) (nI_nn (by omega)) (cl (by omega)) (by omega) (by decide +kernel) (by omega) (by omega) ?_
  rw [zNewA_sg hy]
  refine z_pR hX lkX10i_ok (ini := true) (fun _ => lkX10i_i) 13 11 1 (fun k h => h) rfl ((kF_hi _ ho).trans (by rw [upK_ne _ _ (by omega), upK_ne _ _ (by omega)]; exact hk)) (by decide +kernel) ?_
  rw [sg_pR ho]
  refine bk hX lkX10_ok (pc' := 20) [.aload_n 0, .iload_n 1] (by decide +kernel) (And.intro trivial ?_)
  refine z_newa hX (atype := .int) (t := 2) (by decide) rfl ka_int z (by first | exact (kF_hi _ hz).trans kz | exact (kF_hi _ hz).trans (by rw [upK_ne _ _ (by omega)]; exact kz) | exact (kF_hi _ hz).trans (by rw [upK_ne _ _ (by omega), upK_ne _ _ (by omega)]; exact kz)) (nI_nn (by omega)) (cl (by omega)) (by omega) (by decide +kernel) (by omega) (by omega) ?_
  rw [zNewA_sg hz]
  refine z_pR hX lkX10i_ok (ini := true) (fun _ => lkX10i_i) 16 11 2 (fun k h => h) rfl ((kF_hi _ ho).trans (by rw [upK_ne _ _ (by omega), upK_ne _ _ (by omega), upK_ne _ _ (by omega)]; exact hk)) (by decide +kernel) ?_
  rw [sg_pR ho]
  exact z_vret hX (by decide +kernel) rfl (by omega) (by omega) (⟨rfl, rfl⟩)
def wk1K (K : Nat → Nat) (B : Nat) : Nat → Nat := upK (upK (upK (upK K (B + 1) 12) (B + 2) 22) (B + 3) 22) (B + 4) 22
def wkN (N : Nat → Nat) (B n : Nat) : Nat → Nat := upK (upK (upK N (B + 2) n) (B + 3) n) (B + 4) n
def wk1R (R : Nat → Nat → Option Nat) (B : Nat) : Nat → Nat → Option Nat := up2 (up2 (upW (up2 (upW (up2 (upW (upW (up2 R B 0 (some 205)) (B + 1) none) (B + 2) none) (B + 1) 0 (some (B + 2))) (B + 3) none) (B + 1) 1 (some (B + 3))) (B + 4) none) (B + 1) 2 (some (B + 4))) B 2 (some (B + 1))
def wk1I (I : Nat → Nat → Int32) (B n : Nat) : Nat → Nat → Int32 := upW (upW (upW (upW (up2 I B 1 (nI n)) (B + 1) 0) (B + 2) 0) (B + 3) 0) (B + 4) 0
def wkL (L : Nat → Nat → Int64) (B : Nat) : Nat → Nat → Int64 := upW (upW (upW L (B + 2) 0) (B + 3) 0) (B + 4) 0
theorem c_X7_init (E : zE) (K N : Nat → Nat) (Rf : Nat → Nat → Option Nat) (I : Nat → Nat → Int32) (L : Nat → Nat → Int64) {B n : Nat} (hB : 1000 ≤ B) (hk : K B = 9) (k1 : K (B + 1) = 0) (k2 : K (B + 2) = 0) (k3 : K (B + 3) = 0) (k4 : K (B + 4) = 0) (hn : n ≤ 100) : zCt E mX7_init 2 4 (5 + 3 * n) (sg K N Rf I L) [.ref B, .ref 205, .int (nI n)] (fun v σ' => σ' = sg (wk1K K B) (wkN N B n) (wk1R Rf B) (wk1I I B n) (wkL L B) ∧ v = none) := by
  refine z_intro (by decide) (Nat.le_of_ble_eq_true rfl) (fun X hX => ?_)
  refine bk hX lkX7_ok (pc' := 1) [.aload_n 0] (by decide +kernel) (And.intro trivial ?_)
  refine z_obj hX ko_X7_3 (by decide +kernel) (by decide) (Nat.le_of_ble_eq_true rfl) (by omega) (by omega) ?_
  refine bk hX lkX7_ok (pc' := 6) [.aload_n 0, .aload_n 1] (by decide +kernel) (And.intro trivial ?_)
  refine z_pR hX lkX7i_ok (ini := true) (fun _ => lkX7i_i) 9 8 0 (fun k h => h) rfl ((kF_hi _ hB).trans hk) (by decide +kernel) ?_
  rw [sg_pR hB]
  refine bk hX lkX7_ok (pc' := 11) [.aload_n 0, .iload_n 2] (by decide +kernel) (And.intro trivial ?_)
  refine z_pI hX lkX7i_ok (ini := true) (fun _ => lkX7i_i) 15 8 1 (fun k h => h) rfl ((kF_hi _ hB).trans hk) (by decide +kernel) ?_
  rw [sg_pI]
  refine bk hX lkX7_ok (pc' := 15) [.aload_n 0] (by decide +kernel) (And.intro trivial ?_)
  refine z_new hX nw_X7_19 (B + 1) ((kF_hi _ (show 1000 ≤ B + 1 by omega)).trans k1) (by decide +kernel) (by omega) (by show _ + 5 ≤ _; omega) ?_
  rw [zNewO_sg (show 1000 ≤ B + 1 by omega)]
  show zS _ _ (0 + 1) (0 + 5) _ _ _
  refine bk hX lkX7_ok (pc' := 20) [.dup, .iload_n 2] (by decide +kernel) (And.intro trivial ?_)
  refine z_callI hX kw_X7_21 (c_X10_init E _ N _ _ L (oo := B + 1) (x := B + 2) (y := B + 3) (z := B + 4) (n := n) (by omega) (upK_at _ _ _) (by omega) (by omega) (by omega) (by rw [upK_ne _ _ (by omega)]; exact k2) (by rw [upK_ne _ _ (by omega)]; exact k3) (by rw [upK_ne _ _ (by omega)]; exact k4) (by omega) hn) rfl rfl (by decide +kernel) (by decide) (by decide) (by omega) (by omega) (Nat.le_of_ble_eq_true rfl) ?_
  rintro _ _ ⟨rfl, rfl⟩
  refine z_pR hX lkX7i_ok (ini := true) (fun _ => lkX7i_i) 24 8 2 (fun k h => h) rfl ((kF_hi _ hB).trans (by rw [upK_ne _ _ (by omega), upK_ne _ _ (by omega), upK_ne _ _ (by omega), upK_ne _ _ (by omega)]; exact hk)) (by decide +kernel) ?_
  rw [sg_pR hB]
  exact z_vret hX (by decide +kernel) rfl (by omega) (by omega) (⟨rfl, rfl⟩)
theorem wk1K_ne {K : Nat → Nat} {B q : Nat} (h : q ≤ B ∨ B + 4 < q) : wk1K K B q = K q := by
  unfold wk1K
  rw [upK_ne _ _ (by omega), upK_ne _ _ (by omega), upK_ne _ _ (by omega), upK_ne _ _ (by omega)]
theorem wkN_ne {N : Nat → Nat} {B n q : Nat} (h : q ≤ B ∨ B + 4 < q) : wkN N B n q = N q := by
  unfold wkN
  rw [upK_ne _ _ (by omega), upK_ne _ _ (by omega), upK_ne _ _ (by omega)]
theorem wk1R_ne {R : Nat → Nat → Option Nat} {B q : Nat} (h : q < B ∨ B + 4 < q) : wk1R R B q = R q := by
  unfold wk1R
  rw [up2_ne _ _ _ (by omega), up2_ne _ _ _ (by omega), upW_ne _ _ (by omega), up2_ne _ _ _ (by omega), upW_ne _ _ (by omega), up2_ne _ _ _ (by omega), upW_ne _ _ (by omega), upW_ne _ _ (by omega), up2_ne _ _ _ (by omega)]
theorem wk1I_ne {I : Nat → Nat → Int32} {B n q : Nat} (h : q < B ∨ B + 4 < q) : wk1I I B n q = I q := by
  unfold wk1I
  rw [upW_ne _ _ (by omega), upW_ne _ _ (by omega), upW_ne _ _ (by omega), upW_ne _ _ (by omega), up2_ne _ _ _ (by omega)]
theorem wkL_ne {L : Nat → Nat → Int64} {B q : Nat} (h : q ≤ B ∨ B + 4 < q) : wkL L B q = L q := by
  unfold wkL
  rw [upW_ne _ _ (by omega), upW_ne _ _ (by omega), upW_ne _ _ (by omega)]
theorem wk_F {K N : Nat → Nat} {R : Nat → Nat → Option Nat} {B : Nat} {t : List Nat} (hB : 1000 ≤ B) (hk : K B = 9) : rdF B (B + 1) (B + 2) (B + 3) (B + 4) t (wk1K K B) (wkN N B t.length) (wk1R R B) := by
  have rB : ∀ j, wk1R R B B j = if j = 2 then some (B + 1) else if j = 0 then some 205 else R B j := fun j => by
    unfold wk1R
    rw [up2_at]
    split
    · rfl
    · rw [up2_ne _ _ _ (by omega), upW_ne _ _ (by omega), up2_ne _ _ _ (by omega), upW_ne _ _ (by omega), up2_ne _ _ _ (by omega), upW_ne _ _ (by omega), upW_ne _ _ (by omega), up2_at]
  have rW : ∀ j, wk1R R B (B + 1) j = if j = 2 then some (B + 4) else if j = 1 then some (B + 3) else if j = 0 then some (B + 2) else none := fun j => by
    unfold wk1R
    rw [up2_ne _ _ _ (by omega), up2_at]
    split
    · rfl
    · rw [upW_ne _ _ (by omega), up2_at]
      split
      · rfl
      · rw [upW_ne _ _ (by omega), up2_at]
        split
        · rfl
        · rw [upW_ne _ _ (by omega), upW_at]
  refine ⟨⟨hB, by rw [wk1K_ne (Or.inl (Nat.le_refl _))]; exact hk, by rw [rB]; rfl, by rw [rB]; rfl⟩, ⟨by omega, ?_⟩, ⟨by omega, ?_, ?_, by rw [rW]; rfl⟩, ⟨by omega, ?_, ?_, by rw [rW]; rfl⟩, ⟨by omega, upK_at _ _ _, upK_at _ _ _, by rw [rW]; rfl⟩, by omega, by omega, by omega⟩
  · unfold wk1K; rw [upK_ne _ _ (by omega), upK_ne _ _ (by omega), upK_ne _ _ (by omega), upK_at]
  · unfold wk1K; rw [upK_ne _ _ (by omega), upK_ne _ _ (by omega), upK_at]
  · unfold wkN; rw [upK_ne _ _ (by omega), upK_ne _ _ (by omega), upK_at]
  · unfold wk1K; rw [upK_ne _ _ (by omega), upK_at]
  · unfold wkN; rw [upK_ne _ _ (by omega), upK_at]
theorem wk_I {I : Nat → Nat → Int32} {B : Nat} {t : List Nat} (hB : 1000 ≤ B) (x : Int32) : rdI B (B + 1) (B + 2) (B + 3) (B + 4) t (up2 (wk1I (upW I B 0) B t.length) 200 5 x) (up2 (wk1I (upW I B 0) B t.length) 200 5 x) 0 [] 0 := by
  have iB : ∀ j, wk1I (upW I B 0) B t.length B j = if j = 1 then nI t.length else 0 := fun j => by
    unfold wk1I
    rw [upW_ne _ _ (by omega), upW_ne _ _ (by omega), upW_ne _ _ (by omega), upW_ne _ _ (by omega), up2_at, upW_at]
  have iW : ∀ j, wk1I (upW I B 0) B t.length (B + 1) j = 0 := fun j => by
    unfold wk1I
    rw [upW_ne _ _ (by omega), upW_ne _ _ (by omega), upW_ne _ _ (by omega), upW_at]
  refine ⟨fun q _ _ _ _ _ => rfl, ?_, ?_, ?_, ?_, fun j hj => absurd hj (Nat.not_lt_zero _)⟩
  · rw [up2_ne _ _ _ (by omega), iB]; rfl
  · rw [up2_ne _ _ _ (by omega), iB]; rfl
  · rw [up2_ne _ _ _ (by omega), iW]; rfl
  · rw [up2_ne _ _ _ (by omega), iW]; rfl
/-- the answer of works, and what lies then -/
def wksPo (t : List Nat) (m : Nat) (K N : Nat → Nat) (R : Nat → Nat → Option Nat) (I : Nat → Nat → Int32) (L : Nat → Nat → Int64) (v : Option Value) (σ' : Sg) : Prop := ∃ K' N' R' I' L', σ' = sg K' N' R' I' L' ∧ grw K N R I K' N' R' I' ∧ fre K' ∧ (∀ q, q < 1000 → L' q = L q) ∧ (∀ q, q < 1000 → q ≠ 200 → I' q = I q) ∧ (∀ k, k ≠ 5 → k ≠ 6 → I' 200 k = I 200 k) ∧ (∀ q, q < 1000 → q ≠ 300 → R' q = R q) ∧ (∀ k, k ≠ 7 → R' 300 k = R 300 k) ∧
  ((m = 6 ∧ v = some (.int (-nI 4)) ∧ I' 200 = I 200 ∧ R' 300 = R 300) ∨ (m < 6 ∧ I' 200 5 = nI 0 ∧ (((pWk 100 10 t).1 = none ∧ v = some (.int (-nI 10 - nI (pWk 100 10 t).2)) ∧ I' 200 6 = nI m ∧ R' 300 = R 300) ∨ ∃ w, (pWk 100 10 t).1 = some w ∧ v = some (.int (nI m)) ∧ I' 200 6 = nI (m + 1) ∧ xH 300 w K' N' R' I')))
set_option maxHeartbeats 4000000 in
theorem c_X_works (E : zE) (K N : Nat → Nat) (Rf : Nat → Nat → Option Nat) (I : Nat → Nat → Int32) (L : Nat → Nat → Int64) {t : List Nat} (ht : txw t) (hx : xTx t I) {m : Nat} (hm : I 200 6 = nI m) (hm6 : m ≤ 6) (hfre : fre K) : zCt E mX11_works 17 5 309 (sg K N Rf I L) [.ref 200] (wksPo t m K N Rf I L) := by
  obtain ⟨B, hB, hf⟩ := hfre
  have ht1 := ht.1
  refine z_intro (by decide) (Nat.le_of_ble_eq_true rfl) (fun X hX => ?_)
  refine bk hX lkX11_ok (pc' := 6) [.aload_n 0, .getfield 137, .bipush 6] (by decide +kernel) (And.intro trivial ?_)
  rw [hm]
  refine ic_lt hX (6) 12 (by decide +kernel) (by decide) (fun c6 => ?_) (fun c6 => ?_)
  · have hm5 : m < 6 := (nI_ltI (by omega) (by decide)).mp c6
    refine z_new hX nw_X11_140 B ((kF_hi _ hB).trans (hf B (by omega))) (by decide +kernel) (by decide) (by decide) ?_
    rw [zNewO_sg hB]
    show zS _ _ (0 + 1) (0 + 4) _ _ _
    refine bk hX lkX11_ok (pc' := 24) [.dup, .aload_n 0, .getfield 24, .aload_n 0, .getfield 134] (by decide +kernel) (And.intro trivial ?_)
    rw [show upW I B 0 200 5 = nI t.length from (congrFun (upW_ne _ _ (by omega)) 5).trans hx.1]
    refine z_callI hX kw_X11_142 (c_X7_init E _ N _ _ L (B := B) (n := t.length) hB (upK_at _ _ _) (by rw [upK_ne _ _ (by omega)]; exact hf _ (by omega)) (by rw [upK_ne _ _ (by omega)]; exact hf _ (by omega)) (by rw [upK_ne _ _ (by omega)]; exact hf _ (by omega)) (by rw [upK_ne _ _ (by omega)]; exact hf _ (by omega)) hx.2.1) rfl rfl (by decide +kernel) (by decide) (by decide) (by omega) (by omega) (Nat.le_of_ble_eq_true rfl) ?_
    rintro _ _ ⟨rfl, rfl⟩
    refine bk hX lkX11_ok (pc' := 34) [.astore_n 1, .aload_n 0, .iconst 0, .putfield 134, .aload_n 1] (by decide +kernel) (And.intro trivial ?_)
    show zS _ (sg _ _ _ _ _) _ _ _ _ _
    have hF : rdF B (B + 1) (B + 2) (B + 3) (B + 4) t (wk1K (upK K B 9) B) (wkN N B t.length) (wk1R (upW Rf B none) B) := wk_F hB (upK_at _ _ _)
    have hI := wk_I (I := I) (t := t) hB (nI 0)
    have iE : ∀ q, q < 1000 → wk1I (upW I B 0) B t.length q = I q := fun q hq => by rw [wk1I_ne (by omega), upW_ne _ _ (by omega)]
    have hT : ∀ k, k < t.length → (up2 (wk1I (upW I B 0) B t.length) 200 5 (nI 0)) 205 k = nI (t.getD k 0) := fun k hk => by rw [up2_ne _ _ _ (by decide), iE 205 (by decide)]; exact hx.2.2 k hk
    refine z_callV hX kw_X11_145 (c_R_works E _ _ _ _ _ ht hF hT hI) rfl rfl (rd_k hF _ _) rfl rfl (by decide +kernel) (by decide) (by decide) (by omega) (by omega) (Nat.le_of_ble_eq_true rfl) ?_
    rintro v _ ⟨I2, rfl, y⟩
    have hfr : grw K N Rf I (wk1K (upK K B 9) B) (wkN N B t.length) (wk1R (upW Rf B none) B) I2 ∧ (∀ q, q < 1000 → q ≠ 200 → I2 q = I q) ∧ (∀ k, k ≠ 5 → I2 200 k = I 200 k) ∧ I2 200 5 = nI 0 := by
      have fr : ∀ q, q ≠ B → q ≠ B + 1 → q ≠ B + 2 → q ≠ B + 3 → q ≠ B + 4 → I2 q = up2 (wk1I (upW I B 0) B t.length) 200 5 (nI 0) q := by
        generalize pWk 100 10 t = res at y
        obtain ⟨_ | w, q⟩ := res
        · obtain ⟨-, ss9, r9, y⟩ := y
          exact y.1
        · exact y.2.2.2.1
      refine ⟨fun q h1 h2 => ?_, fun q h1 h2 => ?_, fun k h1 => ?_, ?_⟩
      · have hq : q < B := Nat.lt_of_not_le (fun z => h2 (hf q z))
        refine ⟨by rw [wk1K_ne (by omega), upK_ne _ _ (by omega)], wkN_ne (by omega), by rw [wk1R_ne (by omega), upW_ne _ _ (by omega)], ?_⟩
        rw [fr q (by omega) (by omega) (by omega) (by omega) (by omega), up2_ne _ _ _ (by omega), wk1I_ne (by omega), upW_ne _ _ (by omega)]
      · rw [fr q (by omega) (by omega) (by omega) (by omega) (by omega), up2_ne _ _ _ h2, iE q h1]
      · rw [fr 200 (by omega) (by omega) (by omega) (by omega) (by omega), up2_at, if_neg h1, iE 200 (by decide)]
      · rw [fr 200 (by omega) (by omega) (by omega) (by omega) (by omega), up2_self]
    obtain ⟨f1, f2, f3, f4⟩ := hfr
    have hfK : fre (wk1K (upK K B 9) B) := ⟨B + 5, by omega, fun q hq => by rw [wk1K_ne (by omega), upK_ne _ _ (by omega)]; exact hf q (by omega)⟩
    have hL : ∀ q, q < 1000 → wkL L B q = L q := fun q hq => wkL_ne (by omega)
    have hR : ∀ q, q < 1000 → wk1R (upW Rf B none) B q = Rf q := fun q hq => by rw [wk1R_ne (by omega), upW_ne _ _ (by omega)]
    generalize hq : pWk 100 10 t = res at y
    obtain ⟨_ | w, q⟩ := res
    · obtain ⟨rfl, ss9, r9, y⟩ := y
      refine if_ne hX (11) 48 (by decide +kernel) (by decide) (fun c => absurd (by decide) c) (fun c_37 => ?_)
      refine bk hX lkX11_ok (pc' := 43) [.bipush (Int.negSucc 9), .aload_n 1] (by decide +kernel) (And.intro trivial ?_)
      refine z_gIv hX lkX11_ok 149 8 3 (fun k h => h) (by decide) (rd_k hF _ _) (by decide +kernel) (y.2.2.1) ?_
      refine bk hX lkX11_ok (pc' := 47) [.isub] (by decide +kernel) (And.intro trivial ?_)
      exact z_iret hX (by decide +kernel) rfl (rfl) (by omega) (by omega) (by
  exact ⟨_, _, _, I2, _, rfl, f1, hfK, hL, f2, fun k h5 _ => f3 k h5, fun q h1 _ => hR q h1, fun k _ => by rw [hR 300 (by decide)], Or.inr ⟨hm5, f4, Or.inl ⟨by rw [hq], by rw [hq], by rw [f3 6 (by decide)]; exact hm, hR 300 (by decide)⟩⟩⟩)
    · obtain ⟨rfl, y0, y1, y⟩ := y
      refine if_ne hX (11) 48 (by decide +kernel) (by decide) (fun c_37 => ?_) (fun c => absurd c (by decide))
      refine bk hX lkX11_ok (pc' := 53) [.aload_n 0, .getfield 12, .aload_n 1] (by decide +kernel) (And.intro trivial ?_)
      refine z_gR hX lkX11_ok 152 8 2 (fun k h => h) (rd_k hF _ _) (rd_2 hF _ _) (by decide +kernel) ?_
      refine z_pR hX lkX11_ok (z_no _ _) 156 2 7 (fun k h => h) rfl (by rfl) (by decide +kernel) ?_
      rw [sg_pR7]
      refine bk hX lkX11_ok (pc' := 75) [.aload_n 0, .dup, .getfield 137, .iconst 1, .iadd, .putfield 137, .aload_n 0, .getfield 137, .iconst 1, .isub] (by decide +kernel) (And.intro trivial ?_)
      exact z_iret hX (by decide +kernel) rfl (rfl) (by omega) (by omega) (by
  have e6 : I2 200 6 = nI m := by rw [f3 6 (by decide)]; exact hm
  obtain ⟨fA, fB, ⟨fa1, fa2, fa3, fa4⟩, ⟨fb1, fb2, fb3, fb4⟩, ⟨fc1, fc2, fc3, fc4⟩, fd⟩ := hF
  obtain ⟨yy1, yy2, yy3, yy4, yy5, yy6⟩ := y
  have nb : ∀ q, 1000 ≤ q → up2 I2 200 6 (I2 200 6 + nI 1) q = I2 q := fun q h => up2_ne _ _ _ (by omega)
  have rb : ∀ q, 1000 ≤ q → up2 (wk1R (upW Rf B none) B) 300 7 (some (B + 1)) q = wk1R (upW Rf B none) B q := fun q h => up2_ne _ _ _ (by omega)
  refine ⟨_, _, up2 (wk1R (upW Rf B none) B) 300 7 (some (B + 1)), up2 I2 200 6 (I2 200 6 + nI 1), _, rfl, ?_, hfK, hL, fun q h1 h2 => by rw [up2_ne _ _ _ h2]; exact f2 q h1 h2, fun k h5 h6 => by rw [up2_at, if_neg h6]; exact f3 k h5, fun q h1 h2 => by rw [up2_ne _ _ _ h2]; exact hR q h1, fun k h7 => by rw [up2_at, if_neg h7, hR 300 (by decide)], Or.inr ⟨hm5, by rw [up2_at, if_neg (by decide)]; exact f4, Or.inr ⟨w, by rw [hq], ?_, ?_, ?_⟩⟩⟩
  · intro q h1 h2
    obtain ⟨g1, g2, g3, g4⟩ := f1 q h1 h2
    exact ⟨g1, g2, by rw [rb q h1]; exact g3, by rw [nb q h1]; exact g4⟩
  · show some (Value.int (up2 I2 200 6 (I2 200 6 + nI 1) 200 6 - nI 1)) = _
    rw [up2_self, e6, nI_add, show nI (m + 1) - nI 1 = nI (m + 1 - 1) from pk_sub (by omega)]
    rfl
  · rw [up2_self, e6, nI_add]
  · refine Or.inr ⟨B + 1, t.length, up2_self _ _ _ _, fB.1, fB.2, ?_, ?_, ?_, hx.2.1, B + 2, B + 3, B + 4, ⟨fa1, fa2, fa3, ?_⟩, ⟨fb1, fb2, fb3, ?_⟩, ⟨fc1, fc2, fc3, ?_⟩, fd, ?_⟩
    · rw [nb _ fB.1]; exact yy4
    · rw [nb _ fB.1]; exact yy5
    · omega
    · rw [rb _ fB.1]; exact fa4
    · rw [rb _ fB.1]; exact fb4
    · rw [rb _ fB.1]; exact fc4
    · intro j hj
      rw [nb _ fa1, nb _ fb1, nb _ fc1]
      exact yy6 j hj)
  · refine bk hX lkX11_ok (pc' := 11) [.bipush (Int.negSucc 3)] (by decide +kernel) (And.intro trivial ?_)
    exact z_iret hX (by decide +kernel) rfl (rfl) (by omega) (by omega) (by
  have e : m = 6 := by
    have : ¬ m < 6 := fun z => c6 ((nI_ltI (by omega) (by decide)).mpr z)
    omega
  exact ⟨K, N, Rf, I, L, rfl, grw_rf _ _ _ _, ⟨B, hB, hf⟩, fun _ _ => rfl, fun _ _ _ => rfl, fun _ _ _ => rfl, fun _ _ _ => rfl, fun _ _ => rfl, Or.inl ⟨e, rfl, rfl, rfl⟩⟩)
