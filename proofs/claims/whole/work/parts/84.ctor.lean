/-! ===== constructors ===== -/
def pI (σ : Sg) (o j : Nat) (v : Int32) : Sg := (σ.1, σ.2.1, up2 σ.2.2.1 o j v, σ.2.2.2.1, σ.2.2.2.2)
def pR (σ : Sg) (o j : Nat) (q : Option Nat) : Sg := (σ.1, σ.2.1, σ.2.2.1, σ.2.2.2.1, up2 σ.2.2.2.2 o j q)
/-- nothing lies there yet -/
def frs (l : List Nat) (σ : Sg) : Prop := ∀ p ∈ l, σ.1 p = 0
theorem frs_I {l : List Nat} {σ : Sg} (h : frs l σ) (o j : Nat) (v : Int32) : frs l (pI σ o j v) := h
theorem frs_R {l : List Nat} {σ : Sg} (h : frs l σ) (o j : Nat) (v : Option Nat) : frs l (pR σ o j v) := h
theorem frs_A {n : Nat} {l : List Nat} {σ : Sg} (h : frs (n :: l) σ) (hn : n ∉ l) (t len : Nat) : frs l (zNewA σ n t len) := fun p hp => (upK_ne _ _ (show p ≠ n from fun e => hn (by rw [← e]; exact hp))).trans (h p (List.mem_cons_of_mem _ hp))
theorem frs_O {n : Nat} {l : List Nat} {σ : Sg} (h : frs (n :: l) σ) (hn : n ∉ l) (ci : Nat) : frs l (zNewO σ n ci) := fun p hp => (upK_ne _ _ (show p ≠ n from fun e => hn (by rw [← e]; exact hp))).trans (h p (List.mem_cons_of_mem _ hp))
theorem kA {σ : Sg} {o c n : Nat} (h : σ.1 o = c) (hn : o ≠ n) (t len : Nat) : (zNewA σ n t len).1 o = c := (upK_ne _ _ hn).trans h
theorem kO {σ : Sg} {o c n : Nat} (h : σ.1 o = c) (hn : o ≠ n) (ci : Nat) : (zNewO σ n ci).1 o = c := (upK_ne _ _ hn).trans h
theorem kO1 (σ : Sg) (n ci : Nat) : (zNewO σ n ci).1 n = ci + 1 := upK_at _ _ _
theorem kA1 (σ : Sg) (n t len : Nat) : (zNewA σ n t len).1 n = 20 + t := upK_at _ _ _
theorem nA1 (σ : Sg) (n t len : Nat) : (zNewA σ n t len).2.1 n = len := upK_at _ _ _
section
variable {X : zX} {E : zE} {M : zM} {d mc ms : Nat} {Po : Option Value → Sg → Prop} {σ : Sg} {cells slots pc : Nat} {lv : List (Nat × Value)} {st : List Value}
theorem z_pZ (hX : zD X E M d mc ms Po) {lk : zLk} (hlk : zlkOK M.1.cls lk) {ini : Bool} (hini : ini = true → zini M lk) (idx ci j tc : Nat) (htc : tc = 2 ∨ tc = 3) {fin : Bool} (hz : ∀ k : Nat → Nat → Nat → Bool → Prop, k ci j tc fin → zlkF lk.1 idx k) (hf : (fin && !ini) = false) {p : Nat} (hk : σ.1 p = ci + 1) (hd : decode M.2.1 pc = .ok (.putfield idx, 3)) (kk : zS X (pI σ p j (nI 0)) cells slots (pc + 3) lv st) : zS X σ cells slots pc lv (.int (nI 0) :: .ref p :: st) := by
  obtain ⟨K, N, I, L, Rf⟩ := σ
  refine z_one hX hlk hini (i := .putfield idx) hd (hz _ ?_)
  show bif fin && !ini then False else _
  rw [hf]
  show bif Nat.beq (K p) (ci + 1) then _ else False
  rw [show K p = ci + 1 from hk, bq_t]
  rcases htc with rfl | rfl
  · exact ⟨⟨by decide, by decide⟩, kk⟩
  · exact ⟨⟨by decide, by decide⟩, kk⟩
end
def x8P (σ : Sg) (o n : Nat) : Sg := pR (zNewA (pR (zNewA (pR (zNewA σ (o + 1) 2 n) o 0 (some (o + 1))) (o + 2) 2 n) o 1 (some (o + 2))) (o + 3) 2 n) o 2 (some (o + 3))
theorem x8_k {σ : Sg} {o n p : Nat} (h1 : p ≠ o + 1) (h2 : p ≠ o + 2) (h3 : p ≠ o + 3) : (x8P σ o n).1 p = σ.1 p := (upK_ne _ _ h3).trans ((upK_ne _ _ h2).trans (upK_ne _ _ h1))
theorem frs_8 {o : Nat} {l : List Nat} {σ : Sg} (h : frs ((o + 1) :: (o + 2) :: (o + 3) :: l) σ) (h1 : o + 1 ∉ l) (h2 : o + 2 ∉ l) (h3 : o + 3 ∉ l) (n : Nat) : frs l (x8P σ o n) := fun p hp => (x8_k (fun e => h1 (by rw [← e]; exact hp)) (fun e => h2 (by rw [← e]; exact hp)) (fun e => h3 (by rw [← e]; exact hp))).trans (h p (List.mem_cons_of_mem _ (List.mem_cons_of_mem _ (List.mem_cons_of_mem _ hp))))
theorem liX8_i : zini mX8_init liX8 := ⟨rfl, List.forall_mem_cons.mpr ⟨fun c hc => by obtain rfl := Option.some.inj (show some (RX8, TX8, 4) = some c from hc); rfl, List.forall_mem_cons.mpr ⟨fun c hc => by obtain rfl := Option.some.inj (show some (RX8, TX8, 4) = some c from hc); rfl, List.forall_mem_cons.mpr ⟨fun c hc => by obtain rfl := Option.some.inj (show some (RX8, TX8, 4) = some c from hc); rfl, List.forall_mem_cons.mpr ⟨fun c hc => by obtain rfl := Option.some.inj (show some (RX8, TX8, 4) = some c from hc); rfl, fun _ h => absurd h List.not_mem_nil⟩⟩⟩⟩⟩
theorem liX1_i : zini mX1_init liX1 := ⟨rfl, List.forall_mem_cons.mpr ⟨fun c hc => by obtain rfl := Option.some.inj (show some (RX1, TX1, 11) = some c from hc); rfl, List.forall_mem_cons.mpr ⟨fun c hc => by obtain rfl := Option.some.inj (show some (RX1, TX1, 11) = some c from hc); rfl, List.forall_mem_cons.mpr ⟨fun c hc => by obtain rfl := Option.some.inj (show some (RX1, TX1, 11) = some c from hc); rfl, List.forall_mem_cons.mpr ⟨fun c hc => by obtain rfl := Option.some.inj (show some (RX1, TX1, 11) = some c from hc); rfl, List.forall_mem_cons.mpr ⟨fun c hc => by obtain rfl := Option.some.inj (show some (RX1, TX1, 11) = some c from hc); rfl, List.forall_mem_cons.mpr ⟨fun c hc => by obtain rfl := Option.some.inj (show some (RX1, TX1, 11) = some c from hc); rfl, List.forall_mem_cons.mpr ⟨fun c hc => by obtain rfl := Option.some.inj (show some (RX1, TX1, 11) = some c from hc); rfl, List.forall_mem_cons.mpr ⟨fun c hc => by obtain rfl := Option.some.inj (show some (RX1, TX1, 11) = some c from hc); rfl, List.forall_mem_cons.mpr ⟨fun c hc => by obtain rfl := Option.some.inj (show some (RX1, TX1, 11) = some c from hc); rfl, List.forall_mem_cons.mpr ⟨fun c hc => by obtain rfl := Option.some.inj (show some (RX1, TX1, 11) = some c from hc); rfl, List.forall_mem_cons.mpr ⟨fun c hc => by obtain rfl := Option.some.inj (show some (RX1, TX1, 11) = some c from hc); rfl, fun _ h => absurd h List.not_mem_nil⟩⟩⟩⟩⟩⟩⟩⟩⟩⟩⟩⟩
theorem liX11_i : zini mX11_init liX11 := ⟨rfl, List.forall_mem_cons.mpr ⟨fun c hc => by obtain rfl := Option.some.inj (show some (RX11, TX11, 13) = some c from hc); rfl, List.forall_mem_cons.mpr ⟨fun c hc => by obtain rfl := Option.some.inj (show some (RX11, TX11, 13) = some c from hc); rfl, List.forall_mem_cons.mpr ⟨fun c hc => by obtain rfl := Option.some.inj (show some (RX11, TX11, 13) = some c from hc); rfl, List.forall_mem_cons.mpr ⟨fun c hc => by obtain rfl := Option.some.inj (show some (RX11, TX11, 13) = some c from hc); rfl, List.forall_mem_cons.mpr ⟨fun c hc => by obtain rfl := Option.some.inj (show some (RX11, TX11, 13) = some c from hc); rfl, List.forall_mem_cons.mpr ⟨fun c hc => by obtain rfl := Option.some.inj (show some (RX11, TX11, 13) = some c from hc); rfl, List.forall_mem_cons.mpr ⟨fun c hc => by obtain rfl := Option.some.inj (show some (RX11, TX11, 13) = some c from hc); rfl, List.forall_mem_cons.mpr ⟨fun c hc => by obtain rfl := Option.some.inj (show some (RX11, TX11, 13) = some c from hc); rfl, List.forall_mem_cons.mpr ⟨fun c hc => by obtain rfl := Option.some.inj (show some (RX11, TX11, 13) = some c from hc); rfl, List.forall_mem_cons.mpr ⟨fun c hc => by obtain rfl := Option.some.inj (show some (RX11, TX11, 13) = some c from hc); rfl, List.forall_mem_cons.mpr ⟨fun c hc => by obtain rfl := Option.some.inj (show some (RX11, TX11, 13) = some c from hc); rfl, List.forall_mem_cons.mpr ⟨fun c hc => by obtain rfl := Option.some.inj (show some (RX11, TX11, 13) = some c from hc); rfl, List.forall_mem_cons.mpr ⟨fun c hc => by obtain rfl := Option.some.inj (show some (RX11, TX11, 13) = some c from hc); rfl, fun _ h => absurd h List.not_mem_nil⟩⟩⟩⟩⟩⟩⟩⟩⟩⟩⟩⟩⟩⟩
theorem liX12_i : zini mX12_init liX12 := ⟨rfl, List.forall_mem_cons.mpr ⟨fun c hc => by obtain rfl := Option.some.inj (show some (RX12, TX12, 70) = some c from hc); rfl, List.forall_mem_cons.mpr ⟨fun c hc => by obtain rfl := Option.some.inj (show some (RX12, TX12, 70) = some c from hc); rfl, List.forall_mem_cons.mpr ⟨fun c hc => by obtain rfl := Option.some.inj (show some (RX12, TX12, 70) = some c from hc); rfl, List.forall_mem_cons.mpr ⟨fun c hc => by obtain rfl := Option.some.inj (show some (RX12, TX12, 70) = some c from hc); rfl, List.forall_mem_cons.mpr ⟨fun c hc => by obtain rfl := Option.some.inj (show some (RX12, TX12, 70) = some c from hc); rfl, List.forall_mem_cons.mpr ⟨fun c hc => by obtain rfl := Option.some.inj (show some (RX12, TX12, 70) = some c from hc); rfl, List.forall_mem_cons.mpr ⟨fun c hc => by obtain rfl := Option.some.inj (show some (RX12, TX12, 70) = some c from hc); rfl, List.forall_mem_cons.mpr ⟨fun c hc => by obtain rfl := Option.some.inj (show some (RX12, TX12, 70) = some c from hc); rfl, List.forall_mem_cons.mpr ⟨fun c hc => by obtain rfl := Option.some.inj (show some (RX12, TX12, 70) = some c from hc); rfl, List.forall_mem_cons.mpr ⟨fun c hc => by obtain rfl := Option.some.inj (show some (RX12, TX12, 70) = some c from hc); rfl, List.forall_mem_cons.mpr ⟨fun c hc => by obtain rfl := Option.some.inj (show some (RX12, TX12, 70) = some c from hc); rfl, List.forall_mem_cons.mpr ⟨fun c hc => by obtain rfl := Option.some.inj (show some (RX12, TX12, 70) = some c from hc); rfl, List.forall_mem_cons.mpr ⟨fun c hc => by obtain rfl := Option.some.inj (show some (RX12, TX12, 70) = some c from hc); rfl, List.forall_mem_cons.mpr ⟨fun c hc => by obtain rfl := Option.some.inj (show some (RX12, TX12, 70) = some c from hc); rfl, List.forall_mem_cons.mpr ⟨fun c hc => by obtain rfl := Option.some.inj (show some (RX12, TX12, 70) = some c from hc); rfl, List.forall_mem_cons.mpr ⟨fun c hc => by obtain rfl := Option.some.inj (show some (RX12, TX12, 70) = some c from hc); rfl, List.forall_mem_cons.mpr ⟨fun c hc => by obtain rfl := Option.some.inj (show some (RX12, TX12, 70) = some c from hc); rfl, List.forall_mem_cons.mpr ⟨fun c hc => by obtain rfl := Option.some.inj (show some (RX12, TX12, 70) = some c from hc); rfl, List.forall_mem_cons.mpr ⟨fun c hc => by obtain rfl := Option.some.inj (show some (RX12, TX12, 70) = some c from hc); rfl, List.forall_mem_cons.mpr ⟨fun c hc => by obtain rfl := Option.some.inj (show some (RX12, TX12, 70) = some c from hc); rfl, List.forall_mem_cons.mpr ⟨fun c hc => by obtain rfl := Option.some.inj (show some (RX12, TX12, 70) = some c from hc); rfl, List.forall_mem_cons.mpr ⟨fun c hc => by obtain rfl := Option.some.inj (show some (RX12, TX12, 70) = some c from hc); rfl, List.forall_mem_cons.mpr ⟨fun c hc => by obtain rfl := Option.some.inj (show some (RX12, TX12, 70) = some c from hc); rfl, List.forall_mem_cons.mpr ⟨fun c hc => by obtain rfl := Option.some.inj (show some (RX12, TX12, 70) = some c from hc); rfl, List.forall_mem_cons.mpr ⟨fun c hc => by obtain rfl := Option.some.inj (show some (RX12, TX12, 70) = some c from hc); rfl, List.forall_mem_cons.mpr ⟨fun c hc => by obtain rfl := Option.some.inj (show some (RX12, TX12, 70) = some c from hc); rfl, List.forall_mem_cons.mpr ⟨fun c hc => by obtain rfl := Option.some.inj (show some (RX12, TX12, 70) = some c from hc); rfl, List.forall_mem_cons.mpr ⟨fun c hc => by obtain rfl := Option.some.inj (show some (RX12, TX12, 70) = some c from hc); rfl, List.forall_mem_cons.mpr ⟨fun c hc => by obtain rfl := Option.some.inj (show some (RX12, TX12, 70) = some c from hc); rfl, List.forall_mem_cons.mpr ⟨fun c hc => by obtain rfl := Option.some.inj (show some (RX12, TX12, 70) = some c from hc); rfl, List.forall_mem_cons.mpr ⟨fun c hc => by obtain rfl := Option.some.inj (show some (RX12, TX12, 70) = some c from hc); rfl, List.forall_mem_cons.mpr ⟨fun c hc => by obtain rfl := Option.some.inj (show some (RX12, TX12, 70) = some c from hc); rfl, List.forall_mem_cons.mpr ⟨fun c hc => by obtain rfl := Option.some.inj (show some (RX12, TX12, 70) = some c from hc); rfl, List.forall_mem_cons.mpr ⟨fun c hc => by obtain rfl := Option.some.inj (show some (RX12, TX12, 70) = some c from hc); rfl, List.forall_mem_cons.mpr ⟨fun c hc => by obtain rfl := Option.some.inj (show some (RX12, TX12, 70) = some c from hc); rfl, List.forall_mem_cons.mpr ⟨fun c hc => by obtain rfl := Option.some.inj (show some (RX12, TX12, 70) = some c from hc); rfl, List.forall_mem_cons.mpr ⟨fun c hc => by obtain rfl := Option.some.inj (show some (RX12, TX12, 70) = some c from hc); rfl, List.forall_mem_cons.mpr ⟨fun c hc => by obtain rfl := Option.some.inj (show some (RX12, TX12, 70) = some c from hc); rfl, List.forall_mem_cons.mpr ⟨fun c hc => by obtain rfl := Option.some.inj (show some (RX12, TX12, 70) = some c from hc); rfl, List.forall_mem_cons.mpr ⟨fun c hc => by obtain rfl := Option.some.inj (show some (RX12, TX12, 70) = some c from hc); rfl, List.forall_mem_cons.mpr ⟨fun c hc => by obtain rfl := Option.some.inj (show some (RX12, TX12, 70) = some c from hc); rfl, List.forall_mem_cons.mpr ⟨fun c hc => by obtain rfl := Option.some.inj (show some (RX12, TX12, 70) = some c from hc); rfl, List.forall_mem_cons.mpr ⟨fun c hc => by obtain rfl := Option.some.inj (show some (RX12, TX12, 70) = some c from hc); rfl, List.forall_mem_cons.mpr ⟨fun c hc => by obtain rfl := Option.some.inj (show some (RX12, TX12, 70) = some c from hc); rfl, List.forall_mem_cons.mpr ⟨fun c hc => by obtain rfl := Option.some.inj (show some (RX12, TX12, 70) = some c from hc); rfl, List.forall_mem_cons.mpr ⟨fun c hc => by obtain rfl := Option.some.inj (show some (RX12, TX12, 70) = some c from hc); rfl, List.forall_mem_cons.mpr ⟨fun c hc => by obtain rfl := Option.some.inj (show some (RX12, TX12, 70) = some c from hc); rfl, List.forall_mem_cons.mpr ⟨fun c hc => by obtain rfl := Option.some.inj (show some (RX12, TX12, 70) = some c from hc); rfl, List.forall_mem_cons.mpr ⟨fun c hc => by obtain rfl := Option.some.inj (show some (RX12, TX12, 70) = some c from hc); rfl, List.forall_mem_cons.mpr ⟨fun c hc => by obtain rfl := Option.some.inj (show some (RX12, TX12, 70) = some c from hc); rfl, List.forall_mem_cons.mpr ⟨fun c hc => by obtain rfl := Option.some.inj (show some (RX12, TX12, 70) = some c from hc); rfl, List.forall_mem_cons.mpr ⟨fun c hc => by obtain rfl := Option.some.inj (show some (RX12, TX12, 70) = some c from hc); rfl, List.forall_mem_cons.mpr ⟨fun c hc => by obtain rfl := Option.some.inj (show some (RX12, TX12, 70) = some c from hc); rfl, List.forall_mem_cons.mpr ⟨fun c hc => by obtain rfl := Option.some.inj (show some (RX12, TX12, 70) = some c from hc); rfl, List.forall_mem_cons.mpr ⟨fun c hc => by obtain rfl := Option.some.inj (show some (RX12, TX12, 70) = some c from hc); rfl, List.forall_mem_cons.mpr ⟨fun c hc => by obtain rfl := Option.some.inj (show some (RX12, TX12, 70) = some c from hc); rfl, List.forall_mem_cons.mpr ⟨fun c hc => by obtain rfl := Option.some.inj (show some (RX12, TX12, 70) = some c from hc); rfl, List.forall_mem_cons.mpr ⟨fun c hc => by obtain rfl := Option.some.inj (show some (RX12, TX12, 70) = some c from hc); rfl, List.forall_mem_cons.mpr ⟨fun c hc => by obtain rfl := Option.some.inj (show some (RX12, TX12, 70) = some c from hc); rfl, List.forall_mem_cons.mpr ⟨fun c hc => by obtain rfl := Option.some.inj (show some (RX12, TX12, 70) = some c from hc); rfl, List.forall_mem_cons.mpr ⟨fun c hc => by obtain rfl := Option.some.inj (show some (RX12, TX12, 70) = some c from hc); rfl, List.forall_mem_cons.mpr ⟨fun c hc => by obtain rfl := Option.some.inj (show some (RX12, TX12, 70) = some c from hc); rfl, List.forall_mem_cons.mpr ⟨fun c hc => by obtain rfl := Option.some.inj (show some (RX12, TX12, 70) = some c from hc); rfl, List.forall_mem_cons.mpr ⟨fun c hc => by obtain rfl := Option.some.inj (show some (RX12, TX12, 70) = some c from hc); rfl, List.forall_mem_cons.mpr ⟨fun c hc => by obtain rfl := Option.some.inj (show some (RX12, TX12, 70) = some c from hc); rfl, List.forall_mem_cons.mpr ⟨fun c hc => by obtain rfl := Option.some.inj (show some (RX12, TX12, 70) = some c from hc); rfl, List.forall_mem_cons.mpr ⟨fun c hc => by obtain rfl := Option.some.inj (show some (RX12, TX12, 70) = some c from hc); rfl, List.forall_mem_cons.mpr ⟨fun c hc => by obtain rfl := Option.some.inj (show some (RX12, TX12, 70) = some c from hc); rfl, List.forall_mem_cons.mpr ⟨fun c hc => by obtain rfl := Option.some.inj (show some (RX12, TX12, 70) = some c from hc); rfl, List.forall_mem_cons.mpr ⟨fun c hc => by obtain rfl := Option.some.inj (show some (RX12, TX12, 70) = some c from hc); rfl, fun _ h => absurd h List.not_mem_nil⟩⟩⟩⟩⟩⟩⟩⟩⟩⟩⟩⟩⟩⟩⟩⟩⟩⟩⟩⟩⟩⟩⟩⟩⟩⟩⟩⟩⟩⟩⟩⟩⟩⟩⟩⟩⟩⟩⟩⟩⟩⟩⟩⟩⟩⟩⟩⟩⟩⟩⟩⟩⟩⟩⟩⟩⟩⟩⟩⟩⟩⟩⟩⟩⟩⟩⟩⟩⟩⟩⟩
theorem liJ5_i : zini mJ5_init_d00df liJ5 := ⟨rfl, List.forall_mem_cons.mpr ⟨fun c hc => by obtain rfl := Option.some.inj (show some (RJ4, TJ4, 4) = some c from hc); rfl, List.forall_mem_cons.mpr ⟨fun c hc => by obtain rfl := Option.some.inj (show some (RJ4, TJ4, 4) = some c from hc); rfl, List.forall_mem_cons.mpr ⟨fun c hc => by obtain rfl := Option.some.inj (show some (RJ4, TJ4, 4) = some c from hc); rfl, List.forall_mem_cons.mpr ⟨fun c hc => by obtain rfl := Option.some.inj (show some (RJ4, TJ4, 4) = some c from hc); rfl, fun _ h => absurd h List.not_mem_nil⟩⟩⟩⟩⟩
theorem c_X8_init (E : zE) (σ : Sg) {o n : Nat} (hk_0 : σ.1 o = 10) (h1_0 : σ.1 (o + 1) = 0) (h2_0 : σ.1 (o + 2) = 0) (h3_0 : σ.1 (o + 3) = 0) (hn : n ≤ 100) : zCt E mX8_init 1 3 (3 * n) σ [.ref o, .int (nI n)] (fun v σ' => σ' = x8P σ o n ∧ v = none) := by
  refine z_intro (by decide) (Nat.le_of_ble_eq_true rfl) (fun X hX => ?_)
  refine bk hX lkX8_ok (pc' := 1) [.aload_n 0] (by decide +kernel) (And.intro trivial ?_)
  refine z_obj hX ko_X8_3 (by decide +kernel) (by decide) (Nat.le_of_ble_eq_true rfl) (by omega) (by omega) ?_
  refine bk hX lkX8_ok (pc' := 6) [.aload_n 0, .iload_n 1] (by decide +kernel) (And.intro trivial ?_)
  refine z_newa hX (atype := .int) (t := 2) (by decide) rfl ka_int (o + 1) h1_0 (len := n) (nI_nn (by omega)) (cl (by omega)) (by omega) (by decide +kernel) (by omega) (by omega) ?_
  obtain ⟨s1, e1⟩ : ∃ s, s = zNewA σ (o + 1) 2 n := ⟨_, rfl⟩
  show zS X (zNewA σ (o + 1) 2 n) _ _ _ _ _
  rw [← e1]
  have hk_1 : s1.1 o = 10 := by
    rw [e1]
    exact kA hk_0 (show o ≠ o + 1 by omega) _ _
  have h2_1 : s1.1 (o + 2) = 0 := by
    rw [e1]
    exact kA h2_0 (show o + 2 ≠ o + 1 by omega) _ _
  have h3_1 : s1.1 (o + 3) = 0 := by
    rw [e1]
    exact kA h3_0 (show o + 3 ≠ o + 1 by omega) _ _
  refine z_pR hX liX8_ok (ini := true) (fun _ => liX8_i) 9 9 0 (fun k h => h) rfl hk_1 (by decide +kernel) ?_
  obtain ⟨s2, e2⟩ : ∃ s, s = pR s1 o 0 (some (o + 1)) := ⟨_, rfl⟩
  show zS X (pR s1 o 0 (some (o + 1))) _ _ _ _ _
  rw [← e2]
  have hk_2 : s2.1 o = 10 := by
    rw [e2]
    exact hk_1
  have h2_2 : s2.1 (o + 2) = 0 := by
    rw [e2]
    exact h2_1
  have h3_2 : s2.1 (o + 3) = 0 := by
    rw [e2]
    exact h3_1
  refine bk hX lkX8_ok (pc' := 13) [.aload_n 0, .iload_n 1] (by decide +kernel) (And.intro trivial ?_)
  refine z_newa hX (atype := .int) (t := 2) (by decide) rfl ka_int (o + 2) h2_2 (len := n) (nI_nn (by omega)) (cl (by omega)) (by omega) (by decide +kernel) (by omega) (by omega) ?_
  obtain ⟨s3, e3⟩ : ∃ s, s = zNewA s2 (o + 2) 2 n := ⟨_, rfl⟩
  show zS X (zNewA s2 (o + 2) 2 n) _ _ _ _ _
  rw [← e3]
  have hk_3 : s3.1 o = 10 := by
    rw [e3]
    exact kA hk_2 (show o ≠ o + 2 by omega) _ _
  have h3_3 : s3.1 (o + 3) = 0 := by
    rw [e3]
    exact kA h3_2 (show o + 3 ≠ o + 2 by omega) _ _
  refine z_pR hX liX8_ok (ini := true) (fun _ => liX8_i) 15 9 1 (fun k h => h) rfl hk_3 (by decide +kernel) ?_
  obtain ⟨s4, e4⟩ : ∃ s, s = pR s3 o 1 (some (o + 2)) := ⟨_, rfl⟩
  show zS X (pR s3 o 1 (some (o + 2))) _ _ _ _ _
  rw [← e4]
  have hk_4 : s4.1 o = 10 := by
    rw [e4]
    exact hk_3
  have h3_4 : s4.1 (o + 3) = 0 := by
    rw [e4]
    exact h3_3
  refine bk hX lkX8_ok (pc' := 20) [.aload_n 0, .iload_n 1] (by decide +kernel) (And.intro trivial ?_)
  refine z_newa hX (atype := .int) (t := 2) (by decide) rfl ka_int (o + 3) h3_4 (len := n) (nI_nn (by omega)) (cl (by omega)) (by omega) (by decide +kernel) (by omega) (by omega) ?_
  obtain ⟨s5, e5⟩ : ∃ s, s = zNewA s4 (o + 3) 2 n := ⟨_, rfl⟩
  show zS X (zNewA s4 (o + 3) 2 n) _ _ _ _ _
  rw [← e5]
  have hk_5 : s5.1 o = 10 := by
    rw [e5]
    exact kA hk_4 (show o ≠ o + 3 by omega) _ _
  refine z_pR hX liX8_ok (ini := true) (fun _ => liX8_i) 18 9 2 (fun k h => h) rfl hk_5 (by decide +kernel) ?_
  obtain ⟨s6, e6⟩ : ∃ s, s = pR s5 o 2 (some (o + 3)) := ⟨_, rfl⟩
  show zS X (pR s5 o 2 (some (o + 3))) _ _ _ _ _
  rw [← e6]
  have hk_6 : s6.1 o = 10 := by
    rw [e6]
    exact hk_5
  exact z_vret hX (by decide +kernel) rfl (by omega) (by omega) (by
  refine ⟨?_, rfl⟩
  rw [e6, e5, e4, e3, e2, e1]
  rfl)
def x1P300 (σ : Sg) : Sg := pR (x8P (zNewO (pR (x8P (zNewO (pR (x8P (zNewO (pR (zNewA (pR (zNewA (pR (zNewA (pR (zNewA (σ) 301 5 6) 300 0 (some 301)) 302 2 6) 300 1 (some 302)) 303 2 6) 300 2 (some 303)) 304 2 24) 300 3 (some 304)) 310 9) 310 5) 300 8 (some 310)) 314 9) 314 10) 300 9 (some 314)) 318 9) 318 8) 300 10 (some 318)
theorem c_X1_init300 (E : zE) (σ : Sg) (hk : σ.1 300 = 3) (f : frs [301, 302, 303, 304, 310, 311, 312, 313, 314, 315, 316, 317, 318, 319, 320, 321] σ) : zCt E mX1_init 2 16 123 σ [.ref 300] (fun v σ' => σ' = x1P300 σ ∧ v = none) := by
  refine z_intro (by decide) (Nat.le_of_ble_eq_true rfl) (fun X hX => ?_)
  refine bk hX lkX1_ok (pc' := 1) [.aload_n 0] (by decide +kernel) (And.intro trivial ?_)
  refine z_obj hX ko_X1_3 (by decide +kernel) (by decide) (Nat.le_of_ble_eq_true rfl) (by omega) (by omega) ?_
  refine bk hX lkX1_ok (pc' := 7) [.aload_n 0, .bipush 6] (by decide +kernel) (And.intro trivial ?_)
  refine z_newq hX kl_X1_9 301 (f _ List.mem_cons_self) (len := 6) (by decide) (by decide) (by decide) (by decide +kernel) (by omega) (by omega) ?_
  obtain ⟨s1, e1⟩ : ∃ s, s = zNewA σ 301 5 6 := ⟨_, rfl⟩
  show zS X (zNewA σ 301 5 6) _ _ _ _ _
  rw [← e1]
  have f1 : frs [302, 303, 304, 310, 311, 312, 313, 314, 315, 316, 317, 318, 319, 320, 321] s1 := by
    rw [e1]
    exact frs_A f (by decide) _ _
  have hk1 : s1.1 300 = 3 := by
    rw [e1]
    exact kA hk (by decide) _ _
  refine z_pR hX liX1_ok (ini := true) (fun _ => liX1_i) 11 2 0 (fun k h => h) rfl hk1 (by decide +kernel) ?_
  obtain ⟨s2, e2⟩ : ∃ s, s = pR s1 300 0 (some 301) := ⟨_, rfl⟩
  show zS X (pR s1 300 0 (some 301)) _ _ _ _ _
  rw [← e2]
  have f2 : frs [302, 303, 304, 310, 311, 312, 313, 314, 315, 316, 317, 318, 319, 320, 321] s2 := by
    rw [e2]
    exact frs_R f1 _ _ _
  have hk2 : s2.1 300 = 3 := by
    rw [e2]
    exact hk1
  refine bk hX lkX1_ok (pc' := 16) [.aload_n 0, .bipush 6] (by decide +kernel) (And.intro trivial ?_)
  refine z_newa hX (atype := .int) (t := 2) (by decide) rfl ka_int 302 (f2 _ List.mem_cons_self) (len := 6) (by decide) (by decide) (by decide) (by decide +kernel) (by omega) (by omega) ?_
  obtain ⟨s3, e3⟩ : ∃ s, s = zNewA s2 302 2 6 := ⟨_, rfl⟩
  show zS X (zNewA s2 302 2 6) _ _ _ _ _
  rw [← e3]
  have f3 : frs [303, 304, 310, 311, 312, 313, 314, 315, 316, 317, 318, 319, 320, 321] s3 := by
    rw [e3]
    exact frs_A f2 (by decide) _ _
  have hk3 : s3.1 300 = 3 := by
    rw [e3]
    exact kA hk2 (by decide) _ _
  refine z_pR hX liX1_ok (ini := true) (fun _ => liX1_i) 17 2 1 (fun k h => h) rfl hk3 (by decide +kernel) ?_
  obtain ⟨s4, e4⟩ : ∃ s, s = pR s3 300 1 (some 302) := ⟨_, rfl⟩
  show zS X (pR s3 300 1 (some 302)) _ _ _ _ _
  rw [← e4]
  have f4 : frs [303, 304, 310, 311, 312, 313, 314, 315, 316, 317, 318, 319, 320, 321] s4 := by
    rw [e4]
    exact frs_R f3 _ _ _
  have hk4 : s4.1 300 = 3 := by
    rw [e4]
    exact hk3
  refine bk hX lkX1_ok (pc' := 24) [.aload_n 0, .bipush 6] (by decide +kernel) (And.intro trivial ?_)
  refine z_newa hX (atype := .int) (t := 2) (by decide) rfl ka_int 303 (f4 _ List.mem_cons_self) (len := 6) (by decide) (by decide) (by decide) (by decide +kernel) (by omega) (by omega) ?_
  obtain ⟨s5, e5⟩ : ∃ s, s = zNewA s4 303 2 6 := ⟨_, rfl⟩
  show zS X (zNewA s4 303 2 6) _ _ _ _ _
  rw [← e5]
  have f5 : frs [304, 310, 311, 312, 313, 314, 315, 316, 317, 318, 319, 320, 321] s5 := by
    rw [e5]
    exact frs_A f4 (by decide) _ _
  have hk5 : s5.1 300 = 3 := by
    rw [e5]
    exact kA hk4 (by decide) _ _
  refine z_pR hX liX1_ok (ini := true) (fun _ => liX1_i) 21 2 2 (fun k h => h) rfl hk5 (by decide +kernel) ?_
  obtain ⟨s6, e6⟩ : ∃ s, s = pR s5 300 2 (some 303) := ⟨_, rfl⟩
  show zS X (pR s5 300 2 (some 303)) _ _ _ _ _
  rw [← e6]
  have f6 : frs [304, 310, 311, 312, 313, 314, 315, 316, 317, 318, 319, 320, 321] s6 := by
    rw [e6]
    exact frs_R f5 _ _ _
  have hk6 : s6.1 300 = 3 := by
    rw [e6]
    exact hk5
  refine bk hX lkX1_ok (pc' := 32) [.aload_n 0, .bipush 24] (by decide +kernel) (And.intro trivial ?_)
  refine z_newa hX (atype := .int) (t := 2) (by decide) rfl ka_int 304 (f6 _ List.mem_cons_self) (len := 24) (by decide) (by decide) (by decide) (by decide +kernel) (by omega) (by omega) ?_
  obtain ⟨s7, e7⟩ : ∃ s, s = zNewA s6 304 2 24 := ⟨_, rfl⟩
  show zS X (zNewA s6 304 2 24) _ _ _ _ _
  rw [← e7]
  have f7 : frs [310, 311, 312, 313, 314, 315, 316, 317, 318, 319, 320, 321] s7 := by
    rw [e7]
    exact frs_A f6 (by decide) _ _
  have hk7 : s7.1 300 = 3 := by
    rw [e7]
    exact kA hk6 (by decide) _ _
  refine z_pR hX liX1_ok (ini := true) (fun _ => liX1_i) 24 2 3 (fun k h => h) rfl hk7 (by decide +kernel) ?_
  obtain ⟨s8, e8⟩ : ∃ s, s = pR s7 300 3 (some 304) := ⟨_, rfl⟩
  show zS X (pR s7 300 3 (some 304)) _ _ _ _ _
  rw [← e8]
  have f8 : frs [310, 311, 312, 313, 314, 315, 316, 317, 318, 319, 320, 321] s8 := by
    rw [e8]
    exact frs_R f7 _ _ _
  have hk8 : s8.1 300 = 3 := by
    rw [e8]
    exact hk7
  refine bk hX lkX1_ok (pc' := 38) [.aload_n 0] (by decide +kernel) (And.intro trivial ?_)
  refine z_new hX nw_X1_27 310 (f8 _ List.mem_cons_self) (by decide +kernel) (by omega) (by show _ + 4 ≤ _; omega) ?_
  show zS X _ (4 + 1) (42 + 4) _ _ _
  obtain ⟨s9, e9⟩ : ∃ s, s = zNewO s8 310 9 := ⟨_, rfl⟩
  show zS X (zNewO s8 310 9) _ _ _ _ _
  rw [← e9]
  have f9 : frs [311, 312, 313, 314, 315, 316, 317, 318, 319, 320, 321] s9 := by
    rw [e9]
    exact frs_O f8 (by decide) _
  have hk9 : s9.1 300 = 3 := by
    rw [e9]
    exact kO hk8 (by decide) _
  have ho9 : s9.1 310 = 10 := by
    rw [e9]
    exact kO1 _ _ _
  refine bk hX lkX1_ok (pc' := 43) [.dup, .iconst 5] (by decide +kernel) (And.intro trivial ?_)
  refine z_callI hX kw_X1_29 (c_X8_init E s9 (o := 310) (n := 5) ho9 (f9 _ (by decide)) (f9 _ (by decide)) (f9 _ (by decide)) (by decide)) rfl rfl (by decide +kernel) (by decide) (by decide) (by omega) (by omega) (Nat.le_of_ble_eq_true rfl) ?_
  rintro _ _ ⟨rfl, rfl⟩
  obtain ⟨s10, e10⟩ : ∃ s, s = x8P s9 310 5 := ⟨_, rfl⟩
  show zS X (x8P s9 310 5) _ _ _ _ _
  rw [← e10]
  have f10 : frs [314, 315, 316, 317, 318, 319, 320, 321] s10 := by
    rw [e10]
    exact frs_8 f9 (by decide) (by decide) (by decide) _
  have hk10 : s10.1 300 = 3 := by
    rw [e10]
    exact (x8_k (by decide) (by decide) (by decide)).trans hk9
  refine z_pR hX liX1_ok (ini := true) (fun _ => liX1_i) 32 2 8 (fun k h => h) rfl hk10 (by decide +kernel) ?_
  obtain ⟨s11, e11⟩ : ∃ s, s = pR s10 300 8 (some 310) := ⟨_, rfl⟩
  show zS X (pR s10 300 8 (some 310)) _ _ _ _ _
  rw [← e11]
  have f11 : frs [314, 315, 316, 317, 318, 319, 320, 321] s11 := by
    rw [e11]
    exact frs_R f10 _ _ _
  have hk11 : s11.1 300 = 3 := by
    rw [e11]
    exact hk10
  refine bk hX lkX1_ok (pc' := 50) [.aload_n 0] (by decide +kernel) (And.intro trivial ?_)
  refine z_new hX nw_X1_27 314 (f11 _ List.mem_cons_self) (by decide +kernel) (by omega) (by show _ + 4 ≤ _; omega) ?_
  show zS X _ (8 + 1) (61 + 4) _ _ _
  obtain ⟨s12, e12⟩ : ∃ s, s = zNewO s11 314 9 := ⟨_, rfl⟩
  show zS X (zNewO s11 314 9) _ _ _ _ _
  rw [← e12]
  have f12 : frs [315, 316, 317, 318, 319, 320, 321] s12 := by
    rw [e12]
    exact frs_O f11 (by decide) _
  have hk12 : s12.1 300 = 3 := by
    rw [e12]
    exact kO hk11 (by decide) _
  have ho12 : s12.1 314 = 10 := by
    rw [e12]
    exact kO1 _ _ _
  refine bk hX lkX1_ok (pc' := 56) [.dup, .bipush 10] (by decide +kernel) (And.intro trivial ?_)
  refine z_callI hX kw_X1_29 (c_X8_init E s12 (o := 314) (n := 10) ho12 (f12 _ (by decide)) (f12 _ (by decide)) (f12 _ (by decide)) (by decide)) rfl rfl (by decide +kernel) (by decide) (by decide) (by omega) (by omega) (Nat.le_of_ble_eq_true rfl) ?_
  rintro _ _ ⟨rfl, rfl⟩
  obtain ⟨s13, e13⟩ : ∃ s, s = x8P s12 314 10 := ⟨_, rfl⟩
  show zS X (x8P s12 314 10) _ _ _ _ _
  rw [← e13]
  have f13 : frs [318, 319, 320, 321] s13 := by
    rw [e13]
    exact frs_8 f12 (by decide) (by decide) (by decide) _
  have hk13 : s13.1 300 = 3 := by
    rw [e13]
    exact (x8_k (by decide) (by decide) (by decide)).trans hk12
  refine z_pR hX liX1_ok (ini := true) (fun _ => liX1_i) 36 2 9 (fun k h => h) rfl hk13 (by decide +kernel) ?_
  obtain ⟨s14, e14⟩ : ∃ s, s = pR s13 300 9 (some 314) := ⟨_, rfl⟩
  show zS X (pR s13 300 9 (some 314)) _ _ _ _ _
  rw [← e14]
  have f14 : frs [318, 319, 320, 321] s14 := by
    rw [e14]
    exact frs_R f13 _ _ _
  have hk14 : s14.1 300 = 3 := by
    rw [e14]
    exact hk13
  refine bk hX lkX1_ok (pc' := 63) [.aload_n 0] (by decide +kernel) (And.intro trivial ?_)
  refine z_new hX nw_X1_27 318 (f14 _ List.mem_cons_self) (by decide +kernel) (by omega) (by show _ + 4 ≤ _; omega) ?_
  show zS X _ (12 + 1) (95 + 4) _ _ _
  obtain ⟨s15, e15⟩ : ∃ s, s = zNewO s14 318 9 := ⟨_, rfl⟩
  show zS X (zNewO s14 318 9) _ _ _ _ _
  rw [← e15]
  have f15 : frs [319, 320, 321] s15 := by
    rw [e15]
    exact frs_O f14 (by decide) _
  have hk15 : s15.1 300 = 3 := by
    rw [e15]
    exact kO hk14 (by decide) _
  have ho15 : s15.1 318 = 10 := by
    rw [e15]
    exact kO1 _ _ _
  refine bk hX lkX1_ok (pc' := 69) [.dup, .bipush 8] (by decide +kernel) (And.intro trivial ?_)
  refine z_callI hX kw_X1_29 (c_X8_init E s15 (o := 318) (n := 8) ho15 (f15 _ (by decide)) (f15 _ (by decide)) (f15 _ (by decide)) (by decide)) rfl rfl (by decide +kernel) (by decide) (by decide) (by omega) (by omega) (Nat.le_of_ble_eq_true rfl) ?_
  rintro _ _ ⟨rfl, rfl⟩
  obtain ⟨s16, e16⟩ : ∃ s, s = x8P s15 318 8 := ⟨_, rfl⟩
  show zS X (x8P s15 318 8) _ _ _ _ _
  rw [← e16]
  have f16 : frs [] s16 := by
    rw [e16]
    exact frs_8 f15 (by decide) (by decide) (by decide) _
  have hk16 : s16.1 300 = 3 := by
    rw [e16]
    exact (x8_k (by decide) (by decide) (by decide)).trans hk15
  refine z_pR hX liX1_ok (ini := true) (fun _ => liX1_i) 39 2 10 (fun k h => h) rfl hk16 (by decide +kernel) ?_
  obtain ⟨s17, e17⟩ : ∃ s, s = pR s16 300 10 (some 318) := ⟨_, rfl⟩
  show zS X (pR s16 300 10 (some 318)) _ _ _ _ _
  rw [← e17]
  have f17 : frs [] s17 := by
    rw [e17]
    exact frs_R f16 _ _ _
  have hk17 : s17.1 300 = 3 := by
    rw [e17]
    exact hk16
  exact z_vret hX (by decide +kernel) rfl (by omega) (by omega) (by
  refine ⟨?_, rfl⟩
  rw [e17, e16, e15, e14, e13, e12, e11, e10, e9, e8, e7, e6, e5, e4, e3, e2, e1]
  rfl)
theorem x1_k300 {σ : Sg} {p : Nat} (h : p ∉ [301, 302, 303, 304, 310, 311, 312, 313, 314, 315, 316, 317, 318, 319, 320, 321]) : (x1P300 σ).1 p = σ.1 p := by
  have hq : ∀ q ∈ [301, 302, 303, 304, 310, 311, 312, 313, 314, 315, 316, 317, 318, 319, 320, 321], p ≠ q := fun q hq e => h (e ▸ hq)
  unfold x1P300
  show upK (upK (upK (upK (upK (upK (upK (upK (upK (upK (upK (upK (upK (upK (upK (upK σ.1 _ _) _ _) _ _) _ _) _ _) _ _) _ _) _ _) _ _) _ _) _ _) _ _) _ _) _ _) _ _) _ _ p = _
  rw [upK_ne _ _ (hq _ (by decide)), upK_ne _ _ (hq _ (by decide)), upK_ne _ _ (hq _ (by decide)), upK_ne _ _ (hq _ (by decide)), upK_ne _ _ (hq _ (by decide)), upK_ne _ _ (hq _ (by decide)), upK_ne _ _ (hq _ (by decide)), upK_ne _ _ (hq _ (by decide)), upK_ne _ _ (hq _ (by decide)), upK_ne _ _ (hq _ (by decide)), upK_ne _ _ (hq _ (by decide)), upK_ne _ _ (hq _ (by decide)), upK_ne _ _ (hq _ (by decide)), upK_ne _ _ (hq _ (by decide)), upK_ne _ _ (hq _ (by decide)), upK_ne _ _ (hq _ (by decide))]
def x1P340 (σ : Sg) : Sg := pR (x8P (zNewO (pR (x8P (zNewO (pR (x8P (zNewO (pR (zNewA (pR (zNewA (pR (zNewA (pR (zNewA (σ) 341 5 6) 340 0 (some 341)) 342 2 6) 340 1 (some 342)) 343 2 6) 340 2 (some 343)) 344 2 24) 340 3 (some 344)) 350 9) 350 5) 340 8 (some 350)) 354 9) 354 10) 340 9 (some 354)) 358 9) 358 8) 340 10 (some 358)
theorem c_X1_init340 (E : zE) (σ : Sg) (hk : σ.1 340 = 3) (f : frs [341, 342, 343, 344, 350, 351, 352, 353, 354, 355, 356, 357, 358, 359, 360, 361] σ) : zCt E mX1_init 2 16 123 σ [.ref 340] (fun v σ' => σ' = x1P340 σ ∧ v = none) := by
  refine z_intro (by decide) (Nat.le_of_ble_eq_true rfl) (fun X hX => ?_)
  refine bk hX lkX1_ok (pc' := 1) [.aload_n 0] (by decide +kernel) (And.intro trivial ?_)
  refine z_obj hX ko_X1_3 (by decide +kernel) (by decide) (Nat.le_of_ble_eq_true rfl) (by omega) (by omega) ?_
  refine bk hX lkX1_ok (pc' := 7) [.aload_n 0, .bipush 6] (by decide +kernel) (And.intro trivial ?_)
  refine z_newq hX kl_X1_9 341 (f _ List.mem_cons_self) (len := 6) (by decide) (by decide) (by decide) (by decide +kernel) (by omega) (by omega) ?_
  obtain ⟨s1, e1⟩ : ∃ s, s = zNewA σ 341 5 6 := ⟨_, rfl⟩
  show zS X (zNewA σ 341 5 6) _ _ _ _ _
  rw [← e1]
  have f1 : frs [342, 343, 344, 350, 351, 352, 353, 354, 355, 356, 357, 358, 359, 360, 361] s1 := by
    rw [e1]
    exact frs_A f (by decide) _ _
  have hk1 : s1.1 340 = 3 := by
    rw [e1]
    exact kA hk (by decide) _ _
  refine z_pR hX liX1_ok (ini := true) (fun _ => liX1_i) 11 2 0 (fun k h => h) rfl hk1 (by decide +kernel) ?_
  obtain ⟨s2, e2⟩ : ∃ s, s = pR s1 340 0 (some 341) := ⟨_, rfl⟩
  show zS X (pR s1 340 0 (some 341)) _ _ _ _ _
  rw [← e2]
  have f2 : frs [342, 343, 344, 350, 351, 352, 353, 354, 355, 356, 357, 358, 359, 360, 361] s2 := by
    rw [e2]
    exact frs_R f1 _ _ _
  have hk2 : s2.1 340 = 3 := by
    rw [e2]
    exact hk1
  refine bk hX lkX1_ok (pc' := 16) [.aload_n 0, .bipush 6] (by decide +kernel) (And.intro trivial ?_)
  refine z_newa hX (atype := .int) (t := 2) (by decide) rfl ka_int 342 (f2 _ List.mem_cons_self) (len := 6) (by decide) (by decide) (by decide) (by decide +kernel) (by omega) (by omega) ?_
  obtain ⟨s3, e3⟩ : ∃ s, s = zNewA s2 342 2 6 := ⟨_, rfl⟩
  show zS X (zNewA s2 342 2 6) _ _ _ _ _
  rw [← e3]
  have f3 : frs [343, 344, 350, 351, 352, 353, 354, 355, 356, 357, 358, 359, 360, 361] s3 := by
    rw [e3]
    exact frs_A f2 (by decide) _ _
  have hk3 : s3.1 340 = 3 := by
    rw [e3]
    exact kA hk2 (by decide) _ _
  refine z_pR hX liX1_ok (ini := true) (fun _ => liX1_i) 17 2 1 (fun k h => h) rfl hk3 (by decide +kernel) ?_
  obtain ⟨s4, e4⟩ : ∃ s, s = pR s3 340 1 (some 342) := ⟨_, rfl⟩
  show zS X (pR s3 340 1 (some 342)) _ _ _ _ _
  rw [← e4]
  have f4 : frs [343, 344, 350, 351, 352, 353, 354, 355, 356, 357, 358, 359, 360, 361] s4 := by
    rw [e4]
    exact frs_R f3 _ _ _
  have hk4 : s4.1 340 = 3 := by
    rw [e4]
    exact hk3
  refine bk hX lkX1_ok (pc' := 24) [.aload_n 0, .bipush 6] (by decide +kernel) (And.intro trivial ?_)
  refine z_newa hX (atype := .int) (t := 2) (by decide) rfl ka_int 343 (f4 _ List.mem_cons_self) (len := 6) (by decide) (by decide) (by decide) (by decide +kernel) (by omega) (by omega) ?_
  obtain ⟨s5, e5⟩ : ∃ s, s = zNewA s4 343 2 6 := ⟨_, rfl⟩
  show zS X (zNewA s4 343 2 6) _ _ _ _ _
  rw [← e5]
  have f5 : frs [344, 350, 351, 352, 353, 354, 355, 356, 357, 358, 359, 360, 361] s5 := by
    rw [e5]
    exact frs_A f4 (by decide) _ _
  have hk5 : s5.1 340 = 3 := by
    rw [e5]
    exact kA hk4 (by decide) _ _
  refine z_pR hX liX1_ok (ini := true) (fun _ => liX1_i) 21 2 2 (fun k h => h) rfl hk5 (by decide +kernel) ?_
  obtain ⟨s6, e6⟩ : ∃ s, s = pR s5 340 2 (some 343) := ⟨_, rfl⟩
  show zS X (pR s5 340 2 (some 343)) _ _ _ _ _
  rw [← e6]
  have f6 : frs [344, 350, 351, 352, 353, 354, 355, 356, 357, 358, 359, 360, 361] s6 := by
    rw [e6]
    exact frs_R f5 _ _ _
  have hk6 : s6.1 340 = 3 := by
    rw [e6]
    exact hk5
  refine bk hX lkX1_ok (pc' := 32) [.aload_n 0, .bipush 24] (by decide +kernel) (And.intro trivial ?_)
  refine z_newa hX (atype := .int) (t := 2) (by decide) rfl ka_int 344 (f6 _ List.mem_cons_self) (len := 24) (by decide) (by decide) (by decide) (by decide +kernel) (by omega) (by omega) ?_
  obtain ⟨s7, e7⟩ : ∃ s, s = zNewA s6 344 2 24 := ⟨_, rfl⟩
  show zS X (zNewA s6 344 2 24) _ _ _ _ _
  rw [← e7]
  have f7 : frs [350, 351, 352, 353, 354, 355, 356, 357, 358, 359, 360, 361] s7 := by
    rw [e7]
    exact frs_A f6 (by decide) _ _
  have hk7 : s7.1 340 = 3 := by
    rw [e7]
    exact kA hk6 (by decide) _ _
  refine z_pR hX liX1_ok (ini := true) (fun _ => liX1_i) 24 2 3 (fun k h => h) rfl hk7 (by decide +kernel) ?_
  obtain ⟨s8, e8⟩ : ∃ s, s = pR s7 340 3 (some 344) := ⟨_, rfl⟩
  show zS X (pR s7 340 3 (some 344)) _ _ _ _ _
  rw [← e8]
  have f8 : frs [350, 351, 352, 353, 354, 355, 356, 357, 358, 359, 360, 361] s8 := by
    rw [e8]
    exact frs_R f7 _ _ _
  have hk8 : s8.1 340 = 3 := by
    rw [e8]
    exact hk7
  refine bk hX lkX1_ok (pc' := 38) [.aload_n 0] (by decide +kernel) (And.intro trivial ?_)
  refine z_new hX nw_X1_27 350 (f8 _ List.mem_cons_self) (by decide +kernel) (by omega) (by show _ + 4 ≤ _; omega) ?_
  show zS X _ (4 + 1) (42 + 4) _ _ _
  obtain ⟨s9, e9⟩ : ∃ s, s = zNewO s8 350 9 := ⟨_, rfl⟩
  show zS X (zNewO s8 350 9) _ _ _ _ _
  rw [← e9]
  have f9 : frs [351, 352, 353, 354, 355, 356, 357, 358, 359, 360, 361] s9 := by
    rw [e9]
    exact frs_O f8 (by decide) _
  have hk9 : s9.1 340 = 3 := by
    rw [e9]
    exact kO hk8 (by decide) _
  have ho9 : s9.1 350 = 10 := by
    rw [e9]
    exact kO1 _ _ _
  refine bk hX lkX1_ok (pc' := 43) [.dup, .iconst 5] (by decide +kernel) (And.intro trivial ?_)
  refine z_callI hX kw_X1_29 (c_X8_init E s9 (o := 350) (n := 5) ho9 (f9 _ (by decide)) (f9 _ (by decide)) (f9 _ (by decide)) (by decide)) rfl rfl (by decide +kernel) (by decide) (by decide) (by omega) (by omega) (Nat.le_of_ble_eq_true rfl) ?_
  rintro _ _ ⟨rfl, rfl⟩
  obtain ⟨s10, e10⟩ : ∃ s, s = x8P s9 350 5 := ⟨_, rfl⟩
  show zS X (x8P s9 350 5) _ _ _ _ _
  rw [← e10]
  have f10 : frs [354, 355, 356, 357, 358, 359, 360, 361] s10 := by
    rw [e10]
    exact frs_8 f9 (by decide) (by decide) (by decide) _
  have hk10 : s10.1 340 = 3 := by
    rw [e10]
    exact (x8_k (by decide) (by decide) (by decide)).trans hk9
  refine z_pR hX liX1_ok (ini := true) (fun _ => liX1_i) 32 2 8 (fun k h => h) rfl hk10 (by decide +kernel) ?_
  obtain ⟨s11, e11⟩ : ∃ s, s = pR s10 340 8 (some 350) := ⟨_, rfl⟩
  show zS X (pR s10 340 8 (some 350)) _ _ _ _ _
  rw [← e11]
  have f11 : frs [354, 355, 356, 357, 358, 359, 360, 361] s11 := by
    rw [e11]
    exact frs_R f10 _ _ _
  have hk11 : s11.1 340 = 3 := by
    rw [e11]
    exact hk10
  refine bk hX lkX1_ok (pc' := 50) [.aload_n 0] (by decide +kernel) (And.intro trivial ?_)
  refine z_new hX nw_X1_27 354 (f11 _ List.mem_cons_self) (by decide +kernel) (by omega) (by show _ + 4 ≤ _; omega) ?_
  show zS X _ (8 + 1) (61 + 4) _ _ _
  obtain ⟨s12, e12⟩ : ∃ s, s = zNewO s11 354 9 := ⟨_, rfl⟩
  show zS X (zNewO s11 354 9) _ _ _ _ _
  rw [← e12]
  have f12 : frs [355, 356, 357, 358, 359, 360, 361] s12 := by
    rw [e12]
    exact frs_O f11 (by decide) _
  have hk12 : s12.1 340 = 3 := by
    rw [e12]
    exact kO hk11 (by decide) _
  have ho12 : s12.1 354 = 10 := by
    rw [e12]
    exact kO1 _ _ _
  refine bk hX lkX1_ok (pc' := 56) [.dup, .bipush 10] (by decide +kernel) (And.intro trivial ?_)
  refine z_callI hX kw_X1_29 (c_X8_init E s12 (o := 354) (n := 10) ho12 (f12 _ (by decide)) (f12 _ (by decide)) (f12 _ (by decide)) (by decide)) rfl rfl (by decide +kernel) (by decide) (by decide) (by omega) (by omega) (Nat.le_of_ble_eq_true rfl) ?_
  rintro _ _ ⟨rfl, rfl⟩
  obtain ⟨s13, e13⟩ : ∃ s, s = x8P s12 354 10 := ⟨_, rfl⟩
  show zS X (x8P s12 354 10) _ _ _ _ _
  rw [← e13]
  have f13 : frs [358, 359, 360, 361] s13 := by
    rw [e13]
    exact frs_8 f12 (by decide) (by decide) (by decide) _
  have hk13 : s13.1 340 = 3 := by
    rw [e13]
    exact (x8_k (by decide) (by decide) (by decide)).trans hk12
  refine z_pR hX liX1_ok (ini := true) (fun _ => liX1_i) 36 2 9 (fun k h => h) rfl hk13 (by decide +kernel) ?_
  obtain ⟨s14, e14⟩ : ∃ s, s = pR s13 340 9 (some 354) := ⟨_, rfl⟩
  show zS X (pR s13 340 9 (some 354)) _ _ _ _ _
  rw [← e14]
  have f14 : frs [358, 359, 360, 361] s14 := by
    rw [e14]
    exact frs_R f13 _ _ _
  have hk14 : s14.1 340 = 3 := by
    rw [e14]
    exact hk13
  refine bk hX lkX1_ok (pc' := 63) [.aload_n 0] (by decide +kernel) (And.intro trivial ?_)
  refine z_new hX nw_X1_27 358 (f14 _ List.mem_cons_self) (by decide +kernel) (by omega) (by show _ + 4 ≤ _; omega) ?_
  show zS X _ (12 + 1) (95 + 4) _ _ _
  obtain ⟨s15, e15⟩ : ∃ s, s = zNewO s14 358 9 := ⟨_, rfl⟩
  show zS X (zNewO s14 358 9) _ _ _ _ _
  rw [← e15]
  have f15 : frs [359, 360, 361] s15 := by
    rw [e15]
    exact frs_O f14 (by decide) _
  have hk15 : s15.1 340 = 3 := by
    rw [e15]
    exact kO hk14 (by decide) _
  have ho15 : s15.1 358 = 10 := by
    rw [e15]
    exact kO1 _ _ _
  refine bk hX lkX1_ok (pc' := 69) [.dup, .bipush 8] (by decide +kernel) (And.intro trivial ?_)
  refine z_callI hX kw_X1_29 (c_X8_init E s15 (o := 358) (n := 8) ho15 (f15 _ (by decide)) (f15 _ (by decide)) (f15 _ (by decide)) (by decide)) rfl rfl (by decide +kernel) (by decide) (by decide) (by omega) (by omega) (Nat.le_of_ble_eq_true rfl) ?_
  rintro _ _ ⟨rfl, rfl⟩
  obtain ⟨s16, e16⟩ : ∃ s, s = x8P s15 358 8 := ⟨_, rfl⟩
  show zS X (x8P s15 358 8) _ _ _ _ _
  rw [← e16]
  have f16 : frs [] s16 := by
    rw [e16]
    exact frs_8 f15 (by decide) (by decide) (by decide) _
  have hk16 : s16.1 340 = 3 := by
    rw [e16]
    exact (x8_k (by decide) (by decide) (by decide)).trans hk15
  refine z_pR hX liX1_ok (ini := true) (fun _ => liX1_i) 39 2 10 (fun k h => h) rfl hk16 (by decide +kernel) ?_
  obtain ⟨s17, e17⟩ : ∃ s, s = pR s16 340 10 (some 358) := ⟨_, rfl⟩
  show zS X (pR s16 340 10 (some 358)) _ _ _ _ _
  rw [← e17]
  have f17 : frs [] s17 := by
    rw [e17]
    exact frs_R f16 _ _ _
  have hk17 : s17.1 340 = 3 := by
    rw [e17]
    exact hk16
  exact z_vret hX (by decide +kernel) rfl (by omega) (by omega) (by
  refine ⟨?_, rfl⟩
  rw [e17, e16, e15, e14, e13, e12, e11, e10, e9, e8, e7, e6, e5, e4, e3, e2, e1]
  rfl)
theorem x1_k340 {σ : Sg} {p : Nat} (h : p ∉ [341, 342, 343, 344, 350, 351, 352, 353, 354, 355, 356, 357, 358, 359, 360, 361]) : (x1P340 σ).1 p = σ.1 p := by
  have hq : ∀ q ∈ [341, 342, 343, 344, 350, 351, 352, 353, 354, 355, 356, 357, 358, 359, 360, 361], p ≠ q := fun q hq e => h (e ▸ hq)
  unfold x1P340
  show upK (upK (upK (upK (upK (upK (upK (upK (upK (upK (upK (upK (upK (upK (upK (upK σ.1 _ _) _ _) _ _) _ _) _ _) _ _) _ _) _ _) _ _) _ _) _ _) _ _) _ _) _ _) _ _) _ _ p = _
  rw [upK_ne _ _ (hq _ (by decide)), upK_ne _ _ (hq _ (by decide)), upK_ne _ _ (hq _ (by decide)), upK_ne _ _ (hq _ (by decide)), upK_ne _ _ (hq _ (by decide)), upK_ne _ _ (hq _ (by decide)), upK_ne _ _ (hq _ (by decide)), upK_ne _ _ (hq _ (by decide)), upK_ne _ _ (hq _ (by decide)), upK_ne _ _ (hq _ (by decide)), upK_ne _ _ (hq _ (by decide)), upK_ne _ _ (hq _ (by decide)), upK_ne _ _ (hq _ (by decide)), upK_ne _ _ (hq _ (by decide)), upK_ne _ _ (hq _ (by decide)), upK_ne _ _ (hq _ (by decide))]
def x1P380 (σ : Sg) : Sg := pR (x8P (zNewO (pR (x8P (zNewO (pR (x8P (zNewO (pR (zNewA (pR (zNewA (pR (zNewA (pR (zNewA (σ) 381 5 6) 380 0 (some 381)) 382 2 6) 380 1 (some 382)) 383 2 6) 380 2 (some 383)) 384 2 24) 380 3 (some 384)) 390 9) 390 5) 380 8 (some 390)) 394 9) 394 10) 380 9 (some 394)) 398 9) 398 8) 380 10 (some 398)
theorem c_X1_init380 (E : zE) (σ : Sg) (hk : σ.1 380 = 3) (f : frs [381, 382, 383, 384, 390, 391, 392, 393, 394, 395, 396, 397, 398, 399, 400, 401] σ) : zCt E mX1_init 2 16 123 σ [.ref 380] (fun v σ' => σ' = x1P380 σ ∧ v = none) := by
  refine z_intro (by decide) (Nat.le_of_ble_eq_true rfl) (fun X hX => ?_)
  refine bk hX lkX1_ok (pc' := 1) [.aload_n 0] (by decide +kernel) (And.intro trivial ?_)
  refine z_obj hX ko_X1_3 (by decide +kernel) (by decide) (Nat.le_of_ble_eq_true rfl) (by omega) (by omega) ?_
  refine bk hX lkX1_ok (pc' := 7) [.aload_n 0, .bipush 6] (by decide +kernel) (And.intro trivial ?_)
  refine z_newq hX kl_X1_9 381 (f _ List.mem_cons_self) (len := 6) (by decide) (by decide) (by decide) (by decide +kernel) (by omega) (by omega) ?_
  obtain ⟨s1, e1⟩ : ∃ s, s = zNewA σ 381 5 6 := ⟨_, rfl⟩
  show zS X (zNewA σ 381 5 6) _ _ _ _ _
  rw [← e1]
  have f1 : frs [382, 383, 384, 390, 391, 392, 393, 394, 395, 396, 397, 398, 399, 400, 401] s1 := by
    rw [e1]
    exact frs_A f (by decide) _ _
  have hk1 : s1.1 380 = 3 := by
    rw [e1]
    exact kA hk (by decide) _ _
  refine z_pR hX liX1_ok (ini := true) (fun _ => liX1_i) 11 2 0 (fun k h => h) rfl hk1 (by decide +kernel) ?_
  obtain ⟨s2, e2⟩ : ∃ s, s = pR s1 380 0 (some 381) := ⟨_, rfl⟩
  show zS X (pR s1 380 0 (some 381)) _ _ _ _ _
  rw [← e2]
  have f2 : frs [382, 383, 384, 390, 391, 392, 393, 394, 395, 396, 397, 398, 399, 400, 401] s2 := by
    rw [e2]
    exact frs_R f1 _ _ _
  have hk2 : s2.1 380 = 3 := by
    rw [e2]
    exact hk1
  refine bk hX lkX1_ok (pc' := 16) [.aload_n 0, .bipush 6] (by decide +kernel) (And.intro trivial ?_)
  refine z_newa hX (atype := .int) (t := 2) (by decide) rfl ka_int 382 (f2 _ List.mem_cons_self) (len := 6) (by decide) (by decide) (by decide) (by decide +kernel) (by omega) (by omega) ?_
  obtain ⟨s3, e3⟩ : ∃ s, s = zNewA s2 382 2 6 := ⟨_, rfl⟩
  show zS X (zNewA s2 382 2 6) _ _ _ _ _
  rw [← e3]
  have f3 : frs [383, 384, 390, 391, 392, 393, 394, 395, 396, 397, 398, 399, 400, 401] s3 := by
    rw [e3]
    exact frs_A f2 (by decide) _ _
  have hk3 : s3.1 380 = 3 := by
    rw [e3]
    exact kA hk2 (by decide) _ _
  refine z_pR hX liX1_ok (ini := true) (fun _ => liX1_i) 17 2 1 (fun k h => h) rfl hk3 (by decide +kernel) ?_
  obtain ⟨s4, e4⟩ : ∃ s, s = pR s3 380 1 (some 382) := ⟨_, rfl⟩
  show zS X (pR s3 380 1 (some 382)) _ _ _ _ _
  rw [← e4]
  have f4 : frs [383, 384, 390, 391, 392, 393, 394, 395, 396, 397, 398, 399, 400, 401] s4 := by
    rw [e4]
    exact frs_R f3 _ _ _
  have hk4 : s4.1 380 = 3 := by
    rw [e4]
    exact hk3
  refine bk hX lkX1_ok (pc' := 24) [.aload_n 0, .bipush 6] (by decide +kernel) (And.intro trivial ?_)
  refine z_newa hX (atype := .int) (t := 2) (by decide) rfl ka_int 383 (f4 _ List.mem_cons_self) (len := 6) (by decide) (by decide) (by decide) (by decide +kernel) (by omega) (by omega) ?_
  obtain ⟨s5, e5⟩ : ∃ s, s = zNewA s4 383 2 6 := ⟨_, rfl⟩
  show zS X (zNewA s4 383 2 6) _ _ _ _ _
  rw [← e5]
  have f5 : frs [384, 390, 391, 392, 393, 394, 395, 396, 397, 398, 399, 400, 401] s5 := by
    rw [e5]
    exact frs_A f4 (by decide) _ _
  have hk5 : s5.1 380 = 3 := by
    rw [e5]
    exact kA hk4 (by decide) _ _
  refine z_pR hX liX1_ok (ini := true) (fun _ => liX1_i) 21 2 2 (fun k h => h) rfl hk5 (by decide +kernel) ?_
  obtain ⟨s6, e6⟩ : ∃ s, s = pR s5 380 2 (some 383) := ⟨_, rfl⟩
  show zS X (pR s5 380 2 (some 383)) _ _ _ _ _
  rw [← e6]
  have f6 : frs [384, 390, 391, 392, 393, 394, 395, 396, 397, 398, 399, 400, 401] s6 := by
    rw [e6]
    exact frs_R f5 _ _ _
  have hk6 : s6.1 380 = 3 := by
    rw [e6]
    exact hk5
  refine bk hX lkX1_ok (pc' := 32) [.aload_n 0, .bipush 24] (by decide +kernel) (And.intro trivial ?_)
  refine z_newa hX (atype := .int) (t := 2) (by decide) rfl ka_int 384 (f6 _ List.mem_cons_self) (len := 24) (by decide) (by decide) (by decide) (by decide +kernel) (by omega) (by omega) ?_
  obtain ⟨s7, e7⟩ : ∃ s, s = zNewA s6 384 2 24 := ⟨_, rfl⟩
  show zS X (zNewA s6 384 2 24) _ _ _ _ _
  rw [← e7]
  have f7 : frs [390, 391, 392, 393, 394, 395, 396, 397, 398, 399, 400, 401] s7 := by
    rw [e7]
    exact frs_A f6 (by decide) _ _
  have hk7 : s7.1 380 = 3 := by
    rw [e7]
    exact kA hk6 (by decide) _ _
  refine z_pR hX liX1_ok (ini := true) (fun _ => liX1_i) 24 2 3 (fun k h => h) rfl hk7 (by decide +kernel) ?_
  obtain ⟨s8, e8⟩ : ∃ s, s = pR s7 380 3 (some 384) := ⟨_, rfl⟩
  show zS X (pR s7 380 3 (some 384)) _ _ _ _ _
  rw [← e8]
  have f8 : frs [390, 391, 392, 393, 394, 395, 396, 397, 398, 399, 400, 401] s8 := by
    rw [e8]
    exact frs_R f7 _ _ _
  have hk8 : s8.1 380 = 3 := by
    rw [e8]
    exact hk7
  refine bk hX lkX1_ok (pc' := 38) [.aload_n 0] (by decide +kernel) (And.intro trivial ?_)
  refine z_new hX nw_X1_27 390 (f8 _ List.mem_cons_self) (by decide +kernel) (by omega) (by show _ + 4 ≤ _; omega) ?_
  show zS X _ (4 + 1) (42 + 4) _ _ _
  obtain ⟨s9, e9⟩ : ∃ s, s = zNewO s8 390 9 := ⟨_, rfl⟩
  show zS X (zNewO s8 390 9) _ _ _ _ _
  rw [← e9]
  have f9 : frs [391, 392, 393, 394, 395, 396, 397, 398, 399, 400, 401] s9 := by
    rw [e9]
    exact frs_O f8 (by decide) _
  have hk9 : s9.1 380 = 3 := by
    rw [e9]
    exact kO hk8 (by decide) _
  have ho9 : s9.1 390 = 10 := by
    rw [e9]
    exact kO1 _ _ _
  refine bk hX lkX1_ok (pc' := 43) [.dup, .iconst 5] (by decide +kernel) (And.intro trivial ?_)
  refine z_callI hX kw_X1_29 (c_X8_init E s9 (o := 390) (n := 5) ho9 (f9 _ (by decide)) (f9 _ (by decide)) (f9 _ (by decide)) (by decide)) rfl rfl (by decide +kernel) (by decide) (by decide) (by omega) (by omega) (Nat.le_of_ble_eq_true rfl) ?_
  rintro _ _ ⟨rfl, rfl⟩
  obtain ⟨s10, e10⟩ : ∃ s, s = x8P s9 390 5 := ⟨_, rfl⟩
  show zS X (x8P s9 390 5) _ _ _ _ _
  rw [← e10]
  have f10 : frs [394, 395, 396, 397, 398, 399, 400, 401] s10 := by
    rw [e10]
    exact frs_8 f9 (by decide) (by decide) (by decide) _
  have hk10 : s10.1 380 = 3 := by
    rw [e10]
    exact (x8_k (by decide) (by decide) (by decide)).trans hk9
  refine z_pR hX liX1_ok (ini := true) (fun _ => liX1_i) 32 2 8 (fun k h => h) rfl hk10 (by decide +kernel) ?_
  obtain ⟨s11, e11⟩ : ∃ s, s = pR s10 380 8 (some 390) := ⟨_, rfl⟩
  show zS X (pR s10 380 8 (some 390)) _ _ _ _ _
  rw [← e11]
  have f11 : frs [394, 395, 396, 397, 398, 399, 400, 401] s11 := by
    rw [e11]
    exact frs_R f10 _ _ _
  have hk11 : s11.1 380 = 3 := by
    rw [e11]
    exact hk10
  refine bk hX lkX1_ok (pc' := 50) [.aload_n 0] (by decide +kernel) (And.intro trivial ?_)
  refine z_new hX nw_X1_27 394 (f11 _ List.mem_cons_self) (by decide +kernel) (by omega) (by show _ + 4 ≤ _; omega) ?_
  show zS X _ (8 + 1) (61 + 4) _ _ _
  obtain ⟨s12, e12⟩ : ∃ s, s = zNewO s11 394 9 := ⟨_, rfl⟩
  show zS X (zNewO s11 394 9) _ _ _ _ _
  rw [← e12]
  have f12 : frs [395, 396, 397, 398, 399, 400, 401] s12 := by
    rw [e12]
    exact frs_O f11 (by decide) _
  have hk12 : s12.1 380 = 3 := by
    rw [e12]
    exact kO hk11 (by decide) _
  have ho12 : s12.1 394 = 10 := by
    rw [e12]
    exact kO1 _ _ _
  refine bk hX lkX1_ok (pc' := 56) [.dup, .bipush 10] (by decide +kernel) (And.intro trivial ?_)
  refine z_callI hX kw_X1_29 (c_X8_init E s12 (o := 394) (n := 10) ho12 (f12 _ (by decide)) (f12 _ (by decide)) (f12 _ (by decide)) (by decide)) rfl rfl (by decide +kernel) (by decide) (by decide) (by omega) (by omega) (Nat.le_of_ble_eq_true rfl) ?_
  rintro _ _ ⟨rfl, rfl⟩
  obtain ⟨s13, e13⟩ : ∃ s, s = x8P s12 394 10 := ⟨_, rfl⟩
  show zS X (x8P s12 394 10) _ _ _ _ _
  rw [← e13]
  have f13 : frs [398, 399, 400, 401] s13 := by
    rw [e13]
    exact frs_8 f12 (by decide) (by decide) (by decide) _
  have hk13 : s13.1 380 = 3 := by
    rw [e13]
    exact (x8_k (by decide) (by decide) (by decide)).trans hk12
  refine z_pR hX liX1_ok (ini := true) (fun _ => liX1_i) 36 2 9 (fun k h => h) rfl hk13 (by decide +kernel) ?_
  obtain ⟨s14, e14⟩ : ∃ s, s = pR s13 380 9 (some 394) := ⟨_, rfl⟩
  show zS X (pR s13 380 9 (some 394)) _ _ _ _ _
  rw [← e14]
  have f14 : frs [398, 399, 400, 401] s14 := by
    rw [e14]
    exact frs_R f13 _ _ _
  have hk14 : s14.1 380 = 3 := by
    rw [e14]
    exact hk13
  refine bk hX lkX1_ok (pc' := 63) [.aload_n 0] (by decide +kernel) (And.intro trivial ?_)
  refine z_new hX nw_X1_27 398 (f14 _ List.mem_cons_self) (by decide +kernel) (by omega) (by show _ + 4 ≤ _; omega) ?_
  show zS X _ (12 + 1) (95 + 4) _ _ _
  obtain ⟨s15, e15⟩ : ∃ s, s = zNewO s14 398 9 := ⟨_, rfl⟩
  show zS X (zNewO s14 398 9) _ _ _ _ _
  rw [← e15]
  have f15 : frs [399, 400, 401] s15 := by
    rw [e15]
    exact frs_O f14 (by decide) _
  have hk15 : s15.1 380 = 3 := by
    rw [e15]
    exact kO hk14 (by decide) _
  have ho15 : s15.1 398 = 10 := by
    rw [e15]
    exact kO1 _ _ _
  refine bk hX lkX1_ok (pc' := 69) [.dup, .bipush 8] (by decide +kernel) (And.intro trivial ?_)
  refine z_callI hX kw_X1_29 (c_X8_init E s15 (o := 398) (n := 8) ho15 (f15 _ (by decide)) (f15 _ (by decide)) (f15 _ (by decide)) (by decide)) rfl rfl (by decide +kernel) (by decide) (by decide) (by omega) (by omega) (Nat.le_of_ble_eq_true rfl) ?_
  rintro _ _ ⟨rfl, rfl⟩
  obtain ⟨s16, e16⟩ : ∃ s, s = x8P s15 398 8 := ⟨_, rfl⟩
  show zS X (x8P s15 398 8) _ _ _ _ _
  rw [← e16]
  have f16 : frs [] s16 := by
    rw [e16]
    exact frs_8 f15 (by decide) (by decide) (by decide) _
  have hk16 : s16.1 380 = 3 := by
    rw [e16]
    exact (x8_k (by decide) (by decide) (by decide)).trans hk15
  refine z_pR hX liX1_ok (ini := true) (fun _ => liX1_i) 39 2 10 (fun k h => h) rfl hk16 (by decide +kernel) ?_
  obtain ⟨s17, e17⟩ : ∃ s, s = pR s16 380 10 (some 398) := ⟨_, rfl⟩
  show zS X (pR s16 380 10 (some 398)) _ _ _ _ _
  rw [← e17]
  have f17 : frs [] s17 := by
    rw [e17]
    exact frs_R f16 _ _ _
  have hk17 : s17.1 380 = 3 := by
    rw [e17]
    exact hk16
  exact z_vret hX (by decide +kernel) rfl (by omega) (by omega) (by
  refine ⟨?_, rfl⟩
  rw [e17, e16, e15, e14, e13, e12, e11, e10, e9, e8, e7, e6, e5, e4, e3, e2, e1]
  rfl)
theorem x1_k380 {σ : Sg} {p : Nat} (h : p ∉ [381, 382, 383, 384, 390, 391, 392, 393, 394, 395, 396, 397, 398, 399, 400, 401]) : (x1P380 σ).1 p = σ.1 p := by
  have hq : ∀ q ∈ [381, 382, 383, 384, 390, 391, 392, 393, 394, 395, 396, 397, 398, 399, 400, 401], p ≠ q := fun q hq e => h (e ▸ hq)
  unfold x1P380
  show upK (upK (upK (upK (upK (upK (upK (upK (upK (upK (upK (upK (upK (upK (upK (upK σ.1 _ _) _ _) _ _) _ _) _ _) _ _) _ _) _ _) _ _) _ _) _ _) _ _) _ _) _ _) _ _) _ _ p = _
  rw [upK_ne _ _ (hq _ (by decide)), upK_ne _ _ (hq _ (by decide)), upK_ne _ _ (hq _ (by decide)), upK_ne _ _ (hq _ (by decide)), upK_ne _ _ (hq _ (by decide)), upK_ne _ _ (hq _ (by decide)), upK_ne _ _ (hq _ (by decide)), upK_ne _ _ (hq _ (by decide)), upK_ne _ _ (hq _ (by decide)), upK_ne _ _ (hq _ (by decide)), upK_ne _ _ (hq _ (by decide)), upK_ne _ _ (hq _ (by decide)), upK_ne _ _ (hq _ (by decide)), upK_ne _ _ (hq _ (by decide)), upK_ne _ _ (hq _ (by decide)), upK_ne _ _ (hq _ (by decide))]
def xJP (σ : Sg) : Sg := pI (pR (zNewA (σ) 220 0 16) 208 0 (some 220)) 208 1 (nI 0)
theorem c_J5_init (E : zE) (σ : Sg) (hk : σ.1 208 = 1) (f : frs [220] σ) : zCt E mJ5_init_d00df 1 1 16 σ [.ref 208, .int (nI 16)] (fun v σ' => σ' = xJP σ ∧ v = none) := by
  refine z_intro (by decide) (Nat.le_of_ble_eq_true rfl) (fun X hX => ?_)
  refine bk hX lkJ5_ok (pc' := 1) [.aload_n 0] (by decide +kernel) (And.intro trivial ?_)
  refine z_obj hX ko_J5_3 (by decide +kernel) (by decide) (Nat.le_of_ble_eq_true rfl) (by omega) (by omega) ?_
  refine z_gets hX kg_J5_18 (by decide +kernel) ?_
  refine if_eq hX (18) 25 (by decide +kernel) (by decide) (fun c => absurd c (by decide)) (fun c_7 => ?_)
  refine bk hX lkJ5_ok (pc' := 12) [.aload_n 0, .iload_n 1] (by decide +kernel) (And.intro trivial ?_)
  refine z_newa hX (atype := .byte) (t := 0) (by decide) rfl ka_byte 220 (f _ List.mem_cons_self) (len := 16) (by decide) (by decide) (by decide) (by decide +kernel) (by omega) (by omega) ?_
  obtain ⟨s1, e1⟩ : ∃ s, s = zNewA σ 220 0 16 := ⟨_, rfl⟩
  show zS X (zNewA σ 220 0 16) _ _ _ _ _
  rw [← e1]
  have f1 : frs [] s1 := by
    rw [e1]
    exact frs_A f (by decide) _ _
  have hk1 : s1.1 208 = 1 := by
    rw [e1]
    exact kA hk (by decide) _ _
  refine z_pR hX liJ5_ok (ini := true) (fun _ => liJ5_i) 15 0 0 (fun k h => h) rfl hk1 (by decide +kernel) ?_
  obtain ⟨s2, e2⟩ : ∃ s, s = pR s1 208 0 (some 220) := ⟨_, rfl⟩
  show zS X (pR s1 208 0 (some 220)) _ _ _ _ _
  rw [← e2]
  have f2 : frs [] s2 := by
    rw [e2]
    exact frs_R f1 _ _ _
  have hk2 : s2.1 208 = 1 := by
    rw [e2]
    exact hk1
  refine bk hX lkJ5_ok (pc' := 19) [.aload_n 0, .iconst 0] (by decide +kernel) (And.intro trivial ?_)
  refine z_pZ hX liJ5_ok (ini := true) (fun _ => liJ5_i) 22 0 1 3 (Or.inr rfl) (fun k h => h) rfl hk2 (by decide +kernel) ?_
  obtain ⟨s3, e3⟩ : ∃ s, s = pI s2 208 1 (nI 0) := ⟨_, rfl⟩
  show zS X (pI s2 208 1 (nI 0)) _ _ _ _ _
  rw [← e3]
  have f3 : frs [] s3 := by
    rw [e3]
    exact frs_I f2 _ _ _
  have hk3 : s3.1 208 = 1 := by
    rw [e3]
    exact hk2
  refine gt_ hX (16) 38 (by decide +kernel) (by decide) ?_
  exact z_vret hX (by decide +kernel) rfl (by omega) (by omega) (by
  refine ⟨?_, rfl⟩
  rw [e3, e2, e1]
  rfl)
theorem c_J4_init (E : zE) (σ : Sg) (hk : σ.1 208 = 1) (f : frs [220] σ) : zCt E mJ4_init_da8c8 2 1 16 σ [.ref 208] (fun v σ' => σ' = xJP σ ∧ v = none) := by
  refine z_intro (by decide) (Nat.le_of_ble_eq_true rfl) (fun X hX => ?_)
  refine bk hX lkJ4_ok (pc' := 3) [.aload_n 0, .bipush 16] (by decide +kernel) (And.intro trivial ?_)
  refine z_callI hX kw_J4_1 (c_J5_init E σ hk f) rfl rfl (by decide +kernel) (by decide) (by decide) (by decide) (by decide) (Nat.le_of_ble_eq_true rfl) ?_
  rintro _ _ ⟨rfl, rfl⟩
  exact z_vret hX (by decide +kernel) rfl (by decide) (by decide) (⟨rfl, rfl⟩)
def fiU (I : Nat → Nat → Int32) (v : Int32) : Nat → Nat → Nat → Int32
  | 0 => I
  | n + 1 => up2 (fiU I v n) 211 n v
def fiP (σ : Sg) : Sg := (σ.1, σ.2.1, fiU σ.2.2.1 (-nI 1) 6, σ.2.2.2.1, σ.2.2.2.2)
theorem c_J7_fill (E : zE) (σ : Sg) (hk : σ.1 211 = 22) (hn : σ.2.1 211 = 6) : zCt E mJ7_fill_53178 0 0 0 σ [.ref 211, .int (-nI 1)] (fun v σ' => σ' = fiP σ ∧ v = none) := by
  refine z_intro (by decide) (Nat.le_of_ble_eq_true rfl) (fun X hX => ?_)
  have hl : ∀ m j, j + m = 6 → zS X (σ.1, σ.2.1, fiU σ.2.2.1 (-nI 1) j, σ.2.2.2.1, σ.2.2.2.2) 0 0 5 [(0, .ref 211), (1, .int (-nI 1)), (2, .int (nI j)), (3, .int (nI 6))] [] := by
    intro m
    induction m with
    | zero =>
      intro j hj
      obtain rfl : j = 6 := by omega
      refine bk hX lkJ7_ok (pc' := 7) [.iload_n 2, .iload_n 3] (by decide +kernel) (And.intro trivial ?_)
      refine ic_ge hX (13) 20 (by decide +kernel) (by decide) (fun c_7 => ?_) (fun c => absurd (by decide) c)
      exact z_vret hX (by decide +kernel) rfl (by decide) (by decide) (⟨rfl, rfl⟩)
    | succ m ih =>
      intro j hj
      have cj : (nI j).toNatClampNeg = j := cl (by omega)
      refine bk hX lkJ7_ok (pc' := 7) [.iload_n 2, .iload_n 3] (by decide +kernel) (And.intro trivial ?_)
      refine ic_ge hX (13) 20 (by decide +kernel) (by decide) (fun c => absurd c (nI_ge (a := j) (b := 6) (by omega) (by decide))) (fun c_7 => ?_)
      refine bk hX lkJ7_ok (pc' := 13) [.aload_n 0, .iload_n 2, .iload_n 1] (by decide +kernel) (And.intro trivial ?_)
      refine z_iast hX lkJ7_ok hk (by show vp_in (nI j) (σ.2.1 211); rw [hn]; exact vp_in_nI (by omega) (by decide)) (by decide +kernel) ?_
      rw [cj]
      refine bk hX lkJ7_ok (pc' := 17) [.iinc 2 1] (by decide +kernel) (And.intro trivial ?_)
      refine gt_ hX (-12) 5 (by decide +kernel) (by decide) ?_
      refine z_lvk (lv' := [(0, _), (1, _), (2, _), (3, _)]) [1, 2, 0, 3] rfl ?_
      rw [nI_add]
      exact ih (j + 1) (by omega)
  refine bk hX lkJ7_ok (pc' := 3) [.iconst 0, .istore_n 2, .aload_n 0] (by decide +kernel) (And.intro trivial ?_)
  refine z_alen hX lkJ7_ok (by rw [hk]; decide) (by decide +kernel) ?_
  rw [hn]
  refine bk hX lkJ7_ok (pc' := 5) [.istore_n 3] (by decide +kernel) (And.intro trivial ?_)
  refine z_lvk (lv' := [(0, _), (1, _), (2, _), (3, _)]) [2, 3, 1, 0] rfl ?_
  exact hl 6 0 (by decide)
def x11P (σ : Sg) : Sg := fiP (pR (zNewA (pR (zNewA (pR (zNewA (pR (zNewA (pR (zNewA (pR (xJP (zNewO (pR (zNewA (pR (x1P380 (zNewO (pR (x1P340 (zNewO (pR (x1P300 (zNewO (σ) 300 2)) 200 0 (some 300)) 340 2)) 200 1 (some 340)) 380 2)) 200 2 (some 380)) 205 1 100) 200 4 (some 205)) 208 0)) 200 7 (some 208)) 209 2 36) 200 8 (some 209)) 210 2 64) 200 9 (some 210)) 211 2 6) 200 10 (some 211)) 212 2 6) 200 11 (some 212)) 213 3 360) 200 12 (some 213))
set_option maxHeartbeats 4000000 in
theorem c_X11_init (E : zE) (σ : Sg) (hk : σ.1 200 = 13) (f : frs [300, 301, 302, 303, 304, 310, 311, 312, 313, 314, 315, 316, 317, 318, 319, 320, 321, 340, 341, 342, 343, 344, 350, 351, 352, 353, 354, 355, 356, 357, 358, 359, 360, 361, 380, 381, 382, 383, 384, 390, 391, 392, 393, 394, 395, 396, 397, 398, 399, 400, 401, 205, 208, 220, 209, 210, 211, 212, 213] σ) : zCt E mX11_init 3 59 994 σ [.ref 200] (fun v σ' => σ' = x11P σ ∧ v = none) := by
  refine z_intro (by decide) (Nat.le_of_ble_eq_true rfl) (fun X hX => ?_)
  refine bk hX lkX11_ok (pc' := 1) [.aload_n 0] (by decide +kernel) (And.intro trivial ?_)
  refine z_obj hX ko_X11_3 (by decide +kernel) (by decide) (Nat.le_of_ble_eq_true rfl) (by omega) (by omega) ?_
  refine bk hX lkX11_ok (pc' := 5) [.aload_n 0] (by decide +kernel) (And.intro trivial ?_)
  refine z_new hX nw_X11_9 300 (f _ List.mem_cons_self) (by decide +kernel) (by omega) (by show _ + 11 ≤ _; omega) ?_
  show zS X _ (0 + 1) (0 + 11) _ _ _
  obtain ⟨s1, e1⟩ : ∃ s, s = zNewO σ 300 2 := ⟨_, rfl⟩
  show zS X (zNewO σ 300 2) _ _ _ _ _
  rw [← e1]
  have f1 : frs [301, 302, 303, 304, 310, 311, 312, 313, 314, 315, 316, 317, 318, 319, 320, 321, 340, 341, 342, 343, 344, 350, 351, 352, 353, 354, 355, 356, 357, 358, 359, 360, 361, 380, 381, 382, 383, 384, 390, 391, 392, 393, 394, 395, 396, 397, 398, 399, 400, 401, 205, 208, 220, 209, 210, 211, 212, 213] s1 := by
    rw [e1]
    exact frs_O f (by decide) _
  have hk1 : s1.1 200 = 13 := by
    rw [e1]
    exact kO hk (by decide) _
  have ho1 : s1.1 300 = 3 := by
    rw [e1]
    exact kO1 _ _ _
  refine bk hX lkX11_ok (pc' := 9) [.dup] (by decide +kernel) (And.intro trivial ?_)
  refine z_callIN hX rfl rfl rfl ⟨zGW_at 115 (by decide +kernel) (by decide +kernel), zGW_at 114 (by decide +kernel) (by decide +kernel), zGW_at 79 (by decide +kernel) (by decide +kernel)⟩ (c_X1_init300 E s1 ho1 (fun q hq => f1 q (show q ∈ [301, 302, 303, 304, 310, 311, 312, 313, 314, 315, 316, 317, 318, 319, 320, 321] ++ [340, 341, 342, 343, 344, 350, 351, 352, 353, 354, 355, 356, 357, 358, 359, 360, 361, 380, 381, 382, 383, 384, 390, 391, 392, 393, 394, 395, 396, 397, 398, 399, 400, 401, 205, 208, 220, 209, 210, 211, 212, 213] from List.mem_append_left _ hq))) rfl (by decide +kernel) (by decide) (by decide) (by omega) (by omega) (Nat.le_of_ble_eq_true rfl) ?_
  rintro _ _ ⟨rfl, rfl⟩
  obtain ⟨s2, e2⟩ : ∃ s, s = x1P300 s1 := ⟨_, rfl⟩
  show zS X (x1P300 s1) _ _ _ _ _
  rw [← e2]
  have f2 : frs [340, 341, 342, 343, 344, 350, 351, 352, 353, 354, 355, 356, 357, 358, 359, 360, 361, 380, 381, 382, 383, 384, 390, 391, 392, 393, 394, 395, 396, 397, 398, 399, 400, 401, 205, 208, 220, 209, 210, 211, 212, 213] s2 := by
    rw [e2]
    exact fun q hq => (x1_k300 (fun z => absurd (show q ∈ [301, 302, 303, 304, 310, 311, 312, 313, 314, 315, 316, 317, 318, 319, 320, 321] from z) (fun z => by revert z; revert hq; revert q; decide))).trans (f1 q (show q ∈ [301, 302, 303, 304, 310, 311, 312, 313, 314, 315, 316, 317, 318, 319, 320, 321] ++ [340, 341, 342, 343, 344, 350, 351, 352, 353, 354, 355, 356, 357, 358, 359, 360, 361, 380, 381, 382, 383, 384, 390, 391, 392, 393, 394, 395, 396, 397, 398, 399, 400, 401, 205, 208, 220, 209, 210, 211, 212, 213] from List.mem_append_right _ hq))
  have hk2 : s2.1 200 = 13 := by
    rw [e2]
    exact (x1_k300 (by decide)).trans hk1
  refine z_pR hX liX11_ok (ini := true) (fun _ => liX11_i) 12 12 0 (fun k h => h) rfl hk2 (by decide +kernel) ?_
  obtain ⟨s3, e3⟩ : ∃ s, s = pR s2 200 0 (some 300) := ⟨_, rfl⟩
  show zS X (pR s2 200 0 (some 300)) _ _ _ _ _
  rw [← e3]
  have f3 : frs [340, 341, 342, 343, 344, 350, 351, 352, 353, 354, 355, 356, 357, 358, 359, 360, 361, 380, 381, 382, 383, 384, 390, 391, 392, 393, 394, 395, 396, 397, 398, 399, 400, 401, 205, 208, 220, 209, 210, 211, 212, 213] s3 := by
    rw [e3]
    exact frs_R f2 _ _ _
  have hk3 : s3.1 200 = 13 := by
    rw [e3]
    exact hk2
  refine bk hX lkX11_ok (pc' := 16) [.aload_n 0] (by decide +kernel) (And.intro trivial ?_)
  refine z_new hX nw_X11_9 340 (f3 _ List.mem_cons_self) (by decide +kernel) (by omega) (by show _ + 11 ≤ _; omega) ?_
  show zS X _ (17 + 1) (134 + 11) _ _ _
  obtain ⟨s4, e4⟩ : ∃ s, s = zNewO s3 340 2 := ⟨_, rfl⟩
  show zS X (zNewO s3 340 2) _ _ _ _ _
  rw [← e4]
  have f4 : frs [341, 342, 343, 344, 350, 351, 352, 353, 354, 355, 356, 357, 358, 359, 360, 361, 380, 381, 382, 383, 384, 390, 391, 392, 393, 394, 395, 396, 397, 398, 399, 400, 401, 205, 208, 220, 209, 210, 211, 212, 213] s4 := by
    rw [e4]
    exact frs_O f3 (by decide) _
  have hk4 : s4.1 200 = 13 := by
    rw [e4]
    exact kO hk3 (by decide) _
  have ho4 : s4.1 340 = 3 := by
    rw [e4]
    exact kO1 _ _ _
  refine bk hX lkX11_ok (pc' := 20) [.dup] (by decide +kernel) (And.intro trivial ?_)
  refine z_callIN hX rfl rfl rfl ⟨zGW_at 115 (by decide +kernel) (by decide +kernel), zGW_at 114 (by decide +kernel) (by decide +kernel), zGW_at 79 (by decide +kernel) (by decide +kernel)⟩ (c_X1_init340 E s4 ho4 (fun q hq => f4 q (show q ∈ [341, 342, 343, 344, 350, 351, 352, 353, 354, 355, 356, 357, 358, 359, 360, 361] ++ [380, 381, 382, 383, 384, 390, 391, 392, 393, 394, 395, 396, 397, 398, 399, 400, 401, 205, 208, 220, 209, 210, 211, 212, 213] from List.mem_append_left _ hq))) rfl (by decide +kernel) (by decide) (by decide) (by omega) (by omega) (Nat.le_of_ble_eq_true rfl) ?_
  rintro _ _ ⟨rfl, rfl⟩
  obtain ⟨s5, e5⟩ : ∃ s, s = x1P340 s4 := ⟨_, rfl⟩
  show zS X (x1P340 s4) _ _ _ _ _
  rw [← e5]
  have f5 : frs [380, 381, 382, 383, 384, 390, 391, 392, 393, 394, 395, 396, 397, 398, 399, 400, 401, 205, 208, 220, 209, 210, 211, 212, 213] s5 := by
    rw [e5]
    exact fun q hq => (x1_k340 (fun z => absurd (show q ∈ [341, 342, 343, 344, 350, 351, 352, 353, 354, 355, 356, 357, 358, 359, 360, 361] from z) (fun z => by revert z; revert hq; revert q; decide))).trans (f4 q (show q ∈ [341, 342, 343, 344, 350, 351, 352, 353, 354, 355, 356, 357, 358, 359, 360, 361] ++ [380, 381, 382, 383, 384, 390, 391, 392, 393, 394, 395, 396, 397, 398, 399, 400, 401, 205, 208, 220, 209, 210, 211, 212, 213] from List.mem_append_right _ hq))
  have hk5 : s5.1 200 = 13 := by
    rw [e5]
    exact (x1_k340 (by decide)).trans hk4
  refine z_pR hX liX11_ok (ini := true) (fun _ => liX11_i) 18 12 1 (fun k h => h) rfl hk5 (by decide +kernel) ?_
  obtain ⟨s6, e6⟩ : ∃ s, s = pR s5 200 1 (some 340) := ⟨_, rfl⟩
  show zS X (pR s5 200 1 (some 340)) _ _ _ _ _
  rw [← e6]
  have f6 : frs [380, 381, 382, 383, 384, 390, 391, 392, 393, 394, 395, 396, 397, 398, 399, 400, 401, 205, 208, 220, 209, 210, 211, 212, 213] s6 := by
    rw [e6]
    exact frs_R f5 _ _ _
  have hk6 : s6.1 200 = 13 := by
    rw [e6]
    exact hk5
  refine bk hX lkX11_ok (pc' := 27) [.aload_n 0] (by decide +kernel) (And.intro trivial ?_)
  refine z_new hX nw_X11_9 380 (f6 _ List.mem_cons_self) (by decide +kernel) (by omega) (by show _ + 11 ≤ _; omega) ?_
  show zS X _ (34 + 1) (268 + 11) _ _ _
  obtain ⟨s7, e7⟩ : ∃ s, s = zNewO s6 380 2 := ⟨_, rfl⟩
  show zS X (zNewO s6 380 2) _ _ _ _ _
  rw [← e7]
  have f7 : frs [381, 382, 383, 384, 390, 391, 392, 393, 394, 395, 396, 397, 398, 399, 400, 401, 205, 208, 220, 209, 210, 211, 212, 213] s7 := by
    rw [e7]
    exact frs_O f6 (by decide) _
  have hk7 : s7.1 200 = 13 := by
    rw [e7]
    exact kO hk6 (by decide) _
  have ho7 : s7.1 380 = 3 := by
    rw [e7]
    exact kO1 _ _ _
  refine bk hX lkX11_ok (pc' := 31) [.dup] (by decide +kernel) (And.intro trivial ?_)
  refine z_callIN hX rfl rfl rfl ⟨zGW_at 115 (by decide +kernel) (by decide +kernel), zGW_at 114 (by decide +kernel) (by decide +kernel), zGW_at 79 (by decide +kernel) (by decide +kernel)⟩ (c_X1_init380 E s7 ho7 (fun q hq => f7 q (show q ∈ [381, 382, 383, 384, 390, 391, 392, 393, 394, 395, 396, 397, 398, 399, 400, 401] ++ [205, 208, 220, 209, 210, 211, 212, 213] from List.mem_append_left _ hq))) rfl (by decide +kernel) (by decide) (by decide) (by omega) (by omega) (Nat.le_of_ble_eq_true rfl) ?_
  rintro _ _ ⟨rfl, rfl⟩
  obtain ⟨s8, e8⟩ : ∃ s, s = x1P380 s7 := ⟨_, rfl⟩
  show zS X (x1P380 s7) _ _ _ _ _
  rw [← e8]
  have f8 : frs [205, 208, 220, 209, 210, 211, 212, 213] s8 := by
    rw [e8]
    exact fun q hq => (x1_k380 (fun z => absurd (show q ∈ [381, 382, 383, 384, 390, 391, 392, 393, 394, 395, 396, 397, 398, 399, 400, 401] from z) (fun z => by revert z; revert hq; revert q; decide))).trans (f7 q (show q ∈ [381, 382, 383, 384, 390, 391, 392, 393, 394, 395, 396, 397, 398, 399, 400, 401] ++ [205, 208, 220, 209, 210, 211, 212, 213] from List.mem_append_right _ hq))
  have hk8 : s8.1 200 = 13 := by
    rw [e8]
    exact (x1_k380 (by decide)).trans hk7
  refine z_pR hX liX11_ok (ini := true) (fun _ => liX11_i) 21 12 2 (fun k h => h) rfl hk8 (by decide +kernel) ?_
  obtain ⟨s9, e9⟩ : ∃ s, s = pR s8 200 2 (some 380) := ⟨_, rfl⟩
  show zS X (pR s8 200 2 (some 380)) _ _ _ _ _
  rw [← e9]
  have f9 : frs [205, 208, 220, 209, 210, 211, 212, 213] s9 := by
    rw [e9]
    exact frs_R f8 _ _ _
  have hk9 : s9.1 200 = 13 := by
    rw [e9]
    exact hk8
  refine bk hX lkX11_ok (pc' := 40) [.aload_n 0, .bipush 100] (by decide +kernel) (And.intro trivial ?_)
  refine z_newa hX (atype := .char) (t := 1) (by decide) rfl ka_char 205 (f9 _ List.mem_cons_self) (len := 100) (by decide) (by decide) (by decide) (by decide +kernel) (by omega) (by omega) ?_
  obtain ⟨s10, e10⟩ : ∃ s, s = zNewA s9 205 1 100 := ⟨_, rfl⟩
  show zS X (zNewA s9 205 1 100) _ _ _ _ _
  rw [← e10]
  have f10 : frs [208, 220, 209, 210, 211, 212, 213] s10 := by
    rw [e10]
    exact frs_A f9 (by decide) _ _
  have hk10 : s10.1 200 = 13 := by
    rw [e10]
    exact kA hk9 (by decide) _ _
  refine z_pR hX liX11_ok (ini := true) (fun _ => liX11_i) 24 12 4 (fun k h => h) rfl hk10 (by decide +kernel) ?_
  obtain ⟨s11, e11⟩ : ∃ s, s = pR s10 200 4 (some 205) := ⟨_, rfl⟩
  show zS X (pR s10 200 4 (some 205)) _ _ _ _ _
  rw [← e11]
  have f11 : frs [208, 220, 209, 210, 211, 212, 213] s11 := by
    rw [e11]
    exact frs_R f10 _ _ _
  have hk11 : s11.1 200 = 13 := by
    rw [e11]
    exact hk10
  refine bk hX lkX11_ok (pc' := 46) [.aload_n 0] (by decide +kernel) (And.intro trivial ?_)
  refine z_new hX nw_X11_28 208 (f11 _ List.mem_cons_self) (by decide +kernel) (by omega) (by show _ + 4 ≤ _; omega) ?_
  show zS X _ (52 + 1) (502 + 4) _ _ _
  obtain ⟨s12, e12⟩ : ∃ s, s = zNewO s11 208 0 := ⟨_, rfl⟩
  show zS X (zNewO s11 208 0) _ _ _ _ _
  rw [← e12]
  have f12 : frs [220, 209, 210, 211, 212, 213] s12 := by
    rw [e12]
    exact frs_O f11 (by decide) _
  have hk12 : s12.1 200 = 13 := by
    rw [e12]
    exact kO hk11 (by decide) _
  have ho12 : s12.1 208 = 1 := by
    rw [e12]
    exact kO1 _ _ _
  refine bk hX lkX11_ok (pc' := 50) [.dup] (by decide +kernel) (And.intro trivial ?_)
  refine z_callI hX kw_X11_30 (c_J4_init E s12 ho12 (fun q hq => f12 q (by rw [List.mem_singleton.mp hq]; decide))) rfl rfl (by decide +kernel) (by decide) (by decide) (by omega) (by omega) (Nat.le_of_ble_eq_true rfl) ?_
  rintro _ _ ⟨rfl, rfl⟩
  obtain ⟨s13, e13⟩ : ∃ s, s = xJP s12 := ⟨_, rfl⟩
  show zS X (xJP s12) _ _ _ _ _
  rw [← e13]
  have f13 : frs [209, 210, 211, 212, 213] s13 := by
    rw [e13]
    exact frs_A (n := 220) f12 (by decide) 0 16
  have hk13 : s13.1 200 = 13 := by
    rw [e13]
    exact kA (n := 220) hk12 (by decide) 0 16
  refine z_pR hX liX11_ok (ini := true) (fun _ => liX11_i) 31 12 7 (fun k h => h) rfl hk13 (by decide +kernel) ?_
  obtain ⟨s14, e14⟩ : ∃ s, s = pR s13 200 7 (some 208) := ⟨_, rfl⟩
  show zS X (pR s13 200 7 (some 208)) _ _ _ _ _
  rw [← e14]
  have f14 : frs [209, 210, 211, 212, 213] s14 := by
    rw [e14]
    exact frs_R f13 _ _ _
  have hk14 : s14.1 200 = 13 := by
    rw [e14]
    exact hk13
  refine bk hX lkX11_ok (pc' := 59) [.aload_n 0, .bipush 36] (by decide +kernel) (And.intro trivial ?_)
  refine z_newa hX (atype := .int) (t := 2) (by decide) rfl ka_int 209 (f14 _ List.mem_cons_self) (len := 36) (by decide) (by decide) (by decide) (by decide +kernel) (by omega) (by omega) ?_
  obtain ⟨s15, e15⟩ : ∃ s, s = zNewA s14 209 2 36 := ⟨_, rfl⟩
  show zS X (zNewA s14 209 2 36) _ _ _ _ _
  rw [← e15]
  have f15 : frs [210, 211, 212, 213] s15 := by
    rw [e15]
    exact frs_A f14 (by decide) _ _
  have hk15 : s15.1 200 = 13 := by
    rw [e15]
    exact kA hk14 (by decide) _ _
  refine z_pR hX liX11_ok (ini := true) (fun _ => liX11_i) 35 12 8 (fun k h => h) rfl hk15 (by decide +kernel) ?_
  obtain ⟨s16, e16⟩ : ∃ s, s = pR s15 200 8 (some 209) := ⟨_, rfl⟩
  show zS X (pR s15 200 8 (some 209)) _ _ _ _ _
  rw [← e16]
  have f16 : frs [210, 211, 212, 213] s16 := by
    rw [e16]
    exact frs_R f15 _ _ _
  have hk16 : s16.1 200 = 13 := by
    rw [e16]
    exact hk15
  refine bk hX lkX11_ok (pc' := 67) [.aload_n 0, .bipush 64] (by decide +kernel) (And.intro trivial ?_)
  refine z_newa hX (atype := .int) (t := 2) (by decide) rfl ka_int 210 (f16 _ List.mem_cons_self) (len := 64) (by decide) (by decide) (by decide) (by decide +kernel) (by omega) (by omega) ?_
  obtain ⟨s17, e17⟩ : ∃ s, s = zNewA s16 210 2 64 := ⟨_, rfl⟩
  show zS X (zNewA s16 210 2 64) _ _ _ _ _
  rw [← e17]
  have f17 : frs [211, 212, 213] s17 := by
    rw [e17]
    exact frs_A f16 (by decide) _ _
  have hk17 : s17.1 200 = 13 := by
    rw [e17]
    exact kA hk16 (by decide) _ _
  refine z_pR hX liX11_ok (ini := true) (fun _ => liX11_i) 39 12 9 (fun k h => h) rfl hk17 (by decide +kernel) ?_
  obtain ⟨s18, e18⟩ : ∃ s, s = pR s17 200 9 (some 210) := ⟨_, rfl⟩
  show zS X (pR s17 200 9 (some 210)) _ _ _ _ _
  rw [← e18]
  have f18 : frs [211, 212, 213] s18 := by
    rw [e18]
    exact frs_R f17 _ _ _
  have hk18 : s18.1 200 = 13 := by
    rw [e18]
    exact hk17
  refine bk hX lkX11_ok (pc' := 75) [.aload_n 0, .bipush 6] (by decide +kernel) (And.intro trivial ?_)
  refine z_newa hX (atype := .int) (t := 2) (by decide) rfl ka_int 211 (f18 _ List.mem_cons_self) (len := 6) (by decide) (by decide) (by decide) (by decide +kernel) (by omega) (by omega) ?_
  obtain ⟨s19, e19⟩ : ∃ s, s = zNewA s18 211 2 6 := ⟨_, rfl⟩
  show zS X (zNewA s18 211 2 6) _ _ _ _ _
  rw [← e19]
  have f19 : frs [212, 213] s19 := by
    rw [e19]
    exact frs_A f18 (by decide) _ _
  have hk19 : s19.1 200 = 13 := by
    rw [e19]
    exact kA hk18 (by decide) _ _
  have ha19 : s19.1 211 = 22 := by
    rw [e19]
    exact kA1 _ _ _ _
  have hn19 : s19.2.1 211 = 6 := by
    rw [e19]
    exact nA1 _ _ _ _
  refine z_pR hX liX11_ok (ini := true) (fun _ => liX11_i) 42 12 10 (fun k h => h) rfl hk19 (by decide +kernel) ?_
  obtain ⟨s20, e20⟩ : ∃ s, s = pR s19 200 10 (some 211) := ⟨_, rfl⟩
  show zS X (pR s19 200 10 (some 211)) _ _ _ _ _
  rw [← e20]
  have f20 : frs [212, 213] s20 := by
    rw [e20]
    exact frs_R f19 _ _ _
  have hk20 : s20.1 200 = 13 := by
    rw [e20]
    exact hk19
  refine bk hX lkX11_ok (pc' := 83) [.aload_n 0, .bipush 6] (by decide +kernel) (And.intro trivial ?_)
  refine z_newa hX (atype := .int) (t := 2) (by decide) rfl ka_int 212 (f20 _ List.mem_cons_self) (len := 6) (by decide) (by decide) (by decide) (by decide +kernel) (by omega) (by omega) ?_
  obtain ⟨s21, e21⟩ : ∃ s, s = zNewA s20 212 2 6 := ⟨_, rfl⟩
  show zS X (zNewA s20 212 2 6) _ _ _ _ _
  rw [← e21]
  have f21 : frs [213] s21 := by
    rw [e21]
    exact frs_A f20 (by decide) _ _
  have hk21 : s21.1 200 = 13 := by
    rw [e21]
    exact kA hk20 (by decide) _ _
  refine z_pR hX liX11_ok (ini := true) (fun _ => liX11_i) 45 12 11 (fun k h => h) rfl hk21 (by decide +kernel) ?_
  obtain ⟨s22, e22⟩ : ∃ s, s = pR s21 200 11 (some 212) := ⟨_, rfl⟩
  show zS X (pR s21 200 11 (some 212)) _ _ _ _ _
  rw [← e22]
  have f22 : frs [213] s22 := by
    rw [e22]
    exact frs_R f21 _ _ _
  have hk22 : s22.1 200 = 13 := by
    rw [e22]
    exact hk21
  refine bk hX lkX11_ok (pc' := 92) [.aload_n 0, .sipush 360] (by decide +kernel) (And.intro trivial ?_)
  refine z_newa hX (atype := .long) (t := 3) (by decide) rfl ka_long 213 (f22 _ List.mem_cons_self) (len := 360) (by decide) (by decide) (by decide) (by decide +kernel) (by omega) (by omega) ?_
  obtain ⟨s23, e23⟩ : ∃ s, s = zNewA s22 213 3 360 := ⟨_, rfl⟩
  show zS X (zNewA s22 213 3 360) _ _ _ _ _
  rw [← e23]
  have f23 : frs [] s23 := by
    rw [e23]
    exact frs_A f22 (by decide) _ _
  have hk23 : s23.1 200 = 13 := by
    rw [e23]
    exact kA hk22 (by decide) _ _
  refine z_pR hX liX11_ok (ini := true) (fun _ => liX11_i) 48 12 12 (fun k h => h) rfl hk23 (by decide +kernel) ?_
  obtain ⟨s24, e24⟩ : ∃ s, s = pR s23 200 12 (some 213) := ⟨_, rfl⟩
  show zS X (pR s23 200 12 (some 213)) _ _ _ _ _
  rw [← e24]
  have f24 : frs [] s24 := by
    rw [e24]
    exact frs_R f23 _ _ _
  have hk24 : s24.1 200 = 13 := by
    rw [e24]
    exact hk23
  refine bk hX lkX11_ok (pc' := 98) [.aload_n 0] (by decide +kernel) (And.intro trivial ?_)
  have h211 : s24.1 211 = 22 := by
    rw [e24, e23, e22, e21, e20]
    exact kA (n := 213) (kA (n := 212) (ha19) (by decide) 2 6) (by decide) 3 360
  have n211 : s24.2.1 211 = 6 := by
    rw [e24, e23, e22, e21, e20]
    show upK (upK s19.2.1 212 6) 213 360 211 = 6
    rw [upK_ne _ _ (by decide), upK_ne _ _ (by decide)]
    exact hn19
  have r211 : s24.2.2.2.2 200 10 = some 211 := by
    rw [e24, e23, e22, e21, e20]
    rfl
  refine z_gR hX liX11_ok 42 12 10 (fun k h => h) hk24 r211 (by decide +kernel) ?_
  refine bk hX lkX11_ok (pc' := 102) [.iconst (Int.negSucc 0)] (by decide +kernel) (And.intro trivial ?_)
  refine z_callS hX kw_X11_52 (c_J7_fill E s24 h211 n211) rfl rfl (by decide +kernel) (by decide) (by decide) (by omega) (by omega) (Nat.le_of_ble_eq_true rfl) ?_
  rintro _ _ ⟨rfl, rfl⟩
  obtain ⟨s25, e25⟩ : ∃ s, s = fiP s24 := ⟨_, rfl⟩
  show zS X (fiP s24) _ _ _ _ _
  rw [← e25]
  have hk25 : s25.1 200 = 13 := by
    rw [e25]
    exact hk24
  exact z_vret hX (by decide +kernel) rfl (by omega) (by omega) (by
  refine ⟨?_, rfl⟩
  rw [e25, e24, e23, e22, e21, e20, e19, e18, e17, e16, e15, e14, e13, e12, e11, e10, e9, e8, e7, e6, e5, e4, e3, e2, e1]
  rfl)
