section
variable {X : zX} {E : zE} {M : zM} {d mc ms : Nat} {Po : Option Value → Sg → Prop} {σ : Sg} {cells slots pc : Nat} {lv : List (Nat × Value)} {st : List Value}
theorem z_lk1 {own : String} {q : Nat × Nat × Nat × Nat × Bool} (h : zFe own q) : zlkOK own ([q], [], []) := ⟨fun x hx => by rw [List.mem_singleton.mp hx]; exact h, fun _ h => absurd h List.not_mem_nil, fun _ h => absurd h List.not_mem_nil⟩
theorem z_gIe (hX : zD X E M d mc ms Po) {idx ci j : Nat} {fin : Bool} (hfe : zFe M.1.cls (idx, ci, j, 0, fin)) {p : Nat} (hk : σ.1 p = ci + 1) (hd : decode M.2.1 pc = .ok (.getfield idx, 3)) (kk : zS X σ cells slots (pc + 3) lv (.int (σ.2.2.1 p j) :: st)) : zS X σ cells slots pc lv (.ref p :: st) := by
  refine z_gI hX (z_lk1 hfe) idx ci j (tc := 0) (fin := fin) (fun k h => ?_) (by decide) hk hd kk
  show bif Nat.beq idx idx then _ else _
  rw [bq_t]; exact h
theorem z_pIe (hX : zD X E M d mc ms Po) (hn : M.1.name = "<init>") {idx ci j : Nat} {fin : Bool} (hfe : zFe M.1.cls (idx, ci, j, 0, fin)) (hdc : ∀ c : vw_C, vwCl[ci]? = some c → (c.2.1 j).1 = M.1.cls) {p : Nat} {x : Int32} (hk : σ.1 p = ci + 1) (hd : decode M.2.1 pc = .ok (.putfield idx, 3)) (kk : zS X (σ.1, σ.2.1, up2 σ.2.2.1 p j x, σ.2.2.2.1, σ.2.2.2.2) cells slots (pc + 3) lv st) : zS X σ cells slots pc lv (.int x :: .ref p :: st) := by
  refine z_pI hX (z_lk1 hfe) (ini := true) (fun _ => ⟨hn, fun q hq c hc => ?_⟩) idx ci j (fin := fin) (fun k h => ?_) (by cases fin <;> rfl) hk hd kk
  · rw [List.mem_singleton.mp hq] at hc ⊢
    exact hdc c hc
  · show bif Nat.beq idx idx then _ else _
    rw [bq_t]; exact h
/-- null into a row of references -/
theorem z_aastN (hX : zD X E M d mc ms Po) {p : Nat} {i : Int32} (hk : σ.1 p = 25) (hn : vp_in i (σ.2.1 p)) (hd : decode M.2.1 pc = .ok (.aastore, 1)) (kk : zS X (σ.1, σ.2.1, σ.2.2.1, σ.2.2.2.1, up2 σ.2.2.2.2 p i.toNatClampNeg none) cells slots (pc + 1) lv st) : zS X σ cells slots pc lv (.null :: .int i :: .ref p :: st) := by
  obtain ⟨p0, l, e, R, s, m, args, below, meth, c, Q, G, b0, nL, σ0, ad0⟩ := X
  obtain ⟨⟨hx, hb, hml, hown, hts, hK, hlocks, hb0, hnL, hrt, hnm, hEx⟩, -⟩ := hX
  intro ad H locs ls a1 a2 a3 a4 a5 a6
  obtain ⟨h1, h2, h3⟩ := zg_arr hK a2 (t := 5) (by decide) hk
  refine va_WaastN (C := "PunchedSouls$Hand") hx hb h2 h3 (fun h => by cases h) (by show ¬ (i < 0 ∨ (arrV _ _ _).slots.size ≤ _); rw [arrV_size]; exact hn) rfl rfl hd fun H1 e z oq => ?_
  obtain ⟨r1, r2⟩ := zg_arrput (σ' := (σ.1, σ.2.1, σ.2.2.1, σ.2.2.2.1, up2 σ.2.2.2.2 p i.toNatClampNeg none)) (s := s) a2 (t := 5) (j := i.toNatClampNeg) (by decide) hk a5 rfl rfl (fun _ _ => rfl) (fun _ _ => rfl) (fun q hq => up2_ne _ _ _ hq) (fun k => by
      show updV (fun j => va_rf ((σ.2.2.2.2 p j).map ad)) _ _ k = va_rf ((up2 σ.2.2.2.2 p i.toNatClampNeg none p k).map ad)
      rw [up2_at]
      unfold updV
      split <;> rfl) (fun k q hq => by
      have hq' : up2 σ.2.2.2.2 p i.toNatClampNeg none p k = some q := hq
      rw [up2_at] at hq'
      split at hq'
      · cases hq'
      · exact a2.2.2.1 p k q (by rw [hk]; decide) hq') e z oq
  exact kk ad H1 _ ls a1 r1 a3 (zl_t (zl_t (zl_t a4))) r2 a6
/-- null into a field -/
theorem z_pN (hX : zD X E M d mc ms Po) {idx ci j : Nat} (hfe : zFe M.1.cls (idx, ci, j, 1, false)) {p : Nat} (hk : σ.1 p = ci + 1) (hd : decode M.2.1 pc = .ok (.putfield idx, 3)) (kk : zS X (σ.1, σ.2.1, σ.2.2.1, σ.2.2.2.1, up2 σ.2.2.2.2 p j none) cells slots (pc + 3) lv st) : zS X σ cells slots pc lv (.null :: .ref p :: st) := by
  obtain ⟨p0, l, e, R, s, m, args, below, meth, c, Q, G, b0, nL, σ0, ad0⟩ := X
  obtain ⟨⟨hx, hb, hml, hown, hts, hK, hlocks, hb0, hnL, hrt, hnm, hEx⟩, -⟩ := hX
  intro ad H locs ls a1 a2 a3 a4 a5 a6
  have hfe2 := hfe
  obtain ⟨cq, rf, -, -, -, -, -, htc, ht0, ht2, ht3⟩ := hfe2
  dsimp only at htc ht0 ht2 ht3
  have htr := htc.mp rfl
  have hn : narrow (zty ci j) .null = .null := by
    cases hz : zty ci j <;> rw [hz] at htr <;> first | rfl | cases htr
  have hf : fits (zty ci j) .null = true := by
    cases hz : zty ci j <;> rw [hz] at htr <;> first | rfl | cases htr
  refine zg_put (M := M) (v := .null) (σ' := (σ.1, σ.2.1, σ.2.2.1, σ.2.2.2.1, up2 σ.2.2.2.2 p j none)) hx hb hown hts hK hfe a2 hk (fun h => by cases h) hn hf a5 rfl rfl (fun _ _ => rfl) (fun _ _ => rfl) (fun z hz => up2_ne _ _ _ hz) (fun i => ?_) (fun k z hz => ?_) hd (fun H1 locs1 b1 b2 => kk ad H1 locs1 ls a1 b1 a3 (zl_t (zl_t a4)) b2 a6)
  · show updV _ j _ i = _
    by_cases hij : i = j
    · subst hij
      simp [updV, zfv, htr, up2_self, va_rf]
    · simp [updV, zfv, hij, up2_at]
  · change up2 σ.2.2.2.2 p j none p k = some z at hz
    rw [up2_at] at hz
    split at hz
    · cases hz
    · exact a2.2.2.1 p k z (by rw [hk]; exact Nat.succ_ne_zero _) hz
end
/-! hands: their class by their kind -/
def hci (k : Nat) : Nat := zget [3, 5, 4, 7, 1, 6, 10] k
theorem fh_X2_9 : ∀ k, k ≤ 6 → zFe RX2 (9, hci k, 0, 0, true)
  | 0, _ => ⟨(RX2, TX2, 2), "PunchedSouls$Hand", rfl, by decide, zGW_at 286 (by decide +kernel) (by decide +kernel), Or.inl rfl, rfl, by decide +kernel, by decide +kernel, by decide +kernel, by decide +kernel⟩
  | 1, _ => ⟨(RX4, TX4, 2), "PunchedSouls$Hand", rfl, by decide, zGW_at 286 (by decide +kernel) (by decide +kernel), Or.inl rfl, rfl, by decide +kernel, by decide +kernel, by decide +kernel, by decide +kernel⟩
  | 2, _ => ⟨(RX3, TX3, 2), "PunchedSouls$Hand", rfl, by decide, zGW_at 286 (by decide +kernel) (by decide +kernel), Or.inl rfl, rfl, by decide +kernel, by decide +kernel, by decide +kernel, by decide +kernel⟩
  | 3, _ => ⟨(RX6, TX6, 2), "PunchedSouls$Hand", rfl, by decide, zGW_at 286 (by decide +kernel) (by decide +kernel), Or.inl rfl, rfl, by decide +kernel, by decide +kernel, by decide +kernel, by decide +kernel⟩
  | 4, _ => ⟨(RX0, TX0, 2), "PunchedSouls$Hand", rfl, by decide, zGW_at 286 (by decide +kernel) (by decide +kernel), Or.inl rfl, rfl, by decide +kernel, by decide +kernel, by decide +kernel, by decide +kernel⟩
  | 5, _ => ⟨(RX5, TX5, 2), "PunchedSouls$Hand", rfl, by decide, zGW_at 286 (by decide +kernel) (by decide +kernel), Or.inl rfl, rfl, by decide +kernel, by decide +kernel, by decide +kernel, by decide +kernel⟩
  | 6, _ => ⟨(RX9, TX9, 2), "PunchedSouls$Hand", rfl, by decide, zGW_at 286 (by decide +kernel) (by decide +kernel), Or.inl rfl, rfl, by decide +kernel, by decide +kernel, by decide +kernel, by decide +kernel⟩
  | n + 7, h => absurd h (by omega)
theorem fh_X2_15 : ∀ k, k ≤ 6 → zFe RX2 (15, hci k, 1, 0, true)
  | 0, _ => ⟨(RX2, TX2, 2), "PunchedSouls$Hand", rfl, by decide, zGW_at 292 (by decide +kernel) (by decide +kernel), Or.inl rfl, rfl, by decide +kernel, by decide +kernel, by decide +kernel, by decide +kernel⟩
  | 1, _ => ⟨(RX4, TX4, 2), "PunchedSouls$Hand", rfl, by decide, zGW_at 292 (by decide +kernel) (by decide +kernel), Or.inl rfl, rfl, by decide +kernel, by decide +kernel, by decide +kernel, by decide +kernel⟩
  | 2, _ => ⟨(RX3, TX3, 2), "PunchedSouls$Hand", rfl, by decide, zGW_at 292 (by decide +kernel) (by decide +kernel), Or.inl rfl, rfl, by decide +kernel, by decide +kernel, by decide +kernel, by decide +kernel⟩
  | 3, _ => ⟨(RX6, TX6, 2), "PunchedSouls$Hand", rfl, by decide, zGW_at 292 (by decide +kernel) (by decide +kernel), Or.inl rfl, rfl, by decide +kernel, by decide +kernel, by decide +kernel, by decide +kernel⟩
  | 4, _ => ⟨(RX0, TX0, 2), "PunchedSouls$Hand", rfl, by decide, zGW_at 292 (by decide +kernel) (by decide +kernel), Or.inl rfl, rfl, by decide +kernel, by decide +kernel, by decide +kernel, by decide +kernel⟩
  | 5, _ => ⟨(RX5, TX5, 2), "PunchedSouls$Hand", rfl, by decide, zGW_at 292 (by decide +kernel) (by decide +kernel), Or.inl rfl, rfl, by decide +kernel, by decide +kernel, by decide +kernel, by decide +kernel⟩
  | 6, _ => ⟨(RX9, TX9, 2), "PunchedSouls$Hand", rfl, by decide, zGW_at 292 (by decide +kernel) (by decide +kernel), Or.inl rfl, rfl, by decide +kernel, by decide +kernel, by decide +kernel, by decide +kernel⟩
  | n + 7, h => absurd h (by omega)
theorem fh_X3_9 : ∀ k, k ≤ 6 → zFe RX3 (9, hci k, 0, 0, true)
  | 0, _ => ⟨(RX2, TX2, 2), "PunchedSouls$Lad", rfl, by decide, zGW_at 287 (by decide +kernel) (by decide +kernel), Or.inr (zGW_at 288 (by decide +kernel) (by decide +kernel)), rfl, by decide +kernel, by decide +kernel, by decide +kernel, by decide +kernel⟩
  | 1, _ => ⟨(RX4, TX4, 2), "PunchedSouls$Lad", rfl, by decide, zGW_at 287 (by decide +kernel) (by decide +kernel), Or.inr (zGW_at 288 (by decide +kernel) (by decide +kernel)), rfl, by decide +kernel, by decide +kernel, by decide +kernel, by decide +kernel⟩
  | 2, _ => ⟨(RX3, TX3, 2), "PunchedSouls$Lad", rfl, by decide, zGW_at 287 (by decide +kernel) (by decide +kernel), Or.inr (zGW_at 288 (by decide +kernel) (by decide +kernel)), rfl, by decide +kernel, by decide +kernel, by decide +kernel, by decide +kernel⟩
  | 3, _ => ⟨(RX6, TX6, 2), "PunchedSouls$Lad", rfl, by decide, zGW_at 287 (by decide +kernel) (by decide +kernel), Or.inr (zGW_at 288 (by decide +kernel) (by decide +kernel)), rfl, by decide +kernel, by decide +kernel, by decide +kernel, by decide +kernel⟩
  | 4, _ => ⟨(RX0, TX0, 2), "PunchedSouls$Lad", rfl, by decide, zGW_at 287 (by decide +kernel) (by decide +kernel), Or.inr (zGW_at 288 (by decide +kernel) (by decide +kernel)), rfl, by decide +kernel, by decide +kernel, by decide +kernel, by decide +kernel⟩
  | 5, _ => ⟨(RX5, TX5, 2), "PunchedSouls$Lad", rfl, by decide, zGW_at 287 (by decide +kernel) (by decide +kernel), Or.inr (zGW_at 288 (by decide +kernel) (by decide +kernel)), rfl, by decide +kernel, by decide +kernel, by decide +kernel, by decide +kernel⟩
  | 6, _ => ⟨(RX9, TX9, 2), "PunchedSouls$Lad", rfl, by decide, zGW_at 287 (by decide +kernel) (by decide +kernel), Or.inr (zGW_at 288 (by decide +kernel) (by decide +kernel)), rfl, by decide +kernel, by decide +kernel, by decide +kernel, by decide +kernel⟩
  | n + 7, h => absurd h (by omega)
theorem fh_X3_15 : ∀ k, k ≤ 6 → zFe RX3 (15, hci k, 1, 0, true)
  | 0, _ => ⟨(RX2, TX2, 2), "PunchedSouls$Lad", rfl, by decide, zGW_at 293 (by decide +kernel) (by decide +kernel), Or.inr (zGW_at 294 (by decide +kernel) (by decide +kernel)), rfl, by decide +kernel, by decide +kernel, by decide +kernel, by decide +kernel⟩
  | 1, _ => ⟨(RX4, TX4, 2), "PunchedSouls$Lad", rfl, by decide, zGW_at 293 (by decide +kernel) (by decide +kernel), Or.inr (zGW_at 294 (by decide +kernel) (by decide +kernel)), rfl, by decide +kernel, by decide +kernel, by decide +kernel, by decide +kernel⟩
  | 2, _ => ⟨(RX3, TX3, 2), "PunchedSouls$Lad", rfl, by decide, zGW_at 293 (by decide +kernel) (by decide +kernel), Or.inr (zGW_at 294 (by decide +kernel) (by decide +kernel)), rfl, by decide +kernel, by decide +kernel, by decide +kernel, by decide +kernel⟩
  | 3, _ => ⟨(RX6, TX6, 2), "PunchedSouls$Lad", rfl, by decide, zGW_at 293 (by decide +kernel) (by decide +kernel), Or.inr (zGW_at 294 (by decide +kernel) (by decide +kernel)), rfl, by decide +kernel, by decide +kernel, by decide +kernel, by decide +kernel⟩
  | 4, _ => ⟨(RX0, TX0, 2), "PunchedSouls$Lad", rfl, by decide, zGW_at 293 (by decide +kernel) (by decide +kernel), Or.inr (zGW_at 294 (by decide +kernel) (by decide +kernel)), rfl, by decide +kernel, by decide +kernel, by decide +kernel, by decide +kernel⟩
  | 5, _ => ⟨(RX5, TX5, 2), "PunchedSouls$Lad", rfl, by decide, zGW_at 293 (by decide +kernel) (by decide +kernel), Or.inr (zGW_at 294 (by decide +kernel) (by decide +kernel)), rfl, by decide +kernel, by decide +kernel, by decide +kernel, by decide +kernel⟩
  | 6, _ => ⟨(RX9, TX9, 2), "PunchedSouls$Lad", rfl, by decide, zGW_at 293 (by decide +kernel) (by decide +kernel), Or.inr (zGW_at 294 (by decide +kernel) (by decide +kernel)), rfl, by decide +kernel, by decide +kernel, by decide +kernel, by decide +kernel⟩
  | n + 7, h => absurd h (by omega)
theorem fh_X10_31 : ∀ k, k ≤ 6 → zFe RX10 (31, hci k, 0, 0, true)
  | 0, _ => ⟨(RX2, TX2, 2), "PunchedSouls$Hand", rfl, by decide, zGW_at 291 (by decide +kernel) (by decide +kernel), Or.inl rfl, rfl, by decide +kernel, by decide +kernel, by decide +kernel, by decide +kernel⟩
  | 1, _ => ⟨(RX4, TX4, 2), "PunchedSouls$Hand", rfl, by decide, zGW_at 291 (by decide +kernel) (by decide +kernel), Or.inl rfl, rfl, by decide +kernel, by decide +kernel, by decide +kernel, by decide +kernel⟩
  | 2, _ => ⟨(RX3, TX3, 2), "PunchedSouls$Hand", rfl, by decide, zGW_at 291 (by decide +kernel) (by decide +kernel), Or.inl rfl, rfl, by decide +kernel, by decide +kernel, by decide +kernel, by decide +kernel⟩
  | 3, _ => ⟨(RX6, TX6, 2), "PunchedSouls$Hand", rfl, by decide, zGW_at 291 (by decide +kernel) (by decide +kernel), Or.inl rfl, rfl, by decide +kernel, by decide +kernel, by decide +kernel, by decide +kernel⟩
  | 4, _ => ⟨(RX0, TX0, 2), "PunchedSouls$Hand", rfl, by decide, zGW_at 291 (by decide +kernel) (by decide +kernel), Or.inl rfl, rfl, by decide +kernel, by decide +kernel, by decide +kernel, by decide +kernel⟩
  | 5, _ => ⟨(RX5, TX5, 2), "PunchedSouls$Hand", rfl, by decide, zGW_at 291 (by decide +kernel) (by decide +kernel), Or.inl rfl, rfl, by decide +kernel, by decide +kernel, by decide +kernel, by decide +kernel⟩
  | 6, _ => ⟨(RX9, TX9, 2), "PunchedSouls$Hand", rfl, by decide, zGW_at 291 (by decide +kernel) (by decide +kernel), Or.inl rfl, rfl, by decide +kernel, by decide +kernel, by decide +kernel, by decide +kernel⟩
  | n + 7, h => absurd h (by omega)
theorem fh_X10_40 : ∀ k, k ≤ 6 → zFe RX10 (40, hci k, 1, 0, true)
  | 0, _ => ⟨(RX2, TX2, 2), "PunchedSouls$Hand", rfl, by decide, zGW_at 296 (by decide +kernel) (by decide +kernel), Or.inl rfl, rfl, by decide +kernel, by decide +kernel, by decide +kernel, by decide +kernel⟩
  | 1, _ => ⟨(RX4, TX4, 2), "PunchedSouls$Hand", rfl, by decide, zGW_at 296 (by decide +kernel) (by decide +kernel), Or.inl rfl, rfl, by decide +kernel, by decide +kernel, by decide +kernel, by decide +kernel⟩
  | 2, _ => ⟨(RX3, TX3, 2), "PunchedSouls$Hand", rfl, by decide, zGW_at 296 (by decide +kernel) (by decide +kernel), Or.inl rfl, rfl, by decide +kernel, by decide +kernel, by decide +kernel, by decide +kernel⟩
  | 3, _ => ⟨(RX6, TX6, 2), "PunchedSouls$Hand", rfl, by decide, zGW_at 296 (by decide +kernel) (by decide +kernel), Or.inl rfl, rfl, by decide +kernel, by decide +kernel, by decide +kernel, by decide +kernel⟩
  | 4, _ => ⟨(RX0, TX0, 2), "PunchedSouls$Hand", rfl, by decide, zGW_at 296 (by decide +kernel) (by decide +kernel), Or.inl rfl, rfl, by decide +kernel, by decide +kernel, by decide +kernel, by decide +kernel⟩
  | 5, _ => ⟨(RX5, TX5, 2), "PunchedSouls$Hand", rfl, by decide, zGW_at 296 (by decide +kernel) (by decide +kernel), Or.inl rfl, rfl, by decide +kernel, by decide +kernel, by decide +kernel, by decide +kernel⟩
  | 6, _ => ⟨(RX9, TX9, 2), "PunchedSouls$Hand", rfl, by decide, zGW_at 296 (by decide +kernel) (by decide +kernel), Or.inl rfl, rfl, by decide +kernel, by decide +kernel, by decide +kernel, by decide +kernel⟩
  | n + 7, h => absurd h (by omega)
theorem fh_X11_93 : ∀ k, k ≤ 6 → zFe RX11 (93, hci k, 1, 0, true)
  | 0, _ => ⟨(RX2, TX2, 2), "PunchedSouls$Hand", rfl, by decide, zGW_at 295 (by decide +kernel) (by decide +kernel), Or.inl rfl, rfl, by decide +kernel, by decide +kernel, by decide +kernel, by decide +kernel⟩
  | 1, _ => ⟨(RX4, TX4, 2), "PunchedSouls$Hand", rfl, by decide, zGW_at 295 (by decide +kernel) (by decide +kernel), Or.inl rfl, rfl, by decide +kernel, by decide +kernel, by decide +kernel, by decide +kernel⟩
  | 2, _ => ⟨(RX3, TX3, 2), "PunchedSouls$Hand", rfl, by decide, zGW_at 295 (by decide +kernel) (by decide +kernel), Or.inl rfl, rfl, by decide +kernel, by decide +kernel, by decide +kernel, by decide +kernel⟩
  | 3, _ => ⟨(RX6, TX6, 2), "PunchedSouls$Hand", rfl, by decide, zGW_at 295 (by decide +kernel) (by decide +kernel), Or.inl rfl, rfl, by decide +kernel, by decide +kernel, by decide +kernel, by decide +kernel⟩
  | 4, _ => ⟨(RX0, TX0, 2), "PunchedSouls$Hand", rfl, by decide, zGW_at 295 (by decide +kernel) (by decide +kernel), Or.inl rfl, rfl, by decide +kernel, by decide +kernel, by decide +kernel, by decide +kernel⟩
  | 5, _ => ⟨(RX5, TX5, 2), "PunchedSouls$Hand", rfl, by decide, zGW_at 295 (by decide +kernel) (by decide +kernel), Or.inl rfl, rfl, by decide +kernel, by decide +kernel, by decide +kernel, by decide +kernel⟩
  | 6, _ => ⟨(RX9, TX9, 2), "PunchedSouls$Hand", rfl, by decide, zGW_at 295 (by decide +kernel) (by decide +kernel), Or.inl rfl, rfl, by decide +kernel, by decide +kernel, by decide +kernel, by decide +kernel⟩
  | n + 7, h => absurd h (by omega)
theorem hci_decl : ∀ k, k ≤ 6 → ∀ j, j < 2 → ∀ c : vw_C, vwCl[hci k]? = some c → (c.2.1 j).1 = RX2
  | 0, _, j, hj, c, h => by cases h; match j, hj with | 0, _ => rfl | 1, _ => rfl
  | 1, _, j, hj, c, h => by cases h; match j, hj with | 0, _ => rfl | 1, _ => rfl
  | 2, _, j, hj, c, h => by cases h; match j, hj with | 0, _ => rfl | 1, _ => rfl
  | 3, _, j, hj, c, h => by cases h; match j, hj with | 0, _ => rfl | 1, _ => rfl
  | 4, _, j, hj, c, h => by cases h; match j, hj with | 0, _ => rfl | 1, _ => rfl
  | 5, _, j, hj, c, h => by cases h; match j, hj with | 0, _ => rfl | 1, _ => rfl
  | 6, _, j, hj, c, h => by cases h; match j, hj with | 0, _ => rfl | 1, _ => rfl
  | n + 7, h, _, _, _, _ => absurd h (by omega)
theorem hci_le {k : Nat} (h : k ≤ 6) : 1 ≤ hci k ∧ hci k ≤ 10 := by
  rcases (show k = 0 ∨ k = 1 ∨ k = 2 ∨ k = 3 ∨ k = 4 ∨ k = 5 ∨ k = 6 by omega) with rfl | rfl | rfl | rfl | rfl | rfl | rfl <;> decide
