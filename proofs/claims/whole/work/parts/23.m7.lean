/-! ===== tests, expressions, mood, temper ===== -/
/-- the six facts of a worker p and a card c -/
def fx (g : Gv) (p c f : Nat) : Nat := if f = 0 then p else if f = 1 then c else if f = 2 then gk g p else if f = 3 then gv g p else if f = 4 then pcN (gh g c) 10 else gd g % 10
def tst (g : Gv) (p c t : Nat) : Bool := if t / 100 % 10 = 0 then decide (fx g p c (t / 1000) < t % 100) else if t / 100 % 10 = 1 then decide (fx g p c (t / 1000) = t % 100) else decide (t % 100 < fx g p c (t / 1000))
def evS (g : Gv) (p c : Nat) : List Nat → List Bool → List Bool
  | [], st => st
  | t :: r, st => if t = 0 then (match st with
      | b :: s => evS g p c r ((!b) :: s)
      | s => s) else if t = 1 then (match st with
      | b :: x :: s => evS g p c r ((x && b) :: s)
      | s => s) else if t = 2 then (match st with
      | b :: x :: s => evS g p c r ((x || b) :: s)
      | s => s) else evS g p c r (tst g p c (t - 10) :: st)
/-- whether an expression holds -/
def evE (g : Gv) (p c : Nat) (ts : List Nat) : Bool := (evS g p c ts []).headD false
/-- place i of the pile, from its bottom -/
def pl (st : List Bool) (i : Nat) : Bool := st.getD (st.length - 1 - i) false
theorem pl_top (x : Bool) (st : List Bool) : pl (x :: st) st.length = x := by simp [pl]
theorem pl_low (x : Bool) (st : List Bool) {i : Nat} (h : i < st.length) : pl (x :: st) i = pl st i := by
  unfold pl
  rw [show (x :: st).length - 1 - i = (st.length - 1 - i) + 1 by simp; omega]
  rfl
theorem b2i_t {b : Bool} (h : ¬ b2i b = 0) : b = true := by cases b with
  | true => rfl
  | false => exact absurd rfl h
theorem b2i_f {b : Bool} (h : b2i b = 0) : b = false := by cases b with
  | false => rfl
  | true => exact absurd h (by decide)
theorem i_m1 {n : Nat} (h : 1 ≤ n) : nI n - nI 1 = nI (n - 1) := pk_sub h
theorem i_m1' {n : Nat} (h : 1 ≤ n) : nI n + -nI 1 = nI (n - 1) := by rw [← i_m1 h, Int32.sub_eq_add_neg]
theorem shp_s (t : Nat) (r : List Nat) (n : Nat) : shp (t :: r) n = if t = 0 then (if 1 ≤ n then shp r n else none) else if t = 1 ∨ t = 2 then (if 2 ≤ n then shp r (n - 1) else none) else shp r (n + 1) := rfl
theorem fx_lt {g : Gv} (hg : gwf g) {p c : Nat} (hp : p < gn g) (hc : c < gn g) (f : Nat) : fx g p c f < 100 := by
  have h6 := hg.1
  have h1 := (hg.2.1 p hp)
  have h2 := pcN_le (gh g c) 10
  unfold fx
  repeat' split
  all_goals omega
theorem c_M_factOf (E : zE) (K N : Nat → Nat) (Rf : Nat → Nat → Option Nat) (I : Nat → Nat → Int32) (L : Nat → Nat → Int64) {g : Gv} (hg : gwf g) (hG : mG g I) (hd : gd g < 1000000) {p c f : Nat} (hp : p < gn g) (hc : c < gn g) (hf : f ≤ 5) : zCt E mX12_factOf 2 0 0 (sg K N Rf I L) [.ref 100, .int (nI f), .int (nI p), .int (nI c)] (fun r σ' => σ' = (sg K N Rf I L) ∧ r = some (.int (nI (fx g p c f)))) := by
  have h6 := hg.1
  have cp : (nI p).toNatClampNeg = p := cl (by omega)
  have cc : (nI c).toNatClampNeg = c := cl (by omega)
  have hhc := (hg.2.1 c hc).2.2.2.1
  have hf6 : f = 0 ∨ f = 1 ∨ f = 2 ∨ f = 3 ∨ f = 4 ∨ f = 5 := by omega
  refine z_intro (by decide) (Nat.le_of_ble_eq_true rfl) (fun X hX => ?_)
  refine bk hX lkX12_ok (pc' := 1) [.iload_n 1] (by decide +kernel) (And.intro trivial ?_)
  rcases hf6 with rfl | rfl | rfl | rfl | rfl | rfl
  · refine z_tsw hX 36 (dflt := 64) (lo := 0) (hi := 4) (offs := #[35, 37, 39, 46, 53]) (len := 35) (off := 35) (by decide +kernel) (by decide) (by decide) ?_
    refine bk hX lkX12_ok (pc' := 37) [.iload_n 2] (by decide +kernel) (And.intro trivial ?_)
    exact z_iret hX (by decide +kernel) rfl (rfl) (by decide) (by decide) (⟨rfl, rfl⟩)
  · refine z_tsw hX 38 (dflt := 64) (lo := 0) (hi := 4) (offs := #[35, 37, 39, 46, 53]) (len := 35) (off := 37) (by decide +kernel) (by decide) (by decide) ?_
    refine bk hX lkX12_ok (pc' := 39) [.iload_n 3] (by decide +kernel) (And.intro trivial ?_)
    exact z_iret hX (by decide +kernel) rfl (rfl) (by decide) (by decide) (⟨rfl, rfl⟩)
  · refine z_tsw hX 40 (dflt := 64) (lo := 0) (hi := 4) (offs := #[35, 37, 39, 46, 53]) (len := 35) (off := 39) (by decide +kernel) (by decide) (by decide) ?_
    refine bk hX lkX12_ok (pc' := 46) [.aload_n 0, .getfield 19, .iload_n 2, .iaload] (by decide +kernel) (And.intro (by exact vin 6 (by omega)) (And.intro trivial ?_))
    exact z_iret hX (by decide +kernel) rfl (rfl) (by decide) (by decide) (⟨rfl, by rw [cp]; exact congrArg (fun z => some (Value.int z)) (hG.2.2.2 p hp).1⟩)
  · refine z_tsw hX 47 (dflt := 64) (lo := 0) (hi := 4) (offs := #[35, 37, 39, 46, 53]) (len := 35) (off := 46) (by decide +kernel) (by decide) (by decide) ?_
    refine bk hX lkX12_ok (pc' := 53) [.aload_n 0, .getfield 23, .iload_n 2, .iaload] (by decide +kernel) (And.intro (by exact vin 6 (by omega)) (And.intro trivial ?_))
    exact z_iret hX (by decide +kernel) rfl (rfl) (by decide) (by decide) (⟨rfl, by rw [cp]; exact congrArg (fun z => some (Value.int z)) (hG.2.2.2 p hp).2.1⟩)
  · refine z_tsw hX 54 (dflt := 64) (lo := 0) (hi := 4) (offs := #[35, 37, 39, 46, 53]) (len := 35) (off := 53) (by decide +kernel) (by decide) (by decide) ?_
    refine bk hX lkX12_ok (pc' := 61) [.aload_n 0, .aload_n 0, .getfield 29, .iload_n 3, .iaload] (by decide +kernel) (And.intro (by exact vin 6 (by omega)) (And.intro trivial ?_))
    rw [cc, show I (101 + 6) c = nI (gh g c) from (hG.2.2.2 c hc).2.2.2.1]
    refine z_callV hX kw_X12_299 (c_M_bits E _ rfl hhc) rfl rfl rfl rfl rfl (by decide +kernel) (by decide) (by decide) (by decide) (by decide) (Nat.le_of_ble_eq_true rfl) ?_
    rintro _ _ ⟨rfl, rfl⟩
    exact z_iret hX (by decide +kernel) rfl (rfl) (by decide) (by decide) (⟨rfl, rfl⟩)
  · refine z_tsw hX 65 (dflt := 64) (lo := 0) (hi := 4) (offs := #[35, 37, 39, 46, 53]) (len := 35) (off := 64) (by decide +kernel) (by decide) (by decide) ?_
    refine bk hX lkX12_ok (pc' := 72) [.aload_n 0, .getfield 16, .bipush 10, .irem] (by decide +kernel) (And.intro (by decide) (And.intro trivial ?_))
    exact z_iret hX (by decide +kernel) rfl (rfl) (by decide) (by decide) (⟨rfl, by rw [show I 100 2 = nI (gd g) from hG.2.2.1, i_mod (by omega) (by decide) (by decide)]; rfl⟩)
theorem mG_pile {g : Gv} {I I1 : Nat → Nat → Int32} (hG : mG g I) (h1 : ∀ q, q ≠ 126 → I1 q = I q) : mG g I1 := by
  obtain ⟨a1, a2, a3, a4⟩ := hG
  unfold mG
  rw [h1 100 (by decide), h1 104 (by decide), h1 105 (by decide), h1 106 (by decide), h1 107 (by decide), h1 108 (by decide)]
  exact ⟨a1, a2, a3, a4⟩
set_option maxHeartbeats 4000000 in
theorem c_M_holds (E : zE) (K N : Nat → Nat) (Rf : Nat → Nat → Option Nat) (I : Nat → Nat → Int32) (L : Nat → Nat → Int64) {g : Gv} (hg : gwf g) (hG : mG g I) (hd : gd g < 1000000) {p c i d : Nat} {ts : List Nat} (hp : p < gn g) (hc : c < gn g) (hi : i < 60) (hfr : I 118 i = nI d) (hto : I 119 i = nI (d + ts.length)) (h600 : d + ts.length ≤ 600) (hsg : ∀ j, j < ts.length → I 120 (d + j) = tk2 (ts.getD j 0)) (hok : ts.all tkok = true) (hsh : shp ts 0 = some 1) (hl100 : ts.length ≤ 100) :
    zCt E mX12_holds 3 0 0 (sg K N Rf I L) [.ref 100, .int (nI i), .int (nI p), .int (nI c)] (fun r σ' => ∃ I', σ' = sg K N Rf I' L ∧ (∀ q, q ≠ 126 → I' q = I q) ∧ r = some (.int (b2i (evE g p c ts)))) := by
  have h6 := hg.1
  have ci : (nI i).toNatClampNeg = i := cl (by omega)
  refine z_intro (by decide) (Nat.le_of_ble_eq_true rfl) (fun X hX => ?_)
  have hl : ∀ (rs : List Nat) (j : Nat) (st : List Bool) (I1 : Nat → Nat → Int32), ts.drop j = rs → j + rs.length = ts.length → evS g p c rs st = evS g p c ts [] → shp rs st.length = some 1 → st.length + rs.length ≤ 100 → (∀ q, q ≠ 126 → I1 q = I q) → (∀ k, k < st.length → I1 126 k = b2i (pl st k)) →
      zS X (sg K N Rf I1 L) 0 0 11 [(0, .ref 100), (1, .int (nI i)), (2, .int (nI p)), (3, .int (nI c)), (4, .int (nI st.length)), (5, .int (nI (d + j)))] [] := by
    intro rs
    induction rs with
    | nil =>
      intro j st I1 hdr hj hev hs hle q1 q2
      simp only [List.length_nil, Nat.add_zero] at hj
      have e1 : I1 119 i = nI (d + ts.length) := by rw [q1 _ (by decide)]; exact hto
      have hst1 : st.length = 1 := by simpa [shp] using hs
      have ep : I1 126 0 = b2i (evE g p c ts) := by
        rw [q2 0 (by omega)]
        unfold evE
        rw [← hev]
        match st, hst1 with
        | [x], _ => rfl
      refine bk hX lkX12_ok (pc' := 19) [.iload 5, .aload_n 0, .getfield 65, .iload_n 1, .iaload] (by decide +kernel) (And.intro (by exact vin 60 (by omega)) (And.intro trivial ?_))
      simp only [ci, e1]
      refine ic_ge hX (234) 253 (by decide +kernel) (by decide) (fun c_19 => ?_) (fun c => absurd (nI_le (by omega) (by omega)) c)
      refine bk hX lkX12_ok (pc' := 259) [.aload_n 0, .getfield 86, .iconst 0, .baload] (by decide +kernel) (And.intro (by exact vin 100 (by decide)) (And.intro trivial ?_))
      exact z_iret hX (by decide +kernel) rfl (by show narrow .boolean (.int (I1 126 0)) = .int (I1 126 0); rw [ep]; cases evE g p c ts <;> rfl) (by decide) (by decide) (⟨I1, rfl, q1, congrArg (fun z => some (Value.int z)) ep⟩)
    | cons t rs ih =>
      intro j st I1 hdr hj hev hs hle q1 q2
      simp only [List.length_cons] at hj hle
      have e1 : I1 119 i = nI (d + ts.length) := by rw [q1 _ (by decide)]; exact hto
      have hjl : j < ts.length := by omega
      have h0 : ts[j]? = some t := by
        have h9 : (ts.drop j)[0]? = some t := by rw [hdr]; rfl
        rw [List.getElem?_drop] at h9
        simpa using h9
      have ht : ts.getD j 0 = t := by simp [List.getD, h0]
      have htk := List.all_eq_true.mp hok t (List.mem_of_getElem? h0)
      have hsj : I1 120 (d + j) = tk2 t := by rw [q1 _ (by decide), hsg j hjl, ht]
      have htc : t = 0 ∨ t = 1 ∨ t = 2 ∨ (10 ≤ t ∧ t < 6010 ∧ (t - 10) / 100 % 10 ≤ 2) := by
        simp only [tkok, Bool.or_eq_true, Bool.and_eq_true, decide_eq_true_eq] at htk
        omega
      rcases htc with rfl | rfl | rfl | ⟨ht10, ht6, htm⟩
      · match st, hs, hev, hle, q2 with
        | [], hs, _, _, _ => simp [shp] at hs
        | b :: s, hs, hev, hle, q2 =>
          have hsl : s.length < 100 := by simp only [List.length_cons] at hle; omega
          have cs : (nI s.length).toNatClampNeg = s.length := cl (by omega)
          have htop : I1 126 s.length = b2i b := by rw [q2 _ (by simp), pl_top]
          refine bk hX lkX12_ok (pc' := 19) [.iload 5, .aload_n 0, .getfield 65, .iload_n 1, .iaload] (by decide +kernel) (And.intro (by exact vin 60 (by omega)) (And.intro trivial ?_))
          simp only [ci, e1]
          refine ic_ge hX (234) 253 (by decide +kernel) (by decide) (fun c => absurd c (nI_ge (by omega) (by omega))) (fun c_19 => ?_)
          refine bk hX lkX12_ok (pc' := 31) [.aload_n 0, .getfield 68, .iload 5, .iaload, .istore 6] (by decide +kernel) (And.intro (by exact vin 600 (by omega)) (And.intro trivial ?_))
          rw [cl (by omega), show I1 (101 + 19) (d + j) = _ from hsj]
          refine bk hX lkX12_ok (pc' := 35) [.iload 6, .bipush (Int.negSucc 32)] (by decide +kernel) (And.intro trivial ?_)
          refine ic_ne hX (32) 67 (by decide +kernel) (by decide) (fun c => absurd (rfl) c) (fun c_35 => ?_)
          have en : nI (b :: s).length - nI 1 = nI s.length := i_m1 (by simp)
          refine bk hX lkX12_ok (pc' := 55) [.aload_n 0, .getfield 86, .iload 4, .iconst 1, .isub, .aload_n 0, .getfield 86, .iload 4, .iconst 1, .isub, .baload] (by decide +kernel) (And.intro (by rw [en]; exact vin 100 (by omega)) (And.intro trivial ?_))
          rw [en, cs, show I1 (101 + 25) s.length = _ from htop]
          refine if_ne hX (7) 62 (by decide +kernel) (by decide) (fun c55 => ?_) (fun c55 => ?_)
          · refine bk hX lkX12_ok (pc' := 64) [.iconst 0, .bastore] (by decide +kernel) (And.intro (by exact vin 100 (by omega)) (And.intro trivial ?_))
            refine gt_ hX (183) 247 (by decide +kernel) (by decide) ?_
            refine bk hX lkX12_ok (pc' := 250) [.iinc 5 1] (by decide +kernel) (And.intro trivial ?_)
            refine gt_ hX (-239) 11 (by decide +kernel) (by decide) ?_
            refine z_lvk (lv' := [(0, _), (1, _), (2, _), (3, _), (4, _), (5, _)]) [2, 3, 4, 5, 6, 0] rfl ?_
            simp only [cs, nI_add]
            refine ih (j + 1) ((!b) :: s) _ (by rw [← List.drop_drop, hdr]; rfl) (by omega) (by rw [← hev]; simp [evS]) (by rw [shp_s] at hs; simpa using hs) (by simp only [List.length_cons] at hle ⊢; omega) (fun q hq => ?_) (fun k hk => ?_)
            · rw [up2_ne _ _ _ hq]; exact q1 q hq
            · rw [up2_at]
              by_cases hk2 : k = s.length
              · rw [if_pos hk2, hk2, pl_top]
                first | (rw [b2i_t c55]; rfl) | (rw [b2i_f c55]; rfl)
              · simp only [List.length_cons] at hk
                rw [if_neg hk2, pl_low _ _ (by omega)]
                rw [q2 k (by simp only [List.length_cons]; omega)]
                rw [pl_low _ _ (by omega)]
          · refine bk hX lkX12_ok (pc' := 59) [.iconst 1] (by decide +kernel) (And.intro trivial ?_)
            refine gt_ hX (4) 63 (by decide +kernel) (by decide) ?_
            refine bk hX lkX12_ok (pc' := 64) [.bastore] (by decide +kernel) (And.intro (by exact vin 100 (by omega)) (And.intro trivial ?_))
            refine gt_ hX (183) 247 (by decide +kernel) (by decide) ?_
            refine bk hX lkX12_ok (pc' := 250) [.iinc 5 1] (by decide +kernel) (And.intro trivial ?_)
            refine gt_ hX (-239) 11 (by decide +kernel) (by decide) ?_
            refine z_lvk (lv' := [(0, _), (1, _), (2, _), (3, _), (4, _), (5, _)]) [2, 3, 4, 5, 6, 0] rfl ?_
            simp only [cs, nI_add]
            refine ih (j + 1) ((!b) :: s) _ (by rw [← List.drop_drop, hdr]; rfl) (by omega) (by rw [← hev]; simp [evS]) (by rw [shp_s] at hs; simpa using hs) (by simp only [List.length_cons] at hle ⊢; omega) (fun q hq => ?_) (fun k hk => ?_)
            · rw [up2_ne _ _ _ hq]; exact q1 q hq
            · rw [up2_at]
              by_cases hk2 : k = s.length
              · rw [if_pos hk2, hk2, pl_top]
                first | (rw [b2i_t c55]; rfl) | (rw [b2i_f c55]; rfl)
              · simp only [List.length_cons] at hk
                rw [if_neg hk2, pl_low _ _ (by omega)]
                rw [q2 k (by simp only [List.length_cons]; omega)]
                rw [pl_low _ _ (by omega)]
      · match st, hs, hev, hle, q2 with
        | [], hs, _, _, _ => simp [shp] at hs
        | [_], hs, _, _, _ => simp [shp] at hs
        | b :: x :: s, hs, hev, hle, q2 =>
          have hsl : s.length + 1 < 100 := by simp only [List.length_cons] at hle; omega
          have cs : (nI s.length).toNatClampNeg = s.length := cl (by omega)
          have cs1 : (nI (s.length + 1)).toNatClampNeg = s.length + 1 := cl (by omega)
          have hx : I1 126 s.length = b2i x := by rw [q2 _ (by simp only [List.length_cons]; omega), pl_low _ _ (by simp), pl_top]
          have hbb : I1 126 (s.length + 1) = b2i b := by rw [q2 _ (by simp), show s.length + 1 = (x :: s).length from rfl, pl_top]
          refine bk hX lkX12_ok (pc' := 19) [.iload 5, .aload_n 0, .getfield 65, .iload_n 1, .iaload] (by decide +kernel) (And.intro (by exact vin 60 (by omega)) (And.intro trivial ?_))
          simp only [ci, e1]
          refine ic_ge hX (234) 253 (by decide +kernel) (by decide) (fun c => absurd c (nI_ge (by omega) (by omega))) (fun c_19 => ?_)
          refine bk hX lkX12_ok (pc' := 31) [.aload_n 0, .getfield 68, .iload 5, .iaload, .istore 6] (by decide +kernel) (And.intro (by exact vin 600 (by omega)) (And.intro trivial ?_))
          rw [cl (by omega), show I1 (101 + 19) (d + j) = _ from hsj]
          refine bk hX lkX12_ok (pc' := 35) [.iload 6, .bipush (Int.negSucc 32)] (by decide +kernel) (And.intro trivial ?_)
          refine ic_ne hX (32) 67 (by decide +kernel) (by decide) (fun c_35 => ?_) (fun c => absurd c (by decide))
          refine bk hX lkX12_ok (pc' := 69) [.iload 6] (by decide +kernel) (And.intro trivial ?_)
          refine if_ge hX (82) 151 (by decide +kernel) (by decide) (fun c => absurd c (by decide)) (fun c_69 => ?_)
          refine bk hX lkX12_ok (pc' := 75) [.iinc 4 (Int.negSucc 0)] (by decide +kernel) (And.intro trivial ?_)
          rw [i_m1' (by simp)]
          simp only [List.length_cons, Nat.add_sub_cancel]
          have en : nI (s.length + 1) - nI 1 = nI s.length := i_m1 (by omega)
          refine bk hX lkX12_ok (pc' := 83) [.aload_n 0, .getfield 86, .iload 4, .iconst 1, .isub] (by decide +kernel) (And.intro trivial ?_)
          rw [en]
          refine bk hX lkX12_ok (pc' := 87) [.iload 6, .bipush (Int.negSucc 37)] (by decide +kernel) (And.intro trivial ?_)
          refine ic_ne hX (33) 120 (by decide +kernel) (by decide) (fun c => absurd (rfl) c) (fun c_87 => ?_)
          refine bk hX lkX12_ok (pc' := 99) [.aload_n 0, .getfield 86, .iload 4, .iconst 1, .isub, .baload] (by decide +kernel) (And.intro (by rw [en]; exact vin 100 (by omega)) (And.intro trivial ?_))
          rw [en, cs, show I1 (101 + 25) s.length = _ from hx]
          refine if_eq hX (17) 116 (by decide +kernel) (by decide) (fun cx => ?_) (fun cx => ?_)
          · refine bk hX lkX12_ok (pc' := 117) [.iconst 0] (by decide +kernel) (And.intro trivial ?_)
            refine gt_ hX (30) 147 (by decide +kernel) (by decide) ?_
            refine bk hX lkX12_ok (pc' := 148) [.bastore] (by decide +kernel) (And.intro (by exact vin 100 (by omega)) (And.intro trivial ?_))
            refine gt_ hX (99) 247 (by decide +kernel) (by decide) ?_
            refine bk hX lkX12_ok (pc' := 250) [.iinc 5 1] (by decide +kernel) (And.intro trivial ?_)
            refine gt_ hX (-239) 11 (by decide +kernel) (by decide) ?_
            refine z_lvk (lv' := [(0, _), (1, _), (2, _), (3, _), (4, _), (5, _)]) [3, 4, 5, 6, 1, 0] rfl ?_
            simp only [cs, nI_add]
            refine ih (j + 1) ((x && b) :: s) _ (by rw [← List.drop_drop, hdr]; rfl) (by omega) (by rw [← hev]; simp [evS]) (by rw [shp_s] at hs; simpa using hs) (by simp only [List.length_cons] at hle ⊢; omega) (fun q hq => ?_) (fun k hk => ?_)
            · rw [up2_ne _ _ _ hq]; exact q1 q hq
            · rw [up2_at]
              by_cases hk2 : k = s.length
              · rw [if_pos hk2, hk2, pl_top]
                first | (rw [b2i_t cx, b2i_t cb]; rfl) | (rw [b2i_f cx, b2i_f cb]; rfl) | (rw [b2i_t cx, b2i_f cb]; rfl) | (rw [b2i_f cx, b2i_t cb]; rfl) | (rw [b2i_f cx]; cases b <;> rfl) | (rw [b2i_t cx]; cases b <;> rfl)
              · simp only [List.length_cons] at hk
                rw [if_neg hk2, pl_low _ _ (by omega)]
                rw [q2 k (by simp only [List.length_cons]; omega)]
                rw [pl_low _ _ (by simp only [List.length_cons]; omega), pl_low _ _ (by omega)]
          · refine bk hX lkX12_ok (pc' := 109) [.aload_n 0, .getfield 86, .iload 4, .baload] (by decide +kernel) (And.intro (by exact vin 100 (by omega)) (And.intro trivial ?_))
            rw [cs1, show I1 (101 + 25) (s.length + 1) = _ from hbb]
            refine if_eq hX (7) 116 (by decide +kernel) (by decide) (fun cb => ?_) (fun cb => ?_)
            · refine bk hX lkX12_ok (pc' := 117) [.iconst 0] (by decide +kernel) (And.intro trivial ?_)
              refine gt_ hX (30) 147 (by decide +kernel) (by decide) ?_
              refine bk hX lkX12_ok (pc' := 148) [.bastore] (by decide +kernel) (And.intro (by exact vin 100 (by omega)) (And.intro trivial ?_))
              refine gt_ hX (99) 247 (by decide +kernel) (by decide) ?_
              refine bk hX lkX12_ok (pc' := 250) [.iinc 5 1] (by decide +kernel) (And.intro trivial ?_)
              refine gt_ hX (-239) 11 (by decide +kernel) (by decide) ?_
              refine z_lvk (lv' := [(0, _), (1, _), (2, _), (3, _), (4, _), (5, _)]) [3, 4, 5, 6, 1, 0] rfl ?_
              simp only [cs, nI_add]
              refine ih (j + 1) ((x && b) :: s) _ (by rw [← List.drop_drop, hdr]; rfl) (by omega) (by rw [← hev]; simp [evS]) (by rw [shp_s] at hs; simpa using hs) (by simp only [List.length_cons] at hle ⊢; omega) (fun q hq => ?_) (fun k hk => ?_)
              · rw [up2_ne _ _ _ hq]; exact q1 q hq
              · rw [up2_at]
                by_cases hk2 : k = s.length
                · rw [if_pos hk2, hk2, pl_top]
                  first | (rw [b2i_t cx, b2i_t cb]; rfl) | (rw [b2i_f cx, b2i_f cb]; rfl) | (rw [b2i_t cx, b2i_f cb]; rfl) | (rw [b2i_f cx, b2i_t cb]; rfl) | (rw [b2i_f cx]; cases b <;> rfl) | (rw [b2i_t cx]; cases b <;> rfl)
                · simp only [List.length_cons] at hk
                  rw [if_neg hk2, pl_low _ _ (by omega)]
                  rw [q2 k (by simp only [List.length_cons]; omega)]
                  rw [pl_low _ _ (by simp only [List.length_cons]; omega), pl_low _ _ (by omega)]
            · refine bk hX lkX12_ok (pc' := 113) [.iconst 1] (by decide +kernel) (And.intro trivial ?_)
              refine gt_ hX (34) 147 (by decide +kernel) (by decide) ?_
              refine bk hX lkX12_ok (pc' := 148) [.bastore] (by decide +kernel) (And.intro (by exact vin 100 (by omega)) (And.intro trivial ?_))
              refine gt_ hX (99) 247 (by decide +kernel) (by decide) ?_
              refine bk hX lkX12_ok (pc' := 250) [.iinc 5 1] (by decide +kernel) (And.intro trivial ?_)
              refine gt_ hX (-239) 11 (by decide +kernel) (by decide) ?_
              refine z_lvk (lv' := [(0, _), (1, _), (2, _), (3, _), (4, _), (5, _)]) [3, 4, 5, 6, 1, 0] rfl ?_
              simp only [cs, nI_add]
              refine ih (j + 1) ((x && b) :: s) _ (by rw [← List.drop_drop, hdr]; rfl) (by omega) (by rw [← hev]; simp [evS]) (by rw [shp_s] at hs; simpa using hs) (by simp only [List.length_cons] at hle ⊢; omega) (fun q hq => ?_) (fun k hk => ?_)
              · rw [up2_ne _ _ _ hq]; exact q1 q hq
              · rw [up2_at]
                by_cases hk2 : k = s.length
                · rw [if_pos hk2, hk2, pl_top]
                  first | (rw [b2i_t cx, b2i_t cb]; rfl) | (rw [b2i_f cx, b2i_f cb]; rfl) | (rw [b2i_t cx, b2i_f cb]; rfl) | (rw [b2i_f cx, b2i_t cb]; rfl) | (rw [b2i_f cx]; cases b <;> rfl) | (rw [b2i_t cx]; cases b <;> rfl)
                · simp only [List.length_cons] at hk
                  rw [if_neg hk2, pl_low _ _ (by omega)]
                  rw [q2 k (by simp only [List.length_cons]; omega)]
                  rw [pl_low _ _ (by simp only [List.length_cons]; omega), pl_low _ _ (by omega)]
      · match st, hs, hev, hle, q2 with
        | [], hs, _, _, _ => simp [shp] at hs
        | [_], hs, _, _, _ => simp [shp] at hs
        | b :: x :: s, hs, hev, hle, q2 =>
          have hsl : s.length + 1 < 100 := by simp only [List.length_cons] at hle; omega
          have cs : (nI s.length).toNatClampNeg = s.length := cl (by omega)
          have cs1 : (nI (s.length + 1)).toNatClampNeg = s.length + 1 := cl (by omega)
          have hx : I1 126 s.length = b2i x := by rw [q2 _ (by simp only [List.length_cons]; omega), pl_low _ _ (by simp), pl_top]
          have hbb : I1 126 (s.length + 1) = b2i b := by rw [q2 _ (by simp), show s.length + 1 = (x :: s).length from rfl, pl_top]
          refine bk hX lkX12_ok (pc' := 19) [.iload 5, .aload_n 0, .getfield 65, .iload_n 1, .iaload] (by decide +kernel) (And.intro (by exact vin 60 (by omega)) (And.intro trivial ?_))
          simp only [ci, e1]
          refine ic_ge hX (234) 253 (by decide +kernel) (by decide) (fun c => absurd c (nI_ge (by omega) (by omega))) (fun c_19 => ?_)
          refine bk hX lkX12_ok (pc' := 31) [.aload_n 0, .getfield 68, .iload 5, .iaload, .istore 6] (by decide +kernel) (And.intro (by exact vin 600 (by omega)) (And.intro trivial ?_))
          rw [cl (by omega), show I1 (101 + 19) (d + j) = _ from hsj]
          refine bk hX lkX12_ok (pc' := 35) [.iload 6, .bipush (Int.negSucc 32)] (by decide +kernel) (And.intro trivial ?_)
          refine ic_ne hX (32) 67 (by decide +kernel) (by decide) (fun c_35 => ?_) (fun c => absurd c (by decide))
          refine bk hX lkX12_ok (pc' := 69) [.iload 6] (by decide +kernel) (And.intro trivial ?_)
          refine if_ge hX (82) 151 (by decide +kernel) (by decide) (fun c => absurd c (by decide)) (fun c_69 => ?_)
          refine bk hX lkX12_ok (pc' := 75) [.iinc 4 (Int.negSucc 0)] (by decide +kernel) (And.intro trivial ?_)
          rw [i_m1' (by simp)]
          simp only [List.length_cons, Nat.add_sub_cancel]
          have en : nI (s.length + 1) - nI 1 = nI s.length := i_m1 (by omega)
          refine bk hX lkX12_ok (pc' := 83) [.aload_n 0, .getfield 86, .iload 4, .iconst 1, .isub] (by decide +kernel) (And.intro trivial ?_)
          rw [en]
          refine bk hX lkX12_ok (pc' := 87) [.iload 6, .bipush (Int.negSucc 37)] (by decide +kernel) (And.intro trivial ?_)
          refine ic_ne hX (33) 120 (by decide +kernel) (by decide) (fun c_87 => ?_) (fun c => absurd c (by decide))
          refine bk hX lkX12_ok (pc' := 129) [.aload_n 0, .getfield 86, .iload 4, .iconst 1, .isub, .baload] (by decide +kernel) (And.intro (by rw [en]; exact vin 100 (by omega)) (And.intro trivial ?_))
          rw [en, cs, show I1 (101 + 25) s.length = _ from hx]
          refine if_ne hX (13) 142 (by decide +kernel) (by decide) (fun cx => ?_) (fun cx => ?_)
          · refine bk hX lkX12_ok (pc' := 143) [.iconst 1] (by decide +kernel) (And.intro trivial ?_)
            refine gt_ hX (4) 147 (by decide +kernel) (by decide) ?_
            refine bk hX lkX12_ok (pc' := 148) [.bastore] (by decide +kernel) (And.intro (by exact vin 100 (by omega)) (And.intro trivial ?_))
            refine gt_ hX (99) 247 (by decide +kernel) (by decide) ?_
            refine bk hX lkX12_ok (pc' := 250) [.iinc 5 1] (by decide +kernel) (And.intro trivial ?_)
            refine gt_ hX (-239) 11 (by decide +kernel) (by decide) ?_
            refine z_lvk (lv' := [(0, _), (1, _), (2, _), (3, _), (4, _), (5, _)]) [3, 4, 5, 6, 1, 0] rfl ?_
            simp only [cs, nI_add]
            refine ih (j + 1) ((x || b) :: s) _ (by rw [← List.drop_drop, hdr]; rfl) (by omega) (by rw [← hev]; simp [evS]) (by rw [shp_s] at hs; simpa using hs) (by simp only [List.length_cons] at hle ⊢; omega) (fun q hq => ?_) (fun k hk => ?_)
            · rw [up2_ne _ _ _ hq]; exact q1 q hq
            · rw [up2_at]
              by_cases hk2 : k = s.length
              · rw [if_pos hk2, hk2, pl_top]
                first | (rw [b2i_t cx, b2i_t cb]; rfl) | (rw [b2i_f cx, b2i_f cb]; rfl) | (rw [b2i_t cx, b2i_f cb]; rfl) | (rw [b2i_f cx, b2i_t cb]; rfl) | (rw [b2i_f cx]; cases b <;> rfl) | (rw [b2i_t cx]; cases b <;> rfl)
              · simp only [List.length_cons] at hk
                rw [if_neg hk2, pl_low _ _ (by omega)]
                rw [q2 k (by simp only [List.length_cons]; omega)]
                rw [pl_low _ _ (by simp only [List.length_cons]; omega), pl_low _ _ (by omega)]
          · refine bk hX lkX12_ok (pc' := 139) [.aload_n 0, .getfield 86, .iload 4, .baload] (by decide +kernel) (And.intro (by exact vin 100 (by omega)) (And.intro trivial ?_))
            rw [cs1, show I1 (101 + 25) (s.length + 1) = _ from hbb]
            refine if_eq hX (7) 146 (by decide +kernel) (by decide) (fun cb => ?_) (fun cb => ?_)
            · refine bk hX lkX12_ok (pc' := 148) [.iconst 0, .bastore] (by decide +kernel) (And.intro (by exact vin 100 (by omega)) (And.intro trivial ?_))
              refine gt_ hX (99) 247 (by decide +kernel) (by decide) ?_
              refine bk hX lkX12_ok (pc' := 250) [.iinc 5 1] (by decide +kernel) (And.intro trivial ?_)
              refine gt_ hX (-239) 11 (by decide +kernel) (by decide) ?_
              refine z_lvk (lv' := [(0, _), (1, _), (2, _), (3, _), (4, _), (5, _)]) [3, 4, 5, 6, 1, 0] rfl ?_
              simp only [cs, nI_add]
              refine ih (j + 1) ((x || b) :: s) _ (by rw [← List.drop_drop, hdr]; rfl) (by omega) (by rw [← hev]; simp [evS]) (by rw [shp_s] at hs; simpa using hs) (by simp only [List.length_cons] at hle ⊢; omega) (fun q hq => ?_) (fun k hk => ?_)
              · rw [up2_ne _ _ _ hq]; exact q1 q hq
              · rw [up2_at]
                by_cases hk2 : k = s.length
                · rw [if_pos hk2, hk2, pl_top]
                  first | (rw [b2i_t cx, b2i_t cb]; rfl) | (rw [b2i_f cx, b2i_f cb]; rfl) | (rw [b2i_t cx, b2i_f cb]; rfl) | (rw [b2i_f cx, b2i_t cb]; rfl) | (rw [b2i_f cx]; cases b <;> rfl) | (rw [b2i_t cx]; cases b <;> rfl)
                · simp only [List.length_cons] at hk
                  rw [if_neg hk2, pl_low _ _ (by omega)]
                  rw [q2 k (by simp only [List.length_cons]; omega)]
                  rw [pl_low _ _ (by simp only [List.length_cons]; omega), pl_low _ _ (by omega)]
            · refine bk hX lkX12_ok (pc' := 143) [.iconst 1] (by decide +kernel) (And.intro trivial ?_)
              refine gt_ hX (4) 147 (by decide +kernel) (by decide) ?_
              refine bk hX lkX12_ok (pc' := 148) [.bastore] (by decide +kernel) (And.intro (by exact vin 100 (by omega)) (And.intro trivial ?_))
              refine gt_ hX (99) 247 (by decide +kernel) (by decide) ?_
              refine bk hX lkX12_ok (pc' := 250) [.iinc 5 1] (by decide +kernel) (And.intro trivial ?_)
              refine gt_ hX (-239) 11 (by decide +kernel) (by decide) ?_
              refine z_lvk (lv' := [(0, _), (1, _), (2, _), (3, _), (4, _), (5, _)]) [3, 4, 5, 6, 1, 0] rfl ?_
              simp only [cs, nI_add]
              refine ih (j + 1) ((x || b) :: s) _ (by rw [← List.drop_drop, hdr]; rfl) (by omega) (by rw [← hev]; simp [evS]) (by rw [shp_s] at hs; simpa using hs) (by simp only [List.length_cons] at hle ⊢; omega) (fun q hq => ?_) (fun k hk => ?_)
              · rw [up2_ne _ _ _ hq]; exact q1 q hq
              · rw [up2_at]
                by_cases hk2 : k = s.length
                · rw [if_pos hk2, hk2, pl_top]
                  first | (rw [b2i_t cx, b2i_t cb]; rfl) | (rw [b2i_f cx, b2i_f cb]; rfl) | (rw [b2i_t cx, b2i_f cb]; rfl) | (rw [b2i_f cx, b2i_t cb]; rfl) | (rw [b2i_f cx]; cases b <;> rfl) | (rw [b2i_t cx]; cases b <;> rfl)
                · simp only [List.length_cons] at hk
                  rw [if_neg hk2, pl_low _ _ (by omega)]
                  rw [q2 k (by simp only [List.length_cons]; omega)]
                  rw [pl_low _ _ (by simp only [List.length_cons]; omega), pl_low _ _ (by omega)]
      · have htk2 : tk2 t = nI (t - 10) := by unfold tk2; rw [if_neg (by omega), if_neg (by omega), if_neg (by omega)]
        rw [htk2] at hsj
        refine bk hX lkX12_ok (pc' := 19) [.iload 5, .aload_n 0, .getfield 65, .iload_n 1, .iaload] (by decide +kernel) (And.intro (by exact vin 60 (by omega)) (And.intro trivial ?_))
        simp only [ci, e1]
        refine ic_ge hX (234) 253 (by decide +kernel) (by decide) (fun c => absurd c (nI_ge (by omega) (by omega))) (fun c_19 => ?_)
        refine bk hX lkX12_ok (pc' := 31) [.aload_n 0, .getfield 68, .iload 5, .iaload, .istore 6] (by decide +kernel) (And.intro (by exact vin 600 (by omega)) (And.intro trivial ?_))
        rw [cl (by omega), show I1 (101 + 19) (d + j) = _ from hsj]
        refine bk hX lkX12_ok (pc' := 35) [.iload 6, .bipush (Int.negSucc 32)] (by decide +kernel) (And.intro trivial ?_)
        refine ic_ne hX (32) 67 (by decide +kernel) (by decide) (fun c_35 => ?_) (fun c => absurd c (fun z => absurd (show (0 : Int32) ≤ -nI 33 by rw [← z]; exact nI_pos' (by omega)) (by decide)))
        refine bk hX lkX12_ok (pc' := 69) [.iload 6] (by decide +kernel) (And.intro trivial ?_)
        refine if_ge hX (82) 151 (by decide +kernel) (by decide) (fun c_69 => ?_) (fun c => absurd (nI_pos' (by omega)) c)
        refine bk hX lkX12_ok (pc' := 160) [.aload_n 0, .iload 6, .sipush 1000, .idiv, .iload_n 2, .iload_n 3] (by decide +kernel) (And.intro (by decide) (And.intro trivial ?_))
        rw [i_div (a := t - 10) (d := 1000) (by omega) (by decide) (by decide)]
        refine z_callV hX kw_X12_302 (c_M_factOf E K N Rf I1 L hg (mG_pile hG q1) hd hp hc (f := (t - 10) / 1000) (by omega)) rfl rfl rfl rfl rfl (by decide +kernel) (by decide) (by decide) (by decide) (by decide) (Nat.le_of_ble_eq_true rfl) ?_
        rintro _ _ ⟨rfl, rfl⟩
        refine bk hX lkX12_ok (pc' := 175) [.istore 7, .iload 6, .bipush 100, .idiv, .bipush 10, .irem, .istore 8] (by decide +kernel) (And.intro (by decide) (And.intro (by decide) (And.intro trivial ?_)))
        rw [i_div (a := t - 10) (d := 100) (by omega) (by decide) (by decide), i_mod (a := (t - 10) / 100) (d := 10) (by omega) (by decide) (by decide)]
        refine bk hX lkX12_ok (pc' := 183) [.aload_n 0, .getfield 86, .iload 4, .iload 8] (by decide +kernel) (And.intro trivial ?_)
        refine if_ne hX (21) 204 (by decide +kernel) (by decide) (fun cm => ?_) (fun cm => ?_)
        · refine bk hX lkX12_ok (pc' := 207) [.iload 8, .iconst 1] (by decide +kernel) (And.intro trivial ?_)
          refine ic_ne hX (21) 228 (by decide +kernel) (by decide) (fun cm2 => ?_) (fun cm2 => ?_)
          · refine bk hX lkX12_ok (pc' := 235) [.iload 7, .iload 6, .bipush 100, .irem] (by decide +kernel) (And.intro (by decide) (And.intro trivial ?_))
            rw [i_mod (a := t - 10) (d := 100) (by omega) (by decide) (by decide)]
            refine ic_le hX (7) 242 (by decide +kernel) (by decide) (fun cr => ?_) (fun cr => ?_)
            · refine bk hX lkX12_ok (pc' := 250) [.iconst 0, .bastore, .iinc 4 1, .iinc 5 1] (by decide +kernel) (And.intro (by exact vin 100 (by omega)) (And.intro trivial ?_))
              refine gt_ hX (-239) 11 (by decide +kernel) (by decide) ?_
              refine z_lvk (lv' := [(0, _), (1, _), (2, _), (3, _), (4, _), (5, _)]) [5, 6, 7, 8, 1, 0] rfl ?_
              simp only [cl (show st.length < 2 ^ 31 by omega), nI_add]
              refine ih (j + 1) (tst g p c (t - 10) :: st) _ (by rw [← List.drop_drop, hdr]; rfl) (by omega) (by rw [← hev]; simp [evS, show ¬ t = 0 by omega, show ¬ t = 1 by omega, show ¬ t = 2 by omega]) (by rw [shp_s, if_neg (by omega), if_neg (by omega)] at hs; exact hs) (by simp only [List.length_cons]; omega) (fun q hq => ?_) (fun k hk => ?_)
              · rw [up2_ne _ _ _ hq]; exact q1 q hq
              · rw [up2_at]
                by_cases hk2 : k = st.length
                · rw [if_pos hk2, hk2, pl_top]
                  have hfl := fx_lt hg hp hc ((t - 10) / 1000)
                  have hm0 : (t - 10) / 100 % 10 < 2 ^ 31 := by omega
                  unfold tst
                  first
                    | (rw [if_pos (nI_inj hm0 (by decide) cm), decide_eq_true ((nI_ltI (by omega) (by omega)).mp (i_nle.mp cr))]; rfl)
                    | (rw [if_pos (nI_inj hm0 (by decide) cm), decide_eq_false (fun z => absurd cr (i_nle.mpr (nI_lt z (by omega))))]; rfl)
                    | (rw [if_neg (fun z => cm (by rw [z]; rfl)), if_pos (nI_inj hm0 (by decide) cm2), decide_eq_true (nI_inj (by omega) (by omega) cr)]; rfl)
                    | (rw [if_neg (fun z => cm (by rw [z]; rfl)), if_pos (nI_inj hm0 (by decide) cm2), decide_eq_false (fun z => cr (by rw [z]))]; rfl)
                    | (rw [if_neg (fun z => cm (by rw [z]; rfl)), if_neg (fun z => cm2 (by rw [z])), decide_eq_true ((nI_ltI (by omega) (by omega)).mp (i_nle.mp cr))]; rfl)
                    | (rw [if_neg (fun z => cm (by rw [z]; rfl)), if_neg (fun z => cm2 (by rw [z])), decide_eq_false (fun z => absurd cr (i_nle.mpr (nI_lt z (by omega))))]; rfl)
                · simp only [List.length_cons] at hk
                  rw [if_neg hk2, pl_low _ _ (by omega)]
                  exact q2 k (by omega)
            · refine bk hX lkX12_ok (pc' := 239) [.iconst 1] (by decide +kernel) (And.intro trivial ?_)
              refine gt_ hX (4) 243 (by decide +kernel) (by decide) ?_
              refine bk hX lkX12_ok (pc' := 250) [.bastore, .iinc 4 1, .iinc 5 1] (by decide +kernel) (And.intro (by exact vin 100 (by omega)) (And.intro trivial ?_))
              refine gt_ hX (-239) 11 (by decide +kernel) (by decide) ?_
              refine z_lvk (lv' := [(0, _), (1, _), (2, _), (3, _), (4, _), (5, _)]) [5, 6, 7, 8, 1, 0] rfl ?_
              simp only [cl (show st.length < 2 ^ 31 by omega), nI_add]
              refine ih (j + 1) (tst g p c (t - 10) :: st) _ (by rw [← List.drop_drop, hdr]; rfl) (by omega) (by rw [← hev]; simp [evS, show ¬ t = 0 by omega, show ¬ t = 1 by omega, show ¬ t = 2 by omega]) (by rw [shp_s, if_neg (by omega), if_neg (by omega)] at hs; exact hs) (by simp only [List.length_cons]; omega) (fun q hq => ?_) (fun k hk => ?_)
              · rw [up2_ne _ _ _ hq]; exact q1 q hq
              · rw [up2_at]
                by_cases hk2 : k = st.length
                · rw [if_pos hk2, hk2, pl_top]
                  have hfl := fx_lt hg hp hc ((t - 10) / 1000)
                  have hm0 : (t - 10) / 100 % 10 < 2 ^ 31 := by omega
                  unfold tst
                  first
                    | (rw [if_pos (nI_inj hm0 (by decide) cm), decide_eq_true ((nI_ltI (by omega) (by omega)).mp (i_nle.mp cr))]; rfl)
                    | (rw [if_pos (nI_inj hm0 (by decide) cm), decide_eq_false (fun z => absurd cr (i_nle.mpr (nI_lt z (by omega))))]; rfl)
                    | (rw [if_neg (fun z => cm (by rw [z]; rfl)), if_pos (nI_inj hm0 (by decide) cm2), decide_eq_true (nI_inj (by omega) (by omega) cr)]; rfl)
                    | (rw [if_neg (fun z => cm (by rw [z]; rfl)), if_pos (nI_inj hm0 (by decide) cm2), decide_eq_false (fun z => cr (by rw [z]))]; rfl)
                    | (rw [if_neg (fun z => cm (by rw [z]; rfl)), if_neg (fun z => cm2 (by rw [z])), decide_eq_true ((nI_ltI (by omega) (by omega)).mp (i_nle.mp cr))]; rfl)
                    | (rw [if_neg (fun z => cm (by rw [z]; rfl)), if_neg (fun z => cm2 (by rw [z])), decide_eq_false (fun z => absurd cr (i_nle.mpr (nI_lt z (by omega))))]; rfl)
                · simp only [List.length_cons] at hk
                  rw [if_neg hk2, pl_low _ _ (by omega)]
                  exact q2 k (by omega)
          · refine bk hX lkX12_ok (pc' := 217) [.iload 7, .iload 6, .bipush 100, .irem] (by decide +kernel) (And.intro (by decide) (And.intro trivial ?_))
            rw [i_mod (a := t - 10) (d := 100) (by omega) (by decide) (by decide)]
            refine ic_ne hX (7) 224 (by decide +kernel) (by decide) (fun cr => ?_) (fun cr => ?_)
            · refine bk hX lkX12_ok (pc' := 225) [.iconst 0] (by decide +kernel) (And.intro trivial ?_)
              refine gt_ hX (18) 243 (by decide +kernel) (by decide) ?_
              refine bk hX lkX12_ok (pc' := 250) [.bastore, .iinc 4 1, .iinc 5 1] (by decide +kernel) (And.intro (by exact vin 100 (by omega)) (And.intro trivial ?_))
              refine gt_ hX (-239) 11 (by decide +kernel) (by decide) ?_
              refine z_lvk (lv' := [(0, _), (1, _), (2, _), (3, _), (4, _), (5, _)]) [5, 6, 7, 8, 1, 0] rfl ?_
              simp only [cl (show st.length < 2 ^ 31 by omega), nI_add]
              refine ih (j + 1) (tst g p c (t - 10) :: st) _ (by rw [← List.drop_drop, hdr]; rfl) (by omega) (by rw [← hev]; simp [evS, show ¬ t = 0 by omega, show ¬ t = 1 by omega, show ¬ t = 2 by omega]) (by rw [shp_s, if_neg (by omega), if_neg (by omega)] at hs; exact hs) (by simp only [List.length_cons]; omega) (fun q hq => ?_) (fun k hk => ?_)
              · rw [up2_ne _ _ _ hq]; exact q1 q hq
              · rw [up2_at]
                by_cases hk2 : k = st.length
                · rw [if_pos hk2, hk2, pl_top]
                  have hfl := fx_lt hg hp hc ((t - 10) / 1000)
                  have hm0 : (t - 10) / 100 % 10 < 2 ^ 31 := by omega
                  unfold tst
                  first
                    | (rw [if_pos (nI_inj hm0 (by decide) cm), decide_eq_true ((nI_ltI (by omega) (by omega)).mp (i_nle.mp cr))]; rfl)
                    | (rw [if_pos (nI_inj hm0 (by decide) cm), decide_eq_false (fun z => absurd cr (i_nle.mpr (nI_lt z (by omega))))]; rfl)
                    | (rw [if_neg (fun z => cm (by rw [z]; rfl)), if_pos (nI_inj hm0 (by decide) cm2), decide_eq_true (nI_inj (by omega) (by omega) cr)]; rfl)
                    | (rw [if_neg (fun z => cm (by rw [z]; rfl)), if_pos (nI_inj hm0 (by decide) cm2), decide_eq_false (fun z => cr (by rw [z]))]; rfl)
                    | (rw [if_neg (fun z => cm (by rw [z]; rfl)), if_neg (fun z => cm2 (by rw [z])), decide_eq_true ((nI_ltI (by omega) (by omega)).mp (i_nle.mp cr))]; rfl)
                    | (rw [if_neg (fun z => cm (by rw [z]; rfl)), if_neg (fun z => cm2 (by rw [z])), decide_eq_false (fun z => absurd cr (i_nle.mpr (nI_lt z (by omega))))]; rfl)
                · simp only [List.length_cons] at hk
                  rw [if_neg hk2, pl_low _ _ (by omega)]
                  exact q2 k (by omega)
            · refine bk hX lkX12_ok (pc' := 221) [.iconst 1] (by decide +kernel) (And.intro trivial ?_)
              refine gt_ hX (22) 243 (by decide +kernel) (by decide) ?_
              refine bk hX lkX12_ok (pc' := 250) [.bastore, .iinc 4 1, .iinc 5 1] (by decide +kernel) (And.intro (by exact vin 100 (by omega)) (And.intro trivial ?_))
              refine gt_ hX (-239) 11 (by decide +kernel) (by decide) ?_
              refine z_lvk (lv' := [(0, _), (1, _), (2, _), (3, _), (4, _), (5, _)]) [5, 6, 7, 8, 1, 0] rfl ?_
              simp only [cl (show st.length < 2 ^ 31 by omega), nI_add]
              refine ih (j + 1) (tst g p c (t - 10) :: st) _ (by rw [← List.drop_drop, hdr]; rfl) (by omega) (by rw [← hev]; simp [evS, show ¬ t = 0 by omega, show ¬ t = 1 by omega, show ¬ t = 2 by omega]) (by rw [shp_s, if_neg (by omega), if_neg (by omega)] at hs; exact hs) (by simp only [List.length_cons]; omega) (fun q hq => ?_) (fun k hk => ?_)
              · rw [up2_ne _ _ _ hq]; exact q1 q hq
              · rw [up2_at]
                by_cases hk2 : k = st.length
                · rw [if_pos hk2, hk2, pl_top]
                  have hfl := fx_lt hg hp hc ((t - 10) / 1000)
                  have hm0 : (t - 10) / 100 % 10 < 2 ^ 31 := by omega
                  unfold tst
                  first
                    | (rw [if_pos (nI_inj hm0 (by decide) cm), decide_eq_true ((nI_ltI (by omega) (by omega)).mp (i_nle.mp cr))]; rfl)
                    | (rw [if_pos (nI_inj hm0 (by decide) cm), decide_eq_false (fun z => absurd cr (i_nle.mpr (nI_lt z (by omega))))]; rfl)
                    | (rw [if_neg (fun z => cm (by rw [z]; rfl)), if_pos (nI_inj hm0 (by decide) cm2), decide_eq_true (nI_inj (by omega) (by omega) cr)]; rfl)
                    | (rw [if_neg (fun z => cm (by rw [z]; rfl)), if_pos (nI_inj hm0 (by decide) cm2), decide_eq_false (fun z => cr (by rw [z]))]; rfl)
                    | (rw [if_neg (fun z => cm (by rw [z]; rfl)), if_neg (fun z => cm2 (by rw [z])), decide_eq_true ((nI_ltI (by omega) (by omega)).mp (i_nle.mp cr))]; rfl)
                    | (rw [if_neg (fun z => cm (by rw [z]; rfl)), if_neg (fun z => cm2 (by rw [z])), decide_eq_false (fun z => absurd cr (i_nle.mpr (nI_lt z (by omega))))]; rfl)
                · simp only [List.length_cons] at hk
                  rw [if_neg hk2, pl_low _ _ (by omega)]
                  exact q2 k (by omega)
        · refine bk hX lkX12_ok (pc' := 193) [.iload 7, .iload 6, .bipush 100, .irem] (by decide +kernel) (And.intro (by decide) (And.intro trivial ?_))
          rw [i_mod (a := t - 10) (d := 100) (by omega) (by decide) (by decide)]
          refine ic_ge hX (7) 200 (by decide +kernel) (by decide) (fun cr => ?_) (fun cr => ?_)
          · refine bk hX lkX12_ok (pc' := 201) [.iconst 0] (by decide +kernel) (And.intro trivial ?_)
            refine gt_ hX (42) 243 (by decide +kernel) (by decide) ?_
            refine bk hX lkX12_ok (pc' := 250) [.bastore, .iinc 4 1, .iinc 5 1] (by decide +kernel) (And.intro (by exact vin 100 (by omega)) (And.intro trivial ?_))
            refine gt_ hX (-239) 11 (by decide +kernel) (by decide) ?_
            refine z_lvk (lv' := [(0, _), (1, _), (2, _), (3, _), (4, _), (5, _)]) [5, 6, 7, 8, 1, 0] rfl ?_
            simp only [cl (show st.length < 2 ^ 31 by omega), nI_add]
            refine ih (j + 1) (tst g p c (t - 10) :: st) _ (by rw [← List.drop_drop, hdr]; rfl) (by omega) (by rw [← hev]; simp [evS, show ¬ t = 0 by omega, show ¬ t = 1 by omega, show ¬ t = 2 by omega]) (by rw [shp_s, if_neg (by omega), if_neg (by omega)] at hs; exact hs) (by simp only [List.length_cons]; omega) (fun q hq => ?_) (fun k hk => ?_)
            · rw [up2_ne _ _ _ hq]; exact q1 q hq
            · rw [up2_at]
              by_cases hk2 : k = st.length
              · rw [if_pos hk2, hk2, pl_top]
                have hfl := fx_lt hg hp hc ((t - 10) / 1000)
                have hm0 : (t - 10) / 100 % 10 < 2 ^ 31 := by omega
                unfold tst
                first
                  | (rw [if_pos (nI_inj hm0 (by decide) cm), decide_eq_true ((nI_ltI (by omega) (by omega)).mp (i_nle.mp cr))]; rfl)
                  | (rw [if_pos (nI_inj hm0 (by decide) cm), decide_eq_false (fun z => absurd cr (i_nle.mpr (nI_lt z (by omega))))]; rfl)
                  | (rw [if_neg (fun z => cm (by rw [z]; rfl)), if_pos (nI_inj hm0 (by decide) cm2), decide_eq_true (nI_inj (by omega) (by omega) cr)]; rfl)
                  | (rw [if_neg (fun z => cm (by rw [z]; rfl)), if_pos (nI_inj hm0 (by decide) cm2), decide_eq_false (fun z => cr (by rw [z]))]; rfl)
                  | (rw [if_neg (fun z => cm (by rw [z]; rfl)), if_neg (fun z => cm2 (by rw [z])), decide_eq_true ((nI_ltI (by omega) (by omega)).mp (i_nle.mp cr))]; rfl)
                  | (rw [if_neg (fun z => cm (by rw [z]; rfl)), if_neg (fun z => cm2 (by rw [z])), decide_eq_false (fun z => absurd cr (i_nle.mpr (nI_lt z (by omega))))]; rfl)
              · simp only [List.length_cons] at hk
                rw [if_neg hk2, pl_low _ _ (by omega)]
                exact q2 k (by omega)
          · refine bk hX lkX12_ok (pc' := 197) [.iconst 1] (by decide +kernel) (And.intro trivial ?_)
            refine gt_ hX (46) 243 (by decide +kernel) (by decide) ?_
            refine bk hX lkX12_ok (pc' := 250) [.bastore, .iinc 4 1, .iinc 5 1] (by decide +kernel) (And.intro (by exact vin 100 (by omega)) (And.intro trivial ?_))
            refine gt_ hX (-239) 11 (by decide +kernel) (by decide) ?_
            refine z_lvk (lv' := [(0, _), (1, _), (2, _), (3, _), (4, _), (5, _)]) [5, 6, 7, 8, 1, 0] rfl ?_
            simp only [cl (show st.length < 2 ^ 31 by omega), nI_add]
            refine ih (j + 1) (tst g p c (t - 10) :: st) _ (by rw [← List.drop_drop, hdr]; rfl) (by omega) (by rw [← hev]; simp [evS, show ¬ t = 0 by omega, show ¬ t = 1 by omega, show ¬ t = 2 by omega]) (by rw [shp_s, if_neg (by omega), if_neg (by omega)] at hs; exact hs) (by simp only [List.length_cons]; omega) (fun q hq => ?_) (fun k hk => ?_)
            · rw [up2_ne _ _ _ hq]; exact q1 q hq
            · rw [up2_at]
              by_cases hk2 : k = st.length
              · rw [if_pos hk2, hk2, pl_top]
                have hfl := fx_lt hg hp hc ((t - 10) / 1000)
                have hm0 : (t - 10) / 100 % 10 < 2 ^ 31 := by omega
                unfold tst
                first
                  | (rw [if_pos (nI_inj hm0 (by decide) cm), decide_eq_true ((nI_ltI (by omega) (by omega)).mp (i_nle.mp cr))]; rfl)
                  | (rw [if_pos (nI_inj hm0 (by decide) cm), decide_eq_false (fun z => absurd cr (i_nle.mpr (nI_lt z (by omega))))]; rfl)
                  | (rw [if_neg (fun z => cm (by rw [z]; rfl)), if_pos (nI_inj hm0 (by decide) cm2), decide_eq_true (nI_inj (by omega) (by omega) cr)]; rfl)
                  | (rw [if_neg (fun z => cm (by rw [z]; rfl)), if_pos (nI_inj hm0 (by decide) cm2), decide_eq_false (fun z => cr (by rw [z]))]; rfl)
                  | (rw [if_neg (fun z => cm (by rw [z]; rfl)), if_neg (fun z => cm2 (by rw [z])), decide_eq_true ((nI_ltI (by omega) (by omega)).mp (i_nle.mp cr))]; rfl)
                  | (rw [if_neg (fun z => cm (by rw [z]; rfl)), if_neg (fun z => cm2 (by rw [z])), decide_eq_false (fun z => absurd cr (i_nle.mpr (nI_lt z (by omega))))]; rfl)
              · simp only [List.length_cons] at hk
                rw [if_neg hk2, pl_low _ _ (by omega)]
                exact q2 k (by omega)
  refine bk hX lkX12_ok (pc' := 11) [.iconst 0, .istore 4, .aload_n 0, .getfield 62, .iload_n 1, .iaload, .istore 5] (by decide +kernel) (And.intro (by exact vin 60 (by omega)) (And.intro trivial ?_))
  refine z_lvk (lv' := [(0, _), (1, _), (2, _), (3, _), (4, _), (5, _)]) [2, 3, 4, 5, 1, 0] rfl ?_
  simp only [ci]
  rw [show I (101 + 17) i = nI d from hfr]
  exact hl ts 0 [] I rfl (by omega) rfl hsh (by simpa using hl100) (fun _ _ => rfl) (fun k hk => absurd hk (Nat.not_lt_zero _))
